/-! the simple cases of the law, any store. Written by wip/prog/gen_simple2.py -/
set_option maxHeartbeats 4000000 in
set_option maxRecDepth 100000 in
/-- GameText.place()I -/
theorem lz_34 {d : Nat} {σ : st_S}  : vz_ev P0 (d + 1) 92 0 (lv_args 0 [.ref 1]) [] (hp σ) (.inl (some (.int (σ.1 1 9))), hp (σ)) := by
  refine ev_x (i := .aload_n 0) (len := 1) (p' := 1) (s' := [.ref 1]) rfl rfl rfl ?_
  refine ev_gi (p' := 4) (v := (σ.1 1 9)) rfl rfl rfl ly_1 rfl rfl rfl ?_
  exact ev_iret rfl rfl rfl rfl
set_option maxHeartbeats 4000000 in
set_option maxRecDepth 100000 in
/-- GameTextModel.place()I -/
theorem lz_35 {d : Nat} {σ : st_S}  : vz_ev P0 (d + 1) 208 0 (lv_args 0 [.ref 66]) [] (hp σ) (.inl (some (.int (σ.1 66 12))), hp (st_i (σ) 66 0 0)) := by
  refine ev_x (i := .aload_n 0) (len := 1) (p' := 1) (s' := [.ref 66]) rfl rfl rfl ?_
  refine ev_x (i := .iconst 0) (len := 1) (p' := 2) (s' := [.int 0, .ref 66]) rfl rfl rfl ?_
  refine ev_pi (p' := 5) rfl rfl rfl ly_66 rfl rfl rfl rfl ?_
  refine ev_x (i := .aload_n 0) (len := 1) (p' := 6) (s' := [.ref 66]) rfl rfl rfl ?_
  refine ev_gi (p' := 9) (v := (σ.1 66 12)) rfl rfl rfl ly_66 rfl rfl rfl ?_
  exact ev_iret rfl rfl rfl rfl
set_option maxHeartbeats 4000000 in
set_option maxRecDepth 100000 in
/-- GameTextLaw.law([I)Z -/
theorem lw_3_a0 {d : Nat} {σ : st_S} {q : vz_O × vz_H} {n L : Nat} {xs : Nat → Int32} (hs : gF σ 0 = .inl (0, L, .inl xs)) (hn : n + 6 ≤ L) (hL : L ≤ 3072) (c_1 : (σ.1 1 9) = (σ.1 66 12)) (k : vz_ev P0 (d + 2) 0 615 [(4, .int (nI n)), (3, .ref 187), (2, .ref 66), (1, .ref 1), (0, .ref 0)] [] (hp (st_i (σ) 66 0 0)) q) : vz_ev P0 (d + 2) 0 254 [(4, .int (nI n)), (3, .ref 187), (2, .ref 66), (1, .ref 1), (0, .ref 0)] [] (hp σ) q := by
  refine ev_x (i := .aload_n 1) (len := 1) (p' := 255) (s' := [.ref 1]) rfl rfl rfl ?_
  refine ev_cv (d := d + 1) (As := []) (a := 1) (p' := 258) rfl rfl rfl ly_1 rfl rfl rfl rfl rfl rfl rfl (lz_34 (d := d + 0) ) ?_
  refine ev_st (st' := [.int (σ.1 1 9)]) rfl ?_
  refine ev_x (i := .aload_n 2) (len := 1) (p' := 259) (s' := [.ref 66, .int (σ.1 1 9)]) rfl rfl rfl ?_
  refine ev_cv (d := d + 1) (As := []) (a := 66) (p' := 262) rfl rfl rfl ly_66 rfl rfl rfl rfl rfl rfl rfl (lz_35 (d := d + 0) ) ?_
  refine ev_st (st' := [.int (σ.1 66 12), .int (σ.1 1 9)]) rfl ?_
  refine ev_b2 (t := 615) (p' := 615) rfl rfl rfl (if_pos c_1) ?_
  exact k
set_option maxHeartbeats 4000000 in
set_option maxRecDepth 100000 in
/-- GameText.state()I -/
theorem lz_37 {d : Nat} {σ : st_S}  : vz_ev P0 (d + 1) 94 0 (lv_args 0 [.ref 1]) [] (hp σ) (.inl (some (.int (σ.1 62 9))), hp (σ)) := by
  refine ev_x (i := .aload_n 0) (len := 1) (p' := 1) (s' := [.ref 1]) rfl rfl rfl ?_
  refine ev_gc (p' := 4) (v := 62) rfl rfl rfl ly_1 rfl rfl ?_
  refine ev_gi (p' := 7) (v := (σ.1 62 9)) rfl rfl rfl ly_62 rfl rfl rfl ?_
  exact ev_iret rfl rfl rfl rfl
set_option maxHeartbeats 4000000 in
set_option maxRecDepth 100000 in
/-- GameTextModel.state()I -/
theorem lz_38 {d : Nat} {σ : st_S}  : vz_ev P0 (d + 1) 220 0 (lv_args 0 [.ref 66]) [] (hp σ) (.inl (some (.int (σ.1 66 30))), hp (st_i (σ) 66 0 0)) := by
  refine ev_x (i := .aload_n 0) (len := 1) (p' := 1) (s' := [.ref 66]) rfl rfl rfl ?_
  refine ev_x (i := .iconst 0) (len := 1) (p' := 2) (s' := [.int 0, .ref 66]) rfl rfl rfl ?_
  refine ev_pi (p' := 5) rfl rfl rfl ly_66 rfl rfl rfl rfl ?_
  refine ev_x (i := .aload_n 0) (len := 1) (p' := 6) (s' := [.ref 66]) rfl rfl rfl ?_
  refine ev_gi (p' := 9) (v := (σ.1 66 30)) rfl rfl rfl ly_66 rfl rfl rfl ?_
  exact ev_iret rfl rfl rfl rfl
set_option maxHeartbeats 4000000 in
set_option maxRecDepth 100000 in
/-- GameTextLaw.law([I)Z -/
theorem lw_6_a0 {d : Nat} {σ : st_S} {q : vz_O × vz_H} {n L : Nat} {xs : Nat → Int32} (hs : gF σ 0 = .inl (0, L, .inl xs)) (hn : n + 6 ≤ L) (hL : L ≤ 3072) (c_1 : (σ.1 62 9) = (σ.1 66 30)) (k : vz_ev P0 (d + 2) 0 615 [(4, .int (nI n)), (3, .ref 187), (2, .ref 66), (1, .ref 1), (0, .ref 0)] [] (hp (st_i (σ) 66 0 0)) q) : vz_ev P0 (d + 2) 0 336 [(4, .int (nI n)), (3, .ref 187), (2, .ref 66), (1, .ref 1), (0, .ref 0)] [] (hp σ) q := by
  refine ev_x (i := .aload_n 1) (len := 1) (p' := 337) (s' := [.ref 1]) rfl rfl rfl ?_
  refine ev_cv (d := d + 1) (As := []) (a := 1) (p' := 340) rfl rfl rfl ly_1 rfl rfl rfl rfl rfl rfl rfl (lz_37 (d := d + 0) ) ?_
  refine ev_st (st' := [.int (σ.1 62 9)]) rfl ?_
  refine ev_x (i := .aload_n 2) (len := 1) (p' := 341) (s' := [.ref 66, .int (σ.1 62 9)]) rfl rfl rfl ?_
  refine ev_cv (d := d + 1) (As := []) (a := 66) (p' := 344) rfl rfl rfl ly_66 rfl rfl rfl rfl rfl rfl rfl (lz_38 (d := d + 0) ) ?_
  refine ev_st (st' := [.int (σ.1 66 30), .int (σ.1 62 9)]) rfl ?_
  refine ev_b2 (t := 615) (p' := 615) rfl rfl rfl (if_pos c_1) ?_
  exact k
set_option maxHeartbeats 4000000 in
set_option maxRecDepth 100000 in
/-- GameText.states()I -/
theorem lz_40 {d : Nat} {σ : st_S}  : vz_ev P0 (d + 1) 95 0 (lv_args 0 [.ref 1]) [] (hp σ) (.inl (some (.int (σ.1 52 10))), hp (σ)) := by
  refine ev_x (i := .aload_n 0) (len := 1) (p' := 1) (s' := [.ref 1]) rfl rfl rfl ?_
  refine ev_gc (p' := 4) (v := 52) rfl rfl rfl ly_1 rfl rfl ?_
  refine ev_gi (p' := 7) (v := (σ.1 52 10)) rfl rfl rfl ly_52 rfl rfl rfl ?_
  exact ev_iret rfl rfl rfl rfl
set_option maxHeartbeats 4000000 in
set_option maxRecDepth 100000 in
/-- GameTextModel.states()I -/
theorem lz_41 {d : Nat} {σ : st_S}  : vz_ev P0 (d + 1) 221 0 (lv_args 0 [.ref 66]) [] (hp σ) (.inl (some (.int (σ.1 66 29))), hp (st_i (σ) 66 0 0)) := by
  refine ev_x (i := .aload_n 0) (len := 1) (p' := 1) (s' := [.ref 66]) rfl rfl rfl ?_
  refine ev_x (i := .iconst 0) (len := 1) (p' := 2) (s' := [.int 0, .ref 66]) rfl rfl rfl ?_
  refine ev_pi (p' := 5) rfl rfl rfl ly_66 rfl rfl rfl rfl ?_
  refine ev_x (i := .aload_n 0) (len := 1) (p' := 6) (s' := [.ref 66]) rfl rfl rfl ?_
  refine ev_gi (p' := 9) (v := (σ.1 66 29)) rfl rfl rfl ly_66 rfl rfl rfl ?_
  exact ev_iret rfl rfl rfl rfl
set_option maxHeartbeats 4000000 in
set_option maxRecDepth 100000 in
/-- GameTextLaw.law([I)Z -/
theorem lw_7_a0 {d : Nat} {σ : st_S} {q : vz_O × vz_H} {n L : Nat} {xs : Nat → Int32} (hs : gF σ 0 = .inl (0, L, .inl xs)) (hn : n + 6 ≤ L) (hL : L ≤ 3072) (c_1 : (σ.1 52 10) = (σ.1 66 29)) (k : vz_ev P0 (d + 2) 0 615 [(4, .int (nI n)), (3, .ref 187), (2, .ref 66), (1, .ref 1), (0, .ref 0)] [] (hp (st_i (σ) 66 0 0)) q) : vz_ev P0 (d + 2) 0 349 [(4, .int (nI n)), (3, .ref 187), (2, .ref 66), (1, .ref 1), (0, .ref 0)] [] (hp σ) q := by
  refine ev_x (i := .aload_n 1) (len := 1) (p' := 350) (s' := [.ref 1]) rfl rfl rfl ?_
  refine ev_cv (d := d + 1) (As := []) (a := 1) (p' := 353) rfl rfl rfl ly_1 rfl rfl rfl rfl rfl rfl rfl (lz_40 (d := d + 0) ) ?_
  refine ev_st (st' := [.int (σ.1 52 10)]) rfl ?_
  refine ev_x (i := .aload_n 2) (len := 1) (p' := 354) (s' := [.ref 66, .int (σ.1 52 10)]) rfl rfl rfl ?_
  refine ev_cv (d := d + 1) (As := []) (a := 66) (p' := 357) rfl rfl rfl ly_66 rfl rfl rfl rfl rfl rfl rfl (lz_41 (d := d + 0) ) ?_
  refine ev_st (st' := [.int (σ.1 66 29), .int (σ.1 52 10)]) rfl ?_
  refine ev_b2 (t := 615) (p' := 615) rfl rfl rfl (if_pos c_1) ?_
  exact k
set_option maxHeartbeats 4000000 in
set_option maxRecDepth 100000 in
/-- GameText$Graph.hasState(I)Z -/
theorem lz_43 {d : Nat} {σ : st_S} {y_1 : Int32} (c_1 : y_1 < 0) : vz_ev P0 (d + 1) 97 0 (lv_args 0 [.ref 52, .int y_1]) [] (hp σ) (.inl (some (.int 0)), hp (σ)) := by
  refine ev_x (i := .iload_n 1) (len := 1) (p' := 1) (s' := [.int y_1]) rfl rfl rfl ?_
  refine ev_b0 (t := 16) (p' := 16) rfl rfl rfl (if_pos c_1) ?_
  refine ev_x (i := .iconst 0) (len := 1) (p' := 17) (s' := [.int 0]) rfl rfl rfl ?_
  exact ev_iret rfl rfl rfl rfl
set_option maxHeartbeats 4000000 in
set_option maxRecDepth 100000 in
/-- GameText.kind(I)I -/
theorem lz_44 {d : Nat} {σ : st_S} {y_1 : Int32} (c_1 : y_1 < 0) : vz_ev P0 (d + 2) 96 0 (lv_args 0 [.ref 1, .int y_1]) [] (hp σ) (.inl (some (.int (-1))), hp (σ)) := by
  refine ev_x (i := .aload_n 0) (len := 1) (p' := 1) (s' := [.ref 1]) rfl rfl rfl ?_
  refine ev_gc (p' := 4) (v := 52) rfl rfl rfl ly_1 rfl rfl ?_
  refine ev_x (i := .iload_n 1) (len := 1) (p' := 5) (s' := [.int y_1, .ref 52]) rfl rfl rfl ?_
  refine ev_cv (d := d + 1) (As := [.int y_1]) (a := 52) (p' := 8) rfl rfl rfl ly_52 rfl rfl rfl rfl rfl rfl rfl (lz_43 (d := d + 0) (c_1 := c_1)) ?_
  refine ev_st (st' := [.int 0]) rfl ?_
  refine ev_b0 (t := 23) (p' := 23) rfl rfl rfl (by decide) ?_
  refine ev_x (i := .iconst (-1)) (len := 1) (p' := 24) (s' := [.int (-1)]) rfl rfl rfl ?_
  exact ev_iret rfl rfl rfl rfl
set_option maxHeartbeats 4000000 in
set_option maxRecDepth 100000 in
/-- GameTextModel.isState(I)Z -/
theorem lz_45 {d : Nat} {σ : st_S} {y_1 : Int32} (c_1 : y_1 < 0) : vz_ev P0 (d + 1) 224 0 (lv_args 0 [.ref 66, .int y_1]) [] (hp σ) (.inl (some (.int 0)), hp (st_i (σ) 66 0 0)) := by
  refine ev_x (i := .aload_n 0) (len := 1) (p' := 1) (s' := [.ref 66]) rfl rfl rfl ?_
  refine ev_x (i := .iconst 0) (len := 1) (p' := 2) (s' := [.int 0, .ref 66]) rfl rfl rfl ?_
  refine ev_pi (p' := 5) rfl rfl rfl ly_66 rfl rfl rfl rfl ?_
  refine ev_x (i := .iload_n 1) (len := 1) (p' := 6) (s' := [.int y_1]) rfl rfl rfl ?_
  refine ev_b0 (t := 21) (p' := 21) rfl rfl rfl (if_pos c_1) ?_
  refine ev_x (i := .iconst 0) (len := 1) (p' := 22) (s' := [.int 0]) rfl rfl rfl ?_
  exact ev_iret rfl rfl rfl rfl
set_option maxHeartbeats 4000000 in
set_option maxRecDepth 100000 in
/-- GameTextModel.kind(I)I -/
theorem lz_46 {d : Nat} {σ : st_S} {y_1 : Int32} (c_1 : y_1 < 0) : vz_ev P0 (d + 2) 223 0 (lv_args 0 [.ref 66, .int y_1]) [] (hp σ) (.inl (some (.int (-1))), hp (st_i (σ) 66 0 0)) := by
  refine ev_x (i := .aload_n 0) (len := 1) (p' := 1) (s' := [.ref 66]) rfl rfl rfl ?_
  refine ev_x (i := .iload_n 1) (len := 1) (p' := 2) (s' := [.int y_1, .ref 66]) rfl rfl rfl ?_
  refine ev_cv (d := d + 1) (As := [.int y_1]) (a := 66) (p' := 5) rfl rfl rfl ly_66 rfl rfl rfl rfl rfl rfl rfl (lz_45 (d := d + 0) (c_1 := c_1)) ?_
  refine ev_st (st' := [.int 0]) rfl ?_
  refine ev_b0 (t := 17) (p' := 17) rfl rfl rfl (by decide) ?_
  refine ev_x (i := .iconst (-1)) (len := 1) (p' := 18) (s' := [.int (-1)]) rfl rfl rfl ?_
  exact ev_iret rfl rfl rfl rfl
set_option maxHeartbeats 4000000 in
set_option maxRecDepth 100000 in
/-- GameTextLaw.law([I)Z -/
theorem lw_9n_a0 {d : Nat} {σ : st_S} {q : vz_O × vz_H} {n L : Nat} {xs : Nat → Int32} (hs : gF σ 0 = .inl (0, L, .inl xs)) (hn : n + 6 ≤ L) (hL : L ≤ 3072) (c_1 : (xs (n + 1)) < 0) (k : vz_ev P0 (d + 3) 0 615 [(4, .int (nI n)), (3, .ref 187), (2, .ref 66), (1, .ref 1), (0, .ref 0)] [] (hp (st_i (σ) 66 0 0)) q) : vz_ev P0 (d + 3) 0 430 [(4, .int (nI n)), (3, .ref 187), (2, .ref 66), (1, .ref 1), (0, .ref 0)] [] (hp σ) q := by
  refine ev_x (i := .aload_n 1) (len := 1) (p' := 431) (s' := [.ref 1]) rfl rfl rfl ?_
  refine ev_x (i := .aload_n 0) (len := 1) (p' := 432) (s' := [.ref 0, .ref 1]) rfl rfl rfl ?_
  refine ev_x (i := .iload 4) (len := 2) (p' := 434) (s' := [.int (nI n), .ref 0, .ref 1]) rfl rfl rfl ?_
  refine ev_x (i := .iconst 1) (len := 1) (p' := 435) (s' := [.int 1, .int (nI n), .ref 0, .ref 1]) rfl rfl rfl ?_
  refine ev_x (i := .iadd) (len := 1) (p' := 436) (s' := [.int ((nI n) + 1), .ref 0, .ref 1]) rfl rfl rfl ?_
  refine ev_st (st' := [.int (nI (n + 1)), .ref 0, .ref 1]) (congrArg (fun z => Value.int z :: [.ref 0, .ref 1]) (nI_add n 1)) ?_
  refine ev_sg (p' := 437) rfl rfl hs (vp_in_nI (by omega) (by omega)) rfl ?_
  refine ev_st (st' := [.int (xs (n + 1)), .ref 1]) (congrArg (fun z => Value.int (xs z) :: [.ref 1]) (nI_clamp (n := n + 1) (by omega))) ?_
  refine ev_cv (d := d + 2) (As := [.int (xs (n + 1))]) (a := 1) (p' := 440) rfl rfl rfl ly_1 rfl rfl rfl rfl rfl rfl rfl (lz_44 (d := d + 0) (c_1 := c_1)) ?_
  refine ev_st (st' := [.int (-1)]) rfl ?_
  refine ev_x (i := .aload_n 2) (len := 1) (p' := 441) (s' := [.ref 66, .int (-1)]) rfl rfl rfl ?_
  refine ev_x (i := .aload_n 0) (len := 1) (p' := 442) (s' := [.ref 0, .ref 66, .int (-1)]) rfl rfl rfl ?_
  refine ev_x (i := .iload 4) (len := 2) (p' := 444) (s' := [.int (nI n), .ref 0, .ref 66, .int (-1)]) rfl rfl rfl ?_
  refine ev_x (i := .iconst 1) (len := 1) (p' := 445) (s' := [.int 1, .int (nI n), .ref 0, .ref 66, .int (-1)]) rfl rfl rfl ?_
  refine ev_x (i := .iadd) (len := 1) (p' := 446) (s' := [.int ((nI n) + 1), .ref 0, .ref 66, .int (-1)]) rfl rfl rfl ?_
  refine ev_st (st' := [.int (nI (n + 1)), .ref 0, .ref 66, .int (-1)]) (congrArg (fun z => Value.int z :: [.ref 0, .ref 66, .int (-1)]) (nI_add n 1)) ?_
  refine ev_sg (p' := 447) rfl rfl hs (vp_in_nI (by omega) (by omega)) rfl ?_
  refine ev_st (st' := [.int (xs (n + 1)), .ref 66, .int (-1)]) (congrArg (fun z => Value.int (xs z) :: [.ref 66, .int (-1)]) (nI_clamp (n := n + 1) (by omega))) ?_
  refine ev_cv (d := d + 2) (As := [.int (xs (n + 1))]) (a := 66) (p' := 450) rfl rfl rfl ly_66 rfl rfl rfl rfl rfl rfl rfl (lz_46 (d := d + 0) (c_1 := c_1)) ?_
  refine ev_st (st' := [.int (-1), .int (-1)]) rfl ?_
  refine ev_b2 (t := 615) (p' := 615) rfl rfl rfl (by decide) ?_
  exact k
set_option maxHeartbeats 4000000 in
set_option maxRecDepth 100000 in
/-- GameText$Graph.hasState(I)Z -/
theorem lz_48 {d : Nat} {σ : st_S} {y_1 : Int32} (c_1 : ¬ (y_1 < 0)) (c_2 : (σ.1 52 10) ≤ y_1) : vz_ev P0 (d + 1) 97 0 (lv_args 0 [.ref 52, .int y_1]) [] (hp σ) (.inl (some (.int 0)), hp (σ)) := by
  refine ev_x (i := .iload_n 1) (len := 1) (p' := 1) (s' := [.int y_1]) rfl rfl rfl ?_
  refine ev_b0 (t := 16) (p' := 4) rfl rfl rfl (if_neg c_1) ?_
  refine ev_x (i := .iload_n 1) (len := 1) (p' := 5) (s' := [.int y_1]) rfl rfl rfl ?_
  refine ev_x (i := .aload_n 0) (len := 1) (p' := 6) (s' := [.ref 52, .int y_1]) rfl rfl rfl ?_
  refine ev_gi (p' := 9) (v := (σ.1 52 10)) rfl rfl rfl ly_52 rfl rfl rfl ?_
  refine ev_b2 (t := 16) (p' := 16) rfl rfl rfl (if_pos c_2) ?_
  refine ev_x (i := .iconst 0) (len := 1) (p' := 17) (s' := [.int 0]) rfl rfl rfl ?_
  exact ev_iret rfl rfl rfl rfl
set_option maxHeartbeats 4000000 in
set_option maxRecDepth 100000 in
/-- GameText.kind(I)I -/
theorem lz_49 {d : Nat} {σ : st_S} {y_1 : Int32} (c_1 : ¬ (y_1 < 0)) (c_2 : (σ.1 52 10) ≤ y_1) : vz_ev P0 (d + 2) 96 0 (lv_args 0 [.ref 1, .int y_1]) [] (hp σ) (.inl (some (.int (-1))), hp (σ)) := by
  refine ev_x (i := .aload_n 0) (len := 1) (p' := 1) (s' := [.ref 1]) rfl rfl rfl ?_
  refine ev_gc (p' := 4) (v := 52) rfl rfl rfl ly_1 rfl rfl ?_
  refine ev_x (i := .iload_n 1) (len := 1) (p' := 5) (s' := [.int y_1, .ref 52]) rfl rfl rfl ?_
  refine ev_cv (d := d + 1) (As := [.int y_1]) (a := 52) (p' := 8) rfl rfl rfl ly_52 rfl rfl rfl rfl rfl rfl rfl (lz_48 (d := d + 0) (c_1 := c_1) (c_2 := c_2)) ?_
  refine ev_st (st' := [.int 0]) rfl ?_
  refine ev_b0 (t := 23) (p' := 23) rfl rfl rfl (by decide) ?_
  refine ev_x (i := .iconst (-1)) (len := 1) (p' := 24) (s' := [.int (-1)]) rfl rfl rfl ?_
  exact ev_iret rfl rfl rfl rfl
set_option maxHeartbeats 4000000 in
set_option maxRecDepth 100000 in
/-- GameTextModel.isState(I)Z -/
theorem lz_50 {d : Nat} {σ : st_S} {y_1 : Int32} (c_1 : ¬ (y_1 < 0)) (c_2 : (σ.1 66 29) ≤ y_1) : vz_ev P0 (d + 1) 224 0 (lv_args 0 [.ref 66, .int y_1]) [] (hp σ) (.inl (some (.int 0)), hp (st_i (σ) 66 0 0)) := by
  refine ev_x (i := .aload_n 0) (len := 1) (p' := 1) (s' := [.ref 66]) rfl rfl rfl ?_
  refine ev_x (i := .iconst 0) (len := 1) (p' := 2) (s' := [.int 0, .ref 66]) rfl rfl rfl ?_
  refine ev_pi (p' := 5) rfl rfl rfl ly_66 rfl rfl rfl rfl ?_
  refine ev_x (i := .iload_n 1) (len := 1) (p' := 6) (s' := [.int y_1]) rfl rfl rfl ?_
  refine ev_b0 (t := 21) (p' := 9) rfl rfl rfl (if_neg c_1) ?_
  refine ev_x (i := .iload_n 1) (len := 1) (p' := 10) (s' := [.int y_1]) rfl rfl rfl ?_
  refine ev_x (i := .aload_n 0) (len := 1) (p' := 11) (s' := [.ref 66, .int y_1]) rfl rfl rfl ?_
  refine ev_gi (p' := 14) (v := (σ.1 66 29)) rfl rfl rfl ly_66 rfl rfl rfl ?_
  refine ev_b2 (t := 21) (p' := 21) rfl rfl rfl (if_pos c_2) ?_
  refine ev_x (i := .iconst 0) (len := 1) (p' := 22) (s' := [.int 0]) rfl rfl rfl ?_
  exact ev_iret rfl rfl rfl rfl
set_option maxHeartbeats 4000000 in
set_option maxRecDepth 100000 in
/-- GameTextModel.kind(I)I -/
theorem lz_51 {d : Nat} {σ : st_S} {y_1 : Int32} (c_1 : ¬ (y_1 < 0)) (c_2 : (σ.1 66 29) ≤ y_1) : vz_ev P0 (d + 2) 223 0 (lv_args 0 [.ref 66, .int y_1]) [] (hp σ) (.inl (some (.int (-1))), hp (st_i (σ) 66 0 0)) := by
  refine ev_x (i := .aload_n 0) (len := 1) (p' := 1) (s' := [.ref 66]) rfl rfl rfl ?_
  refine ev_x (i := .iload_n 1) (len := 1) (p' := 2) (s' := [.int y_1, .ref 66]) rfl rfl rfl ?_
  refine ev_cv (d := d + 1) (As := [.int y_1]) (a := 66) (p' := 5) rfl rfl rfl ly_66 rfl rfl rfl rfl rfl rfl rfl (lz_50 (d := d + 0) (c_1 := c_1) (c_2 := c_2)) ?_
  refine ev_st (st' := [.int 0]) rfl ?_
  refine ev_b0 (t := 17) (p' := 17) rfl rfl rfl (by decide) ?_
  refine ev_x (i := .iconst (-1)) (len := 1) (p' := 18) (s' := [.int (-1)]) rfl rfl rfl ?_
  exact ev_iret rfl rfl rfl rfl
set_option maxHeartbeats 4000000 in
set_option maxRecDepth 100000 in
/-- GameTextLaw.law([I)Z -/
theorem lw_9g_a0 {d : Nat} {σ : st_S} {q : vz_O × vz_H} {n L : Nat} {xs : Nat → Int32} (hs : gF σ 0 = .inl (0, L, .inl xs)) (hn : n + 6 ≤ L) (hL : L ≤ 3072) (c_1 : ¬ ((xs (n + 1)) < 0)) (c_2 : (σ.1 52 10) ≤ (xs (n + 1))) (c_3 : (σ.1 66 29) ≤ (xs (n + 1))) (k : vz_ev P0 (d + 3) 0 615 [(4, .int (nI n)), (3, .ref 187), (2, .ref 66), (1, .ref 1), (0, .ref 0)] [] (hp (st_i (σ) 66 0 0)) q) : vz_ev P0 (d + 3) 0 430 [(4, .int (nI n)), (3, .ref 187), (2, .ref 66), (1, .ref 1), (0, .ref 0)] [] (hp σ) q := by
  refine ev_x (i := .aload_n 1) (len := 1) (p' := 431) (s' := [.ref 1]) rfl rfl rfl ?_
  refine ev_x (i := .aload_n 0) (len := 1) (p' := 432) (s' := [.ref 0, .ref 1]) rfl rfl rfl ?_
  refine ev_x (i := .iload 4) (len := 2) (p' := 434) (s' := [.int (nI n), .ref 0, .ref 1]) rfl rfl rfl ?_
  refine ev_x (i := .iconst 1) (len := 1) (p' := 435) (s' := [.int 1, .int (nI n), .ref 0, .ref 1]) rfl rfl rfl ?_
  refine ev_x (i := .iadd) (len := 1) (p' := 436) (s' := [.int ((nI n) + 1), .ref 0, .ref 1]) rfl rfl rfl ?_
  refine ev_st (st' := [.int (nI (n + 1)), .ref 0, .ref 1]) (congrArg (fun z => Value.int z :: [.ref 0, .ref 1]) (nI_add n 1)) ?_
  refine ev_sg (p' := 437) rfl rfl hs (vp_in_nI (by omega) (by omega)) rfl ?_
  refine ev_st (st' := [.int (xs (n + 1)), .ref 1]) (congrArg (fun z => Value.int (xs z) :: [.ref 1]) (nI_clamp (n := n + 1) (by omega))) ?_
  refine ev_cv (d := d + 2) (As := [.int (xs (n + 1))]) (a := 1) (p' := 440) rfl rfl rfl ly_1 rfl rfl rfl rfl rfl rfl rfl (lz_49 (d := d + 0) (c_1 := c_1) (c_2 := c_2)) ?_
  refine ev_st (st' := [.int (-1)]) rfl ?_
  refine ev_x (i := .aload_n 2) (len := 1) (p' := 441) (s' := [.ref 66, .int (-1)]) rfl rfl rfl ?_
  refine ev_x (i := .aload_n 0) (len := 1) (p' := 442) (s' := [.ref 0, .ref 66, .int (-1)]) rfl rfl rfl ?_
  refine ev_x (i := .iload 4) (len := 2) (p' := 444) (s' := [.int (nI n), .ref 0, .ref 66, .int (-1)]) rfl rfl rfl ?_
  refine ev_x (i := .iconst 1) (len := 1) (p' := 445) (s' := [.int 1, .int (nI n), .ref 0, .ref 66, .int (-1)]) rfl rfl rfl ?_
  refine ev_x (i := .iadd) (len := 1) (p' := 446) (s' := [.int ((nI n) + 1), .ref 0, .ref 66, .int (-1)]) rfl rfl rfl ?_
  refine ev_st (st' := [.int (nI (n + 1)), .ref 0, .ref 66, .int (-1)]) (congrArg (fun z => Value.int z :: [.ref 0, .ref 66, .int (-1)]) (nI_add n 1)) ?_
  refine ev_sg (p' := 447) rfl rfl hs (vp_in_nI (by omega) (by omega)) rfl ?_
  refine ev_st (st' := [.int (xs (n + 1)), .ref 66, .int (-1)]) (congrArg (fun z => Value.int (xs z) :: [.ref 66, .int (-1)]) (nI_clamp (n := n + 1) (by omega))) ?_
  refine ev_cv (d := d + 2) (As := [.int (xs (n + 1))]) (a := 66) (p' := 450) rfl rfl rfl ly_66 rfl rfl rfl rfl rfl rfl rfl (lz_51 (d := d + 0) (c_1 := c_1) (c_2 := c_3)) ?_
  refine ev_st (st' := [.int (-1), .int (-1)]) rfl ?_
  refine ev_b2 (t := 615) (p' := 615) rfl rfl rfl (by decide) ?_
  exact k
set_option maxHeartbeats 4000000 in
set_option maxRecDepth 100000 in
/-- GameText$Graph.hasState(I)Z -/
theorem lz_53 {d : Nat} {σ : st_S} {y_1 : Int32} (c_1 : ¬ (y_1 < 0)) (c_2 : ¬ ((σ.1 52 10) ≤ y_1)) : vz_ev P0 (d + 1) 97 0 (lv_args 0 [.ref 52, .int y_1]) [] (hp σ) (.inl (some (.int 1)), hp (σ)) := by
  refine ev_x (i := .iload_n 1) (len := 1) (p' := 1) (s' := [.int y_1]) rfl rfl rfl ?_
  refine ev_b0 (t := 16) (p' := 4) rfl rfl rfl (if_neg c_1) ?_
  refine ev_x (i := .iload_n 1) (len := 1) (p' := 5) (s' := [.int y_1]) rfl rfl rfl ?_
  refine ev_x (i := .aload_n 0) (len := 1) (p' := 6) (s' := [.ref 52, .int y_1]) rfl rfl rfl ?_
  refine ev_gi (p' := 9) (v := (σ.1 52 10)) rfl rfl rfl ly_52 rfl rfl rfl ?_
  refine ev_b2 (t := 16) (p' := 12) rfl rfl rfl (if_neg c_2) ?_
  refine ev_x (i := .iconst 1) (len := 1) (p' := 13) (s' := [.int 1]) rfl rfl rfl ?_
  refine ev_x (i := .goto 4) (len := 3) (p' := 17) (s' := [.int 1]) rfl rfl rfl ?_
  exact ev_iret rfl rfl rfl rfl
set_option maxHeartbeats 4000000 in
set_option maxRecDepth 100000 in
/-- GameText.kind(I)I -/
theorem lz_54 {d : Nat} {σ : st_S} {y_1 : Int32} (c_1 : ¬ (y_1 < 0)) (c_2 : ¬ ((σ.1 52 10) ≤ y_1)) (c_3 : vp_in y_1 (gN σ 55)) : vz_ev P0 (d + 2) 96 0 (lv_args 0 [.ref 1, .int y_1]) [] (hp σ) (.inl (some (.int (gE σ 55 ((y_1).toNatClampNeg)))), hp (σ)) := by
  refine ev_x (i := .aload_n 0) (len := 1) (p' := 1) (s' := [.ref 1]) rfl rfl rfl ?_
  refine ev_gc (p' := 4) (v := 52) rfl rfl rfl ly_1 rfl rfl ?_
  refine ev_x (i := .iload_n 1) (len := 1) (p' := 5) (s' := [.int y_1, .ref 52]) rfl rfl rfl ?_
  refine ev_cv (d := d + 1) (As := [.int y_1]) (a := 52) (p' := 8) rfl rfl rfl ly_52 rfl rfl rfl rfl rfl rfl rfl (lz_53 (d := d + 0) (c_1 := c_1) (c_2 := c_2)) ?_
  refine ev_st (st' := [.int 1]) rfl ?_
  refine ev_b0 (t := 23) (p' := 11) rfl rfl rfl (by decide) ?_
  refine ev_x (i := .aload_n 0) (len := 1) (p' := 12) (s' := [.ref 1]) rfl rfl rfl ?_
  refine ev_gc (p' := 15) (v := 52) rfl rfl rfl ly_1 rfl rfl ?_
  refine ev_gc (p' := 18) (v := 55) rfl rfl rfl ly_52 rfl rfl ?_
  refine ev_x (i := .iload_n 1) (len := 1) (p' := 19) (s' := [.int y_1, .ref 55]) rfl rfl rfl ?_
  refine ev_ga (p' := 20) (v := (gE σ 55 ((y_1).toNatClampNeg))) rfl rfl ly_55 rfl c_3 rfl ?_
  refine ev_x (i := .goto 4) (len := 3) (p' := 24) (s' := [.int (gE σ 55 ((y_1).toNatClampNeg))]) rfl rfl rfl ?_
  exact ev_iret rfl rfl rfl rfl
set_option maxHeartbeats 4000000 in
set_option maxRecDepth 100000 in
/-- GameTextModel.isState(I)Z -/
theorem lz_55 {d : Nat} {σ : st_S} {y_1 : Int32} (c_1 : ¬ (y_1 < 0)) (c_2 : ¬ ((σ.1 66 29) ≤ y_1)) : vz_ev P0 (d + 1) 224 0 (lv_args 0 [.ref 66, .int y_1]) [] (hp σ) (.inl (some (.int 1)), hp (st_i (σ) 66 0 0)) := by
  refine ev_x (i := .aload_n 0) (len := 1) (p' := 1) (s' := [.ref 66]) rfl rfl rfl ?_
  refine ev_x (i := .iconst 0) (len := 1) (p' := 2) (s' := [.int 0, .ref 66]) rfl rfl rfl ?_
  refine ev_pi (p' := 5) rfl rfl rfl ly_66 rfl rfl rfl rfl ?_
  refine ev_x (i := .iload_n 1) (len := 1) (p' := 6) (s' := [.int y_1]) rfl rfl rfl ?_
  refine ev_b0 (t := 21) (p' := 9) rfl rfl rfl (if_neg c_1) ?_
  refine ev_x (i := .iload_n 1) (len := 1) (p' := 10) (s' := [.int y_1]) rfl rfl rfl ?_
  refine ev_x (i := .aload_n 0) (len := 1) (p' := 11) (s' := [.ref 66, .int y_1]) rfl rfl rfl ?_
  refine ev_gi (p' := 14) (v := (σ.1 66 29)) rfl rfl rfl ly_66 rfl rfl rfl ?_
  refine ev_b2 (t := 21) (p' := 17) rfl rfl rfl (if_neg c_2) ?_
  refine ev_x (i := .iconst 1) (len := 1) (p' := 18) (s' := [.int 1]) rfl rfl rfl ?_
  refine ev_x (i := .goto 4) (len := 3) (p' := 22) (s' := [.int 1]) rfl rfl rfl ?_
  exact ev_iret rfl rfl rfl rfl
set_option maxHeartbeats 4000000 in
set_option maxRecDepth 100000 in
/-- GameTextModel.kind(I)I -/
theorem lz_56 {d : Nat} {σ : st_S} {y_1 : Int32} (c_1 : ¬ (y_1 < 0)) (c_2 : ¬ ((σ.1 66 29) ≤ y_1)) (c_3 : vp_in y_1 (gN σ 172)) : vz_ev P0 (d + 2) 223 0 (lv_args 0 [.ref 66, .int y_1]) [] (hp σ) (.inl (some (.int (gE σ 172 ((y_1).toNatClampNeg)))), hp (st_i (σ) 66 0 0)) := by
  refine ev_x (i := .aload_n 0) (len := 1) (p' := 1) (s' := [.ref 66]) rfl rfl rfl ?_
  refine ev_x (i := .iload_n 1) (len := 1) (p' := 2) (s' := [.int y_1, .ref 66]) rfl rfl rfl ?_
  refine ev_cv (d := d + 1) (As := [.int y_1]) (a := 66) (p' := 5) rfl rfl rfl ly_66 rfl rfl rfl rfl rfl rfl rfl (lz_55 (d := d + 0) (c_1 := c_1) (c_2 := c_2)) ?_
  refine ev_st (st' := [.int 1]) rfl ?_
  refine ev_b0 (t := 17) (p' := 8) rfl rfl rfl (by decide) ?_
  refine ev_x (i := .aload_n 0) (len := 1) (p' := 9) (s' := [.ref 66]) rfl rfl rfl ?_
  refine ev_gc (p' := 12) (v := 172) rfl rfl rfl ly_66 rfl rfl ?_
  refine ev_x (i := .iload_n 1) (len := 1) (p' := 13) (s' := [.int y_1, .ref 172]) rfl rfl rfl ?_
  refine ev_ga (p' := 14) (v := (gE σ 172 ((y_1).toNatClampNeg))) rfl rfl ly_172 rfl c_3 rfl ?_
  refine ev_x (i := .goto 4) (len := 3) (p' := 18) (s' := [.int (gE σ 172 ((y_1).toNatClampNeg))]) rfl rfl rfl ?_
  exact ev_iret rfl rfl rfl rfl
set_option maxHeartbeats 4000000 in
set_option maxRecDepth 100000 in
/-- GameTextLaw.law([I)Z -/
theorem lw_9o_a0 {d : Nat} {σ : st_S} {q : vz_O × vz_H} {n L : Nat} {xs : Nat → Int32} (hs : gF σ 0 = .inl (0, L, .inl xs)) (hn : n + 6 ≤ L) (hL : L ≤ 3072) (c_1 : ¬ ((xs (n + 1)) < 0)) (c_2 : ¬ ((σ.1 52 10) ≤ (xs (n + 1)))) (c_3 : vp_in (xs (n + 1)) (gN σ 55)) (c_4 : ¬ ((σ.1 66 29) ≤ (xs (n + 1)))) (c_5 : vp_in (xs (n + 1)) (gN σ 172)) (c_6 : (gE σ 55 (((xs (n + 1))).toNatClampNeg)) = (gE σ 172 (((xs (n + 1))).toNatClampNeg))) (k : vz_ev P0 (d + 3) 0 615 [(4, .int (nI n)), (3, .ref 187), (2, .ref 66), (1, .ref 1), (0, .ref 0)] [] (hp (st_i (σ) 66 0 0)) q) : vz_ev P0 (d + 3) 0 430 [(4, .int (nI n)), (3, .ref 187), (2, .ref 66), (1, .ref 1), (0, .ref 0)] [] (hp σ) q := by
  refine ev_x (i := .aload_n 1) (len := 1) (p' := 431) (s' := [.ref 1]) rfl rfl rfl ?_
  refine ev_x (i := .aload_n 0) (len := 1) (p' := 432) (s' := [.ref 0, .ref 1]) rfl rfl rfl ?_
  refine ev_x (i := .iload 4) (len := 2) (p' := 434) (s' := [.int (nI n), .ref 0, .ref 1]) rfl rfl rfl ?_
  refine ev_x (i := .iconst 1) (len := 1) (p' := 435) (s' := [.int 1, .int (nI n), .ref 0, .ref 1]) rfl rfl rfl ?_
  refine ev_x (i := .iadd) (len := 1) (p' := 436) (s' := [.int ((nI n) + 1), .ref 0, .ref 1]) rfl rfl rfl ?_
  refine ev_st (st' := [.int (nI (n + 1)), .ref 0, .ref 1]) (congrArg (fun z => Value.int z :: [.ref 0, .ref 1]) (nI_add n 1)) ?_
  refine ev_sg (p' := 437) rfl rfl hs (vp_in_nI (by omega) (by omega)) rfl ?_
  refine ev_st (st' := [.int (xs (n + 1)), .ref 1]) (congrArg (fun z => Value.int (xs z) :: [.ref 1]) (nI_clamp (n := n + 1) (by omega))) ?_
  refine ev_cv (d := d + 2) (As := [.int (xs (n + 1))]) (a := 1) (p' := 440) rfl rfl rfl ly_1 rfl rfl rfl rfl rfl rfl rfl (lz_54 (d := d + 0) (c_1 := c_1) (c_2 := c_2) (c_3 := c_3)) ?_
  refine ev_st (st' := [.int (gE σ 55 (((xs (n + 1))).toNatClampNeg))]) rfl ?_
  refine ev_x (i := .aload_n 2) (len := 1) (p' := 441) (s' := [.ref 66, .int (gE σ 55 (((xs (n + 1))).toNatClampNeg))]) rfl rfl rfl ?_
  refine ev_x (i := .aload_n 0) (len := 1) (p' := 442) (s' := [.ref 0, .ref 66, .int (gE σ 55 (((xs (n + 1))).toNatClampNeg))]) rfl rfl rfl ?_
  refine ev_x (i := .iload 4) (len := 2) (p' := 444) (s' := [.int (nI n), .ref 0, .ref 66, .int (gE σ 55 (((xs (n + 1))).toNatClampNeg))]) rfl rfl rfl ?_
  refine ev_x (i := .iconst 1) (len := 1) (p' := 445) (s' := [.int 1, .int (nI n), .ref 0, .ref 66, .int (gE σ 55 (((xs (n + 1))).toNatClampNeg))]) rfl rfl rfl ?_
  refine ev_x (i := .iadd) (len := 1) (p' := 446) (s' := [.int ((nI n) + 1), .ref 0, .ref 66, .int (gE σ 55 (((xs (n + 1))).toNatClampNeg))]) rfl rfl rfl ?_
  refine ev_st (st' := [.int (nI (n + 1)), .ref 0, .ref 66, .int (gE σ 55 (((xs (n + 1))).toNatClampNeg))]) (congrArg (fun z => Value.int z :: [.ref 0, .ref 66, .int (gE σ 55 (((xs (n + 1))).toNatClampNeg))]) (nI_add n 1)) ?_
  refine ev_sg (p' := 447) rfl rfl hs (vp_in_nI (by omega) (by omega)) rfl ?_
  refine ev_st (st' := [.int (xs (n + 1)), .ref 66, .int (gE σ 55 (((xs (n + 1))).toNatClampNeg))]) (congrArg (fun z => Value.int (xs z) :: [.ref 66, .int (gE σ 55 (((xs (n + 1))).toNatClampNeg))]) (nI_clamp (n := n + 1) (by omega))) ?_
  refine ev_cv (d := d + 2) (As := [.int (xs (n + 1))]) (a := 66) (p' := 450) rfl rfl rfl ly_66 rfl rfl rfl rfl rfl rfl rfl (lz_56 (d := d + 0) (c_1 := c_1) (c_2 := c_4) (c_3 := c_5)) ?_
  refine ev_st (st' := [.int (gE σ 172 (((xs (n + 1))).toNatClampNeg)), .int (gE σ 55 (((xs (n + 1))).toNatClampNeg))]) rfl ?_
  refine ev_b2 (t := 615) (p' := 615) rfl rfl rfl (if_pos c_6) ?_
  exact k
set_option maxHeartbeats 4000000 in
set_option maxRecDepth 100000 in
/-- GameText.commands(I)I -/
theorem lz_59 {d : Nat} {σ : st_S} {y_1 : Int32} (c_1 : y_1 < 0) : vz_ev P0 (d + 2) 98 0 (lv_args 0 [.ref 1, .int y_1]) [] (hp σ) (.inl (some (.int (-1))), hp (σ)) := by
  refine ev_x (i := .aload_n 0) (len := 1) (p' := 1) (s' := [.ref 1]) rfl rfl rfl ?_
  refine ev_gc (p' := 4) (v := 52) rfl rfl rfl ly_1 rfl rfl ?_
  refine ev_x (i := .iload_n 1) (len := 1) (p' := 5) (s' := [.int y_1, .ref 52]) rfl rfl rfl ?_
  refine ev_cv (d := d + 1) (As := [.int y_1]) (a := 52) (p' := 8) rfl rfl rfl ly_52 rfl rfl rfl rfl rfl rfl rfl (lz_43 (d := d + 0) (c_1 := c_1)) ?_
  refine ev_st (st' := [.int 0]) rfl ?_
  refine ev_b0 (t := 35) (p' := 35) rfl rfl rfl (by decide) ?_
  refine ev_x (i := .iconst (-1)) (len := 1) (p' := 36) (s' := [.int (-1)]) rfl rfl rfl ?_
  exact ev_iret rfl rfl rfl rfl
set_option maxHeartbeats 4000000 in
set_option maxRecDepth 100000 in
/-- GameTextModel.commands(I)I -/
theorem lz_61 {d : Nat} {σ : st_S} {y_1 : Int32} (c_1 : y_1 < 0) : vz_ev P0 (d + 2) 225 0 (lv_args 0 [.ref 66, .int y_1]) [] (hp σ) (.inl (some (.int (-1))), hp (st_i (σ) 66 0 0)) := by
  refine ev_x (i := .aload_n 0) (len := 1) (p' := 1) (s' := [.ref 66]) rfl rfl rfl ?_
  refine ev_x (i := .iload_n 1) (len := 1) (p' := 2) (s' := [.int y_1, .ref 66]) rfl rfl rfl ?_
  refine ev_cv (d := d + 1) (As := [.int y_1]) (a := 66) (p' := 5) rfl rfl rfl ly_66 rfl rfl rfl rfl rfl rfl rfl (lz_45 (d := d + 0) (c_1 := c_1)) ?_
  refine ev_st (st' := [.int 0]) rfl ?_
  refine ev_b0 (t := 17) (p' := 17) rfl rfl rfl (by decide) ?_
  refine ev_x (i := .iconst (-1)) (len := 1) (p' := 18) (s' := [.int (-1)]) rfl rfl rfl ?_
  exact ev_iret rfl rfl rfl rfl
set_option maxHeartbeats 4000000 in
set_option maxRecDepth 100000 in
/-- GameTextLaw.law([I)Z -/
theorem lw_10n_a0 {d : Nat} {σ : st_S} {q : vz_O × vz_H} {n L : Nat} {xs : Nat → Int32} (hs : gF σ 0 = .inl (0, L, .inl xs)) (hn : n + 6 ≤ L) (hL : L ≤ 3072) (c_1 : (xs (n + 1)) < 0) (k : vz_ev P0 (d + 3) 0 615 [(4, .int (nI n)), (3, .ref 187), (2, .ref 66), (1, .ref 1), (0, .ref 0)] [] (hp (st_i (σ) 66 0 0)) q) : vz_ev P0 (d + 3) 0 455 [(4, .int (nI n)), (3, .ref 187), (2, .ref 66), (1, .ref 1), (0, .ref 0)] [] (hp σ) q := by
  refine ev_x (i := .aload_n 1) (len := 1) (p' := 456) (s' := [.ref 1]) rfl rfl rfl ?_
  refine ev_x (i := .aload_n 0) (len := 1) (p' := 457) (s' := [.ref 0, .ref 1]) rfl rfl rfl ?_
  refine ev_x (i := .iload 4) (len := 2) (p' := 459) (s' := [.int (nI n), .ref 0, .ref 1]) rfl rfl rfl ?_
  refine ev_x (i := .iconst 1) (len := 1) (p' := 460) (s' := [.int 1, .int (nI n), .ref 0, .ref 1]) rfl rfl rfl ?_
  refine ev_x (i := .iadd) (len := 1) (p' := 461) (s' := [.int ((nI n) + 1), .ref 0, .ref 1]) rfl rfl rfl ?_
  refine ev_st (st' := [.int (nI (n + 1)), .ref 0, .ref 1]) (congrArg (fun z => Value.int z :: [.ref 0, .ref 1]) (nI_add n 1)) ?_
  refine ev_sg (p' := 462) rfl rfl hs (vp_in_nI (by omega) (by omega)) rfl ?_
  refine ev_st (st' := [.int (xs (n + 1)), .ref 1]) (congrArg (fun z => Value.int (xs z) :: [.ref 1]) (nI_clamp (n := n + 1) (by omega))) ?_
  refine ev_cv (d := d + 2) (As := [.int (xs (n + 1))]) (a := 1) (p' := 465) rfl rfl rfl ly_1 rfl rfl rfl rfl rfl rfl rfl (lz_59 (d := d + 0) (c_1 := c_1)) ?_
  refine ev_st (st' := [.int (-1)]) rfl ?_
  refine ev_x (i := .aload_n 2) (len := 1) (p' := 466) (s' := [.ref 66, .int (-1)]) rfl rfl rfl ?_
  refine ev_x (i := .aload_n 0) (len := 1) (p' := 467) (s' := [.ref 0, .ref 66, .int (-1)]) rfl rfl rfl ?_
  refine ev_x (i := .iload 4) (len := 2) (p' := 469) (s' := [.int (nI n), .ref 0, .ref 66, .int (-1)]) rfl rfl rfl ?_
  refine ev_x (i := .iconst 1) (len := 1) (p' := 470) (s' := [.int 1, .int (nI n), .ref 0, .ref 66, .int (-1)]) rfl rfl rfl ?_
  refine ev_x (i := .iadd) (len := 1) (p' := 471) (s' := [.int ((nI n) + 1), .ref 0, .ref 66, .int (-1)]) rfl rfl rfl ?_
  refine ev_st (st' := [.int (nI (n + 1)), .ref 0, .ref 66, .int (-1)]) (congrArg (fun z => Value.int z :: [.ref 0, .ref 66, .int (-1)]) (nI_add n 1)) ?_
  refine ev_sg (p' := 472) rfl rfl hs (vp_in_nI (by omega) (by omega)) rfl ?_
  refine ev_st (st' := [.int (xs (n + 1)), .ref 66, .int (-1)]) (congrArg (fun z => Value.int (xs z) :: [.ref 66, .int (-1)]) (nI_clamp (n := n + 1) (by omega))) ?_
  refine ev_cv (d := d + 2) (As := [.int (xs (n + 1))]) (a := 66) (p' := 475) rfl rfl rfl ly_66 rfl rfl rfl rfl rfl rfl rfl (lz_61 (d := d + 0) (c_1 := c_1)) ?_
  refine ev_st (st' := [.int (-1), .int (-1)]) rfl ?_
  refine ev_b2 (t := 615) (p' := 615) rfl rfl rfl (by decide) ?_
  exact k
set_option maxHeartbeats 4000000 in
set_option maxRecDepth 100000 in
/-- GameText.commands(I)I -/
theorem lz_64 {d : Nat} {σ : st_S} {y_1 : Int32} (c_1 : ¬ (y_1 < 0)) (c_2 : (σ.1 52 10) ≤ y_1) : vz_ev P0 (d + 2) 98 0 (lv_args 0 [.ref 1, .int y_1]) [] (hp σ) (.inl (some (.int (-1))), hp (σ)) := by
  refine ev_x (i := .aload_n 0) (len := 1) (p' := 1) (s' := [.ref 1]) rfl rfl rfl ?_
  refine ev_gc (p' := 4) (v := 52) rfl rfl rfl ly_1 rfl rfl ?_
  refine ev_x (i := .iload_n 1) (len := 1) (p' := 5) (s' := [.int y_1, .ref 52]) rfl rfl rfl ?_
  refine ev_cv (d := d + 1) (As := [.int y_1]) (a := 52) (p' := 8) rfl rfl rfl ly_52 rfl rfl rfl rfl rfl rfl rfl (lz_48 (d := d + 0) (c_1 := c_1) (c_2 := c_2)) ?_
  refine ev_st (st' := [.int 0]) rfl ?_
  refine ev_b0 (t := 35) (p' := 35) rfl rfl rfl (by decide) ?_
  refine ev_x (i := .iconst (-1)) (len := 1) (p' := 36) (s' := [.int (-1)]) rfl rfl rfl ?_
  exact ev_iret rfl rfl rfl rfl
set_option maxHeartbeats 4000000 in
set_option maxRecDepth 100000 in
/-- GameTextModel.commands(I)I -/
theorem lz_66 {d : Nat} {σ : st_S} {y_1 : Int32} (c_1 : ¬ (y_1 < 0)) (c_2 : (σ.1 66 29) ≤ y_1) : vz_ev P0 (d + 2) 225 0 (lv_args 0 [.ref 66, .int y_1]) [] (hp σ) (.inl (some (.int (-1))), hp (st_i (σ) 66 0 0)) := by
  refine ev_x (i := .aload_n 0) (len := 1) (p' := 1) (s' := [.ref 66]) rfl rfl rfl ?_
  refine ev_x (i := .iload_n 1) (len := 1) (p' := 2) (s' := [.int y_1, .ref 66]) rfl rfl rfl ?_
  refine ev_cv (d := d + 1) (As := [.int y_1]) (a := 66) (p' := 5) rfl rfl rfl ly_66 rfl rfl rfl rfl rfl rfl rfl (lz_50 (d := d + 0) (c_1 := c_1) (c_2 := c_2)) ?_
  refine ev_st (st' := [.int 0]) rfl ?_
  refine ev_b0 (t := 17) (p' := 17) rfl rfl rfl (by decide) ?_
  refine ev_x (i := .iconst (-1)) (len := 1) (p' := 18) (s' := [.int (-1)]) rfl rfl rfl ?_
  exact ev_iret rfl rfl rfl rfl
set_option maxHeartbeats 4000000 in
set_option maxRecDepth 100000 in
/-- GameTextLaw.law([I)Z -/
theorem lw_10g_a0 {d : Nat} {σ : st_S} {q : vz_O × vz_H} {n L : Nat} {xs : Nat → Int32} (hs : gF σ 0 = .inl (0, L, .inl xs)) (hn : n + 6 ≤ L) (hL : L ≤ 3072) (c_1 : ¬ ((xs (n + 1)) < 0)) (c_2 : (σ.1 52 10) ≤ (xs (n + 1))) (c_3 : (σ.1 66 29) ≤ (xs (n + 1))) (k : vz_ev P0 (d + 3) 0 615 [(4, .int (nI n)), (3, .ref 187), (2, .ref 66), (1, .ref 1), (0, .ref 0)] [] (hp (st_i (σ) 66 0 0)) q) : vz_ev P0 (d + 3) 0 455 [(4, .int (nI n)), (3, .ref 187), (2, .ref 66), (1, .ref 1), (0, .ref 0)] [] (hp σ) q := by
  refine ev_x (i := .aload_n 1) (len := 1) (p' := 456) (s' := [.ref 1]) rfl rfl rfl ?_
  refine ev_x (i := .aload_n 0) (len := 1) (p' := 457) (s' := [.ref 0, .ref 1]) rfl rfl rfl ?_
  refine ev_x (i := .iload 4) (len := 2) (p' := 459) (s' := [.int (nI n), .ref 0, .ref 1]) rfl rfl rfl ?_
  refine ev_x (i := .iconst 1) (len := 1) (p' := 460) (s' := [.int 1, .int (nI n), .ref 0, .ref 1]) rfl rfl rfl ?_
  refine ev_x (i := .iadd) (len := 1) (p' := 461) (s' := [.int ((nI n) + 1), .ref 0, .ref 1]) rfl rfl rfl ?_
  refine ev_st (st' := [.int (nI (n + 1)), .ref 0, .ref 1]) (congrArg (fun z => Value.int z :: [.ref 0, .ref 1]) (nI_add n 1)) ?_
  refine ev_sg (p' := 462) rfl rfl hs (vp_in_nI (by omega) (by omega)) rfl ?_
  refine ev_st (st' := [.int (xs (n + 1)), .ref 1]) (congrArg (fun z => Value.int (xs z) :: [.ref 1]) (nI_clamp (n := n + 1) (by omega))) ?_
  refine ev_cv (d := d + 2) (As := [.int (xs (n + 1))]) (a := 1) (p' := 465) rfl rfl rfl ly_1 rfl rfl rfl rfl rfl rfl rfl (lz_64 (d := d + 0) (c_1 := c_1) (c_2 := c_2)) ?_
  refine ev_st (st' := [.int (-1)]) rfl ?_
  refine ev_x (i := .aload_n 2) (len := 1) (p' := 466) (s' := [.ref 66, .int (-1)]) rfl rfl rfl ?_
  refine ev_x (i := .aload_n 0) (len := 1) (p' := 467) (s' := [.ref 0, .ref 66, .int (-1)]) rfl rfl rfl ?_
  refine ev_x (i := .iload 4) (len := 2) (p' := 469) (s' := [.int (nI n), .ref 0, .ref 66, .int (-1)]) rfl rfl rfl ?_
  refine ev_x (i := .iconst 1) (len := 1) (p' := 470) (s' := [.int 1, .int (nI n), .ref 0, .ref 66, .int (-1)]) rfl rfl rfl ?_
  refine ev_x (i := .iadd) (len := 1) (p' := 471) (s' := [.int ((nI n) + 1), .ref 0, .ref 66, .int (-1)]) rfl rfl rfl ?_
  refine ev_st (st' := [.int (nI (n + 1)), .ref 0, .ref 66, .int (-1)]) (congrArg (fun z => Value.int z :: [.ref 0, .ref 66, .int (-1)]) (nI_add n 1)) ?_
  refine ev_sg (p' := 472) rfl rfl hs (vp_in_nI (by omega) (by omega)) rfl ?_
  refine ev_st (st' := [.int (xs (n + 1)), .ref 66, .int (-1)]) (congrArg (fun z => Value.int (xs z) :: [.ref 66, .int (-1)]) (nI_clamp (n := n + 1) (by omega))) ?_
  refine ev_cv (d := d + 2) (As := [.int (xs (n + 1))]) (a := 66) (p' := 475) rfl rfl rfl ly_66 rfl rfl rfl rfl rfl rfl rfl (lz_66 (d := d + 0) (c_1 := c_1) (c_2 := c_3)) ?_
  refine ev_st (st' := [.int (-1), .int (-1)]) rfl ?_
  refine ev_b2 (t := 615) (p' := 615) rfl rfl rfl (by decide) ?_
  exact k
set_option maxHeartbeats 4000000 in
set_option maxRecDepth 100000 in
/-- GameText.commands(I)I -/
theorem lz_69 {d : Nat} {σ : st_S} {y_1 : Int32} (c_1 : ¬ (y_1 < 0)) (c_2 : ¬ ((σ.1 52 10) ≤ y_1)) (c_3 : vp_in (y_1 + 1) (gN σ 56)) (c_4 : vp_in y_1 (gN σ 56)) : vz_ev P0 (d + 2) 98 0 (lv_args 0 [.ref 1, .int y_1]) [] (hp σ) (.inl (some (.int ((gE σ 56 (((y_1 + 1)).toNatClampNeg)) - (gE σ 56 ((y_1).toNatClampNeg))))), hp (σ)) := by
  refine ev_x (i := .aload_n 0) (len := 1) (p' := 1) (s' := [.ref 1]) rfl rfl rfl ?_
  refine ev_gc (p' := 4) (v := 52) rfl rfl rfl ly_1 rfl rfl ?_
  refine ev_x (i := .iload_n 1) (len := 1) (p' := 5) (s' := [.int y_1, .ref 52]) rfl rfl rfl ?_
  refine ev_cv (d := d + 1) (As := [.int y_1]) (a := 52) (p' := 8) rfl rfl rfl ly_52 rfl rfl rfl rfl rfl rfl rfl (lz_53 (d := d + 0) (c_1 := c_1) (c_2 := c_2)) ?_
  refine ev_st (st' := [.int 1]) rfl ?_
  refine ev_b0 (t := 35) (p' := 11) rfl rfl rfl (by decide) ?_
  refine ev_x (i := .aload_n 0) (len := 1) (p' := 12) (s' := [.ref 1]) rfl rfl rfl ?_
  refine ev_gc (p' := 15) (v := 52) rfl rfl rfl ly_1 rfl rfl ?_
  refine ev_gc (p' := 18) (v := 56) rfl rfl rfl ly_52 rfl rfl ?_
  refine ev_x (i := .iload_n 1) (len := 1) (p' := 19) (s' := [.int y_1, .ref 56]) rfl rfl rfl ?_
  refine ev_x (i := .iconst 1) (len := 1) (p' := 20) (s' := [.int 1, .int y_1, .ref 56]) rfl rfl rfl ?_
  refine ev_x (i := .iadd) (len := 1) (p' := 21) (s' := [.int (y_1 + 1), .ref 56]) rfl rfl rfl ?_
  refine ev_ga (p' := 22) (v := (gE σ 56 (((y_1 + 1)).toNatClampNeg))) rfl rfl ly_56 rfl c_3 rfl ?_
  refine ev_x (i := .aload_n 0) (len := 1) (p' := 23) (s' := [.ref 1, .int (gE σ 56 (((y_1 + 1)).toNatClampNeg))]) rfl rfl rfl ?_
  refine ev_gc (p' := 26) (v := 52) rfl rfl rfl ly_1 rfl rfl ?_
  refine ev_gc (p' := 29) (v := 56) rfl rfl rfl ly_52 rfl rfl ?_
  refine ev_x (i := .iload_n 1) (len := 1) (p' := 30) (s' := [.int y_1, .ref 56, .int (gE σ 56 (((y_1 + 1)).toNatClampNeg))]) rfl rfl rfl ?_
  refine ev_ga (p' := 31) (v := (gE σ 56 ((y_1).toNatClampNeg))) rfl rfl ly_56 rfl c_4 rfl ?_
  refine ev_x (i := .isub) (len := 1) (p' := 32) (s' := [.int ((gE σ 56 (((y_1 + 1)).toNatClampNeg)) - (gE σ 56 ((y_1).toNatClampNeg)))]) rfl rfl rfl ?_
  refine ev_x (i := .goto 4) (len := 3) (p' := 36) (s' := [.int ((gE σ 56 (((y_1 + 1)).toNatClampNeg)) - (gE σ 56 ((y_1).toNatClampNeg)))]) rfl rfl rfl ?_
  exact ev_iret rfl rfl rfl rfl
set_option maxHeartbeats 4000000 in
set_option maxRecDepth 100000 in
/-- GameTextModel.commands(I)I -/
theorem lz_71 {d : Nat} {σ : st_S} {y_1 : Int32} (c_1 : ¬ (y_1 < 0)) (c_2 : ¬ ((σ.1 66 29) ≤ y_1)) (c_3 : vp_in y_1 (gN σ 174)) : vz_ev P0 (d + 2) 225 0 (lv_args 0 [.ref 66, .int y_1]) [] (hp σ) (.inl (some (.int (gE σ 174 ((y_1).toNatClampNeg)))), hp (st_i (σ) 66 0 0)) := by
  refine ev_x (i := .aload_n 0) (len := 1) (p' := 1) (s' := [.ref 66]) rfl rfl rfl ?_
  refine ev_x (i := .iload_n 1) (len := 1) (p' := 2) (s' := [.int y_1, .ref 66]) rfl rfl rfl ?_
  refine ev_cv (d := d + 1) (As := [.int y_1]) (a := 66) (p' := 5) rfl rfl rfl ly_66 rfl rfl rfl rfl rfl rfl rfl (lz_55 (d := d + 0) (c_1 := c_1) (c_2 := c_2)) ?_
  refine ev_st (st' := [.int 1]) rfl ?_
  refine ev_b0 (t := 17) (p' := 8) rfl rfl rfl (by decide) ?_
  refine ev_x (i := .aload_n 0) (len := 1) (p' := 9) (s' := [.ref 66]) rfl rfl rfl ?_
  refine ev_gc (p' := 12) (v := 174) rfl rfl rfl ly_66 rfl rfl ?_
  refine ev_x (i := .iload_n 1) (len := 1) (p' := 13) (s' := [.int y_1, .ref 174]) rfl rfl rfl ?_
  refine ev_ga (p' := 14) (v := (gE σ 174 ((y_1).toNatClampNeg))) rfl rfl ly_174 rfl c_3 rfl ?_
  refine ev_x (i := .goto 4) (len := 3) (p' := 18) (s' := [.int (gE σ 174 ((y_1).toNatClampNeg))]) rfl rfl rfl ?_
  exact ev_iret rfl rfl rfl rfl
set_option maxHeartbeats 4000000 in
set_option maxRecDepth 100000 in
/-- GameTextLaw.law([I)Z -/
theorem lw_10o_a0 {d : Nat} {σ : st_S} {q : vz_O × vz_H} {n L : Nat} {xs : Nat → Int32} (hs : gF σ 0 = .inl (0, L, .inl xs)) (hn : n + 6 ≤ L) (hL : L ≤ 3072) (c_1 : ¬ ((xs (n + 1)) < 0)) (c_2 : ¬ ((σ.1 52 10) ≤ (xs (n + 1)))) (c_3 : vp_in ((xs (n + 1)) + 1) (gN σ 56)) (c_4 : vp_in (xs (n + 1)) (gN σ 56)) (c_5 : ¬ ((σ.1 66 29) ≤ (xs (n + 1)))) (c_6 : vp_in (xs (n + 1)) (gN σ 174)) (c_7 : ((gE σ 56 ((((xs (n + 1)) + 1)).toNatClampNeg)) - (gE σ 56 (((xs (n + 1))).toNatClampNeg))) = (gE σ 174 (((xs (n + 1))).toNatClampNeg))) (k : vz_ev P0 (d + 3) 0 615 [(4, .int (nI n)), (3, .ref 187), (2, .ref 66), (1, .ref 1), (0, .ref 0)] [] (hp (st_i (σ) 66 0 0)) q) : vz_ev P0 (d + 3) 0 455 [(4, .int (nI n)), (3, .ref 187), (2, .ref 66), (1, .ref 1), (0, .ref 0)] [] (hp σ) q := by
  refine ev_x (i := .aload_n 1) (len := 1) (p' := 456) (s' := [.ref 1]) rfl rfl rfl ?_
  refine ev_x (i := .aload_n 0) (len := 1) (p' := 457) (s' := [.ref 0, .ref 1]) rfl rfl rfl ?_
  refine ev_x (i := .iload 4) (len := 2) (p' := 459) (s' := [.int (nI n), .ref 0, .ref 1]) rfl rfl rfl ?_
  refine ev_x (i := .iconst 1) (len := 1) (p' := 460) (s' := [.int 1, .int (nI n), .ref 0, .ref 1]) rfl rfl rfl ?_
  refine ev_x (i := .iadd) (len := 1) (p' := 461) (s' := [.int ((nI n) + 1), .ref 0, .ref 1]) rfl rfl rfl ?_
  refine ev_st (st' := [.int (nI (n + 1)), .ref 0, .ref 1]) (congrArg (fun z => Value.int z :: [.ref 0, .ref 1]) (nI_add n 1)) ?_
  refine ev_sg (p' := 462) rfl rfl hs (vp_in_nI (by omega) (by omega)) rfl ?_
  refine ev_st (st' := [.int (xs (n + 1)), .ref 1]) (congrArg (fun z => Value.int (xs z) :: [.ref 1]) (nI_clamp (n := n + 1) (by omega))) ?_
  refine ev_cv (d := d + 2) (As := [.int (xs (n + 1))]) (a := 1) (p' := 465) rfl rfl rfl ly_1 rfl rfl rfl rfl rfl rfl rfl (lz_69 (d := d + 0) (c_1 := c_1) (c_2 := c_2) (c_3 := c_3) (c_4 := c_4)) ?_
  refine ev_st (st' := [.int ((gE σ 56 ((((xs (n + 1)) + 1)).toNatClampNeg)) - (gE σ 56 (((xs (n + 1))).toNatClampNeg)))]) rfl ?_
  refine ev_x (i := .aload_n 2) (len := 1) (p' := 466) (s' := [.ref 66, .int ((gE σ 56 ((((xs (n + 1)) + 1)).toNatClampNeg)) - (gE σ 56 (((xs (n + 1))).toNatClampNeg)))]) rfl rfl rfl ?_
  refine ev_x (i := .aload_n 0) (len := 1) (p' := 467) (s' := [.ref 0, .ref 66, .int ((gE σ 56 ((((xs (n + 1)) + 1)).toNatClampNeg)) - (gE σ 56 (((xs (n + 1))).toNatClampNeg)))]) rfl rfl rfl ?_
  refine ev_x (i := .iload 4) (len := 2) (p' := 469) (s' := [.int (nI n), .ref 0, .ref 66, .int ((gE σ 56 ((((xs (n + 1)) + 1)).toNatClampNeg)) - (gE σ 56 (((xs (n + 1))).toNatClampNeg)))]) rfl rfl rfl ?_
  refine ev_x (i := .iconst 1) (len := 1) (p' := 470) (s' := [.int 1, .int (nI n), .ref 0, .ref 66, .int ((gE σ 56 ((((xs (n + 1)) + 1)).toNatClampNeg)) - (gE σ 56 (((xs (n + 1))).toNatClampNeg)))]) rfl rfl rfl ?_
  refine ev_x (i := .iadd) (len := 1) (p' := 471) (s' := [.int ((nI n) + 1), .ref 0, .ref 66, .int ((gE σ 56 ((((xs (n + 1)) + 1)).toNatClampNeg)) - (gE σ 56 (((xs (n + 1))).toNatClampNeg)))]) rfl rfl rfl ?_
  refine ev_st (st' := [.int (nI (n + 1)), .ref 0, .ref 66, .int ((gE σ 56 ((((xs (n + 1)) + 1)).toNatClampNeg)) - (gE σ 56 (((xs (n + 1))).toNatClampNeg)))]) (congrArg (fun z => Value.int z :: [.ref 0, .ref 66, .int ((gE σ 56 ((((xs (n + 1)) + 1)).toNatClampNeg)) - (gE σ 56 (((xs (n + 1))).toNatClampNeg)))]) (nI_add n 1)) ?_
  refine ev_sg (p' := 472) rfl rfl hs (vp_in_nI (by omega) (by omega)) rfl ?_
  refine ev_st (st' := [.int (xs (n + 1)), .ref 66, .int ((gE σ 56 ((((xs (n + 1)) + 1)).toNatClampNeg)) - (gE σ 56 (((xs (n + 1))).toNatClampNeg)))]) (congrArg (fun z => Value.int (xs z) :: [.ref 66, .int ((gE σ 56 ((((xs (n + 1)) + 1)).toNatClampNeg)) - (gE σ 56 (((xs (n + 1))).toNatClampNeg)))]) (nI_clamp (n := n + 1) (by omega))) ?_
  refine ev_cv (d := d + 2) (As := [.int (xs (n + 1))]) (a := 66) (p' := 475) rfl rfl rfl ly_66 rfl rfl rfl rfl rfl rfl rfl (lz_71 (d := d + 0) (c_1 := c_1) (c_2 := c_5) (c_3 := c_6)) ?_
  refine ev_st (st' := [.int (gE σ 174 (((xs (n + 1))).toNatClampNeg)), .int ((gE σ 56 ((((xs (n + 1)) + 1)).toNatClampNeg)) - (gE σ 56 (((xs (n + 1))).toNatClampNeg)))]) rfl ?_
  refine ev_b2 (t := 615) (p' := 615) rfl rfl rfl (if_pos c_7) ?_
  exact k
set_option maxHeartbeats 4000000 in
set_option maxRecDepth 100000 in
/-- GameText$Graph.commandAt(II)I -/
theorem lz_74 {d : Nat} {σ : st_S} {y_1 y_2 : Int32} (c_1 : y_1 < 0) : vz_ev P0 (d + 2) 100 0 (lv_args 0 [.ref 52, .int y_1, .int y_2]) [] (hp σ) (.inl (some (.int (-1))), hp (σ)) := by
  refine ev_x (i := .aload_n 0) (len := 1) (p' := 1) (s' := [.ref 52]) rfl rfl rfl ?_
  refine ev_x (i := .iload_n 1) (len := 1) (p' := 2) (s' := [.int y_1, .ref 52]) rfl rfl rfl ?_
  refine ev_cv (d := d + 1) (As := [.int y_1]) (a := 52) (p' := 5) rfl rfl rfl ly_52 rfl rfl rfl rfl rfl rfl rfl (lz_43 (d := d + 0) (c_1 := c_1)) ?_
  refine ev_st (st' := [.int 0]) rfl ?_
  refine ev_b0 (t := 31) (p' := 31) rfl rfl rfl (by decide) ?_
  refine ev_x (i := .iconst (-1)) (len := 1) (p' := 32) (s' := [.int (-1)]) rfl rfl rfl ?_
  exact ev_iret rfl rfl rfl rfl
set_option maxHeartbeats 4000000 in
set_option maxRecDepth 100000 in
/-- GameText.command(II)I -/
theorem lz_75 {d : Nat} {σ : st_S} {y_1 y_2 : Int32} (c_1 : y_1 < 0) : vz_ev P0 (d + 3) 99 0 (lv_args 0 [.ref 1, .int y_1, .int y_2]) [] (hp σ) (.inl (some (.int (-1))), hp (σ)) := by
  refine ev_x (i := .aload_n 0) (len := 1) (p' := 1) (s' := [.ref 1]) rfl rfl rfl ?_
  refine ev_gc (p' := 4) (v := 52) rfl rfl rfl ly_1 rfl rfl ?_
  refine ev_x (i := .iload_n 1) (len := 1) (p' := 5) (s' := [.int y_1, .ref 52]) rfl rfl rfl ?_
  refine ev_x (i := .iload_n 2) (len := 1) (p' := 6) (s' := [.int y_2, .int y_1, .ref 52]) rfl rfl rfl ?_
  refine ev_cv (d := d + 2) (As := [.int y_1, .int y_2]) (a := 52) (p' := 9) rfl rfl rfl ly_52 rfl rfl rfl rfl rfl rfl rfl (lz_74 (d := d + 0) (c_1 := c_1)) ?_
  refine ev_st (st' := [.int (-1)]) rfl ?_
  refine ev_x (i := .istore_n 3) (len := 1) (p' := 10) (s' := []) (l' := [(3, .int (-1)), (0, .ref 1), (1, .int y_1), (2, .int y_2)]) rfl rfl rfl ?_
  refine ev_x (i := .iload_n 3) (len := 1) (p' := 11) (s' := [.int (-1)]) rfl rfl rfl ?_
  refine ev_b0 (t := 18) (p' := 14) rfl rfl rfl (by decide) ?_
  refine ev_x (i := .iconst (-1)) (len := 1) (p' := 15) (s' := [.int (-1)]) rfl rfl rfl ?_
  refine ev_x (i := .goto 12) (len := 3) (p' := 27) (s' := [.int (-1)]) rfl rfl rfl ?_
  exact ev_iret rfl rfl rfl rfl
set_option maxHeartbeats 4000000 in
set_option maxRecDepth 100000 in
/-- GameTextModel.isCommand(II)Z -/
theorem lz_77 {d : Nat} {σ : st_S} {y_1 y_2 : Int32} (c_1 : y_1 < 0) : vz_ev P0 (d + 2) 227 0 (lv_args 0 [.ref 66, .int y_1, .int y_2]) [] (hp σ) (.inl (some (.int 0)), hp (st_i (σ) 66 0 0)) := by
  refine ev_x (i := .aload_n 0) (len := 1) (p' := 1) (s' := [.ref 66]) rfl rfl rfl ?_
  refine ev_x (i := .iload_n 1) (len := 1) (p' := 2) (s' := [.int y_1, .ref 66]) rfl rfl rfl ?_
  refine ev_cv (d := d + 1) (As := [.int y_1]) (a := 66) (p' := 5) rfl rfl rfl ly_66 rfl rfl rfl rfl rfl rfl rfl (lz_45 (d := d + 0) (c_1 := c_1)) ?_
  refine ev_st (st' := [.int 0]) rfl ?_
  refine ev_b0 (t := 26) (p' := 26) rfl rfl rfl (by decide) ?_
  refine ev_x (i := .iconst 0) (len := 1) (p' := 27) (s' := [.int 0]) rfl rfl rfl ?_
  exact ev_iret rfl rfl rfl rfl
set_option maxHeartbeats 4000000 in
set_option maxRecDepth 100000 in
/-- GameTextModel.command(II)I -/
theorem lz_78 {d : Nat} {σ : st_S} {y_1 y_2 : Int32} (c_1 : y_1 < 0) : vz_ev P0 (d + 3) 226 0 (lv_args 0 [.ref 66, .int y_1, .int y_2]) [] (hp σ) (.inl (some (.int (-1))), hp (st_i (σ) 66 0 0)) := by
  refine ev_x (i := .aload_n 0) (len := 1) (p' := 1) (s' := [.ref 66]) rfl rfl rfl ?_
  refine ev_x (i := .iload_n 1) (len := 1) (p' := 2) (s' := [.int y_1, .ref 66]) rfl rfl rfl ?_
  refine ev_x (i := .iload_n 2) (len := 1) (p' := 3) (s' := [.int y_2, .int y_1, .ref 66]) rfl rfl rfl ?_
  refine ev_cv (d := d + 2) (As := [.int y_1, .int y_2]) (a := 66) (p' := 6) rfl rfl rfl ly_66 rfl rfl rfl rfl rfl rfl rfl (lz_77 (d := d + 0) (c_1 := c_1)) ?_
  refine ev_st (st' := [.int 0]) rfl ?_
  refine ev_b0 (t := 27) (p' := 27) rfl rfl rfl (by decide) ?_
  refine ev_x (i := .iconst (-1)) (len := 1) (p' := 28) (s' := [.int (-1)]) rfl rfl rfl ?_
  exact ev_iret rfl rfl rfl rfl
set_option maxHeartbeats 4000000 in
set_option maxRecDepth 100000 in
/-- GameTextLaw.law([I)Z -/
theorem lw_11n_a0 {d : Nat} {σ : st_S} {q : vz_O × vz_H} {n L : Nat} {xs : Nat → Int32} (hs : gF σ 0 = .inl (0, L, .inl xs)) (hn : n + 6 ≤ L) (hL : L ≤ 3072) (c_1 : (xs (n + 1)) < 0) (k : vz_ev P0 (d + 4) 0 615 [(4, .int (nI n)), (3, .ref 187), (2, .ref 66), (1, .ref 1), (0, .ref 0)] [] (hp (st_i (σ) 66 0 0)) q) : vz_ev P0 (d + 4) 0 480 [(4, .int (nI n)), (3, .ref 187), (2, .ref 66), (1, .ref 1), (0, .ref 0)] [] (hp σ) q := by
  refine ev_x (i := .aload_n 1) (len := 1) (p' := 481) (s' := [.ref 1]) rfl rfl rfl ?_
  refine ev_x (i := .aload_n 0) (len := 1) (p' := 482) (s' := [.ref 0, .ref 1]) rfl rfl rfl ?_
  refine ev_x (i := .iload 4) (len := 2) (p' := 484) (s' := [.int (nI n), .ref 0, .ref 1]) rfl rfl rfl ?_
  refine ev_x (i := .iconst 1) (len := 1) (p' := 485) (s' := [.int 1, .int (nI n), .ref 0, .ref 1]) rfl rfl rfl ?_
  refine ev_x (i := .iadd) (len := 1) (p' := 486) (s' := [.int ((nI n) + 1), .ref 0, .ref 1]) rfl rfl rfl ?_
  refine ev_st (st' := [.int (nI (n + 1)), .ref 0, .ref 1]) (congrArg (fun z => Value.int z :: [.ref 0, .ref 1]) (nI_add n 1)) ?_
  refine ev_sg (p' := 487) rfl rfl hs (vp_in_nI (by omega) (by omega)) rfl ?_
  refine ev_st (st' := [.int (xs (n + 1)), .ref 1]) (congrArg (fun z => Value.int (xs z) :: [.ref 1]) (nI_clamp (n := n + 1) (by omega))) ?_
  refine ev_x (i := .aload_n 0) (len := 1) (p' := 488) (s' := [.ref 0, .int (xs (n + 1)), .ref 1]) rfl rfl rfl ?_
  refine ev_x (i := .iload 4) (len := 2) (p' := 490) (s' := [.int (nI n), .ref 0, .int (xs (n + 1)), .ref 1]) rfl rfl rfl ?_
  refine ev_x (i := .iconst 2) (len := 1) (p' := 491) (s' := [.int 2, .int (nI n), .ref 0, .int (xs (n + 1)), .ref 1]) rfl rfl rfl ?_
  refine ev_x (i := .iadd) (len := 1) (p' := 492) (s' := [.int ((nI n) + 2), .ref 0, .int (xs (n + 1)), .ref 1]) rfl rfl rfl ?_
  refine ev_st (st' := [.int (nI (n + 2)), .ref 0, .int (xs (n + 1)), .ref 1]) (congrArg (fun z => Value.int z :: [.ref 0, .int (xs (n + 1)), .ref 1]) (nI_add n 2)) ?_
  refine ev_sg (p' := 493) rfl rfl hs (vp_in_nI (by omega) (by omega)) rfl ?_
  refine ev_st (st' := [.int (xs (n + 2)), .int (xs (n + 1)), .ref 1]) (congrArg (fun z => Value.int (xs z) :: [.int (xs (n + 1)), .ref 1]) (nI_clamp (n := n + 2) (by omega))) ?_
  refine ev_cv (d := d + 3) (As := [.int (xs (n + 1)), .int (xs (n + 2))]) (a := 1) (p' := 496) rfl rfl rfl ly_1 rfl rfl rfl rfl rfl rfl rfl (lz_75 (d := d + 0) (c_1 := c_1)) ?_
  refine ev_st (st' := [.int (-1)]) rfl ?_
  refine ev_x (i := .aload_n 2) (len := 1) (p' := 497) (s' := [.ref 66, .int (-1)]) rfl rfl rfl ?_
  refine ev_x (i := .aload_n 0) (len := 1) (p' := 498) (s' := [.ref 0, .ref 66, .int (-1)]) rfl rfl rfl ?_
  refine ev_x (i := .iload 4) (len := 2) (p' := 500) (s' := [.int (nI n), .ref 0, .ref 66, .int (-1)]) rfl rfl rfl ?_
  refine ev_x (i := .iconst 1) (len := 1) (p' := 501) (s' := [.int 1, .int (nI n), .ref 0, .ref 66, .int (-1)]) rfl rfl rfl ?_
  refine ev_x (i := .iadd) (len := 1) (p' := 502) (s' := [.int ((nI n) + 1), .ref 0, .ref 66, .int (-1)]) rfl rfl rfl ?_
  refine ev_st (st' := [.int (nI (n + 1)), .ref 0, .ref 66, .int (-1)]) (congrArg (fun z => Value.int z :: [.ref 0, .ref 66, .int (-1)]) (nI_add n 1)) ?_
  refine ev_sg (p' := 503) rfl rfl hs (vp_in_nI (by omega) (by omega)) rfl ?_
  refine ev_st (st' := [.int (xs (n + 1)), .ref 66, .int (-1)]) (congrArg (fun z => Value.int (xs z) :: [.ref 66, .int (-1)]) (nI_clamp (n := n + 1) (by omega))) ?_
  refine ev_x (i := .aload_n 0) (len := 1) (p' := 504) (s' := [.ref 0, .int (xs (n + 1)), .ref 66, .int (-1)]) rfl rfl rfl ?_
  refine ev_x (i := .iload 4) (len := 2) (p' := 506) (s' := [.int (nI n), .ref 0, .int (xs (n + 1)), .ref 66, .int (-1)]) rfl rfl rfl ?_
  refine ev_x (i := .iconst 2) (len := 1) (p' := 507) (s' := [.int 2, .int (nI n), .ref 0, .int (xs (n + 1)), .ref 66, .int (-1)]) rfl rfl rfl ?_
  refine ev_x (i := .iadd) (len := 1) (p' := 508) (s' := [.int ((nI n) + 2), .ref 0, .int (xs (n + 1)), .ref 66, .int (-1)]) rfl rfl rfl ?_
  refine ev_st (st' := [.int (nI (n + 2)), .ref 0, .int (xs (n + 1)), .ref 66, .int (-1)]) (congrArg (fun z => Value.int z :: [.ref 0, .int (xs (n + 1)), .ref 66, .int (-1)]) (nI_add n 2)) ?_
  refine ev_sg (p' := 509) rfl rfl hs (vp_in_nI (by omega) (by omega)) rfl ?_
  refine ev_st (st' := [.int (xs (n + 2)), .int (xs (n + 1)), .ref 66, .int (-1)]) (congrArg (fun z => Value.int (xs z) :: [.int (xs (n + 1)), .ref 66, .int (-1)]) (nI_clamp (n := n + 2) (by omega))) ?_
  refine ev_cv (d := d + 3) (As := [.int (xs (n + 1)), .int (xs (n + 2))]) (a := 66) (p' := 512) rfl rfl rfl ly_66 rfl rfl rfl rfl rfl rfl rfl (lz_78 (d := d + 0) (c_1 := c_1)) ?_
  refine ev_st (st' := [.int (-1), .int (-1)]) rfl ?_
  refine ev_b2 (t := 615) (p' := 615) rfl rfl rfl (by decide) ?_
  exact k
set_option maxHeartbeats 4000000 in
set_option maxRecDepth 100000 in
/-- GameText$Graph.commandAt(II)I -/
theorem lz_81 {d : Nat} {σ : st_S} {y_1 y_2 : Int32} (c_1 : ¬ (y_1 < 0)) (c_2 : (σ.1 52 10) ≤ y_1) : vz_ev P0 (d + 2) 100 0 (lv_args 0 [.ref 52, .int y_1, .int y_2]) [] (hp σ) (.inl (some (.int (-1))), hp (σ)) := by
  refine ev_x (i := .aload_n 0) (len := 1) (p' := 1) (s' := [.ref 52]) rfl rfl rfl ?_
  refine ev_x (i := .iload_n 1) (len := 1) (p' := 2) (s' := [.int y_1, .ref 52]) rfl rfl rfl ?_
  refine ev_cv (d := d + 1) (As := [.int y_1]) (a := 52) (p' := 5) rfl rfl rfl ly_52 rfl rfl rfl rfl rfl rfl rfl (lz_48 (d := d + 0) (c_1 := c_1) (c_2 := c_2)) ?_
  refine ev_st (st' := [.int 0]) rfl ?_
  refine ev_b0 (t := 31) (p' := 31) rfl rfl rfl (by decide) ?_
  refine ev_x (i := .iconst (-1)) (len := 1) (p' := 32) (s' := [.int (-1)]) rfl rfl rfl ?_
  exact ev_iret rfl rfl rfl rfl
set_option maxHeartbeats 4000000 in
set_option maxRecDepth 100000 in
/-- GameText.command(II)I -/
theorem lz_82 {d : Nat} {σ : st_S} {y_1 y_2 : Int32} (c_1 : ¬ (y_1 < 0)) (c_2 : (σ.1 52 10) ≤ y_1) : vz_ev P0 (d + 3) 99 0 (lv_args 0 [.ref 1, .int y_1, .int y_2]) [] (hp σ) (.inl (some (.int (-1))), hp (σ)) := by
  refine ev_x (i := .aload_n 0) (len := 1) (p' := 1) (s' := [.ref 1]) rfl rfl rfl ?_
  refine ev_gc (p' := 4) (v := 52) rfl rfl rfl ly_1 rfl rfl ?_
  refine ev_x (i := .iload_n 1) (len := 1) (p' := 5) (s' := [.int y_1, .ref 52]) rfl rfl rfl ?_
  refine ev_x (i := .iload_n 2) (len := 1) (p' := 6) (s' := [.int y_2, .int y_1, .ref 52]) rfl rfl rfl ?_
  refine ev_cv (d := d + 2) (As := [.int y_1, .int y_2]) (a := 52) (p' := 9) rfl rfl rfl ly_52 rfl rfl rfl rfl rfl rfl rfl (lz_81 (d := d + 0) (c_1 := c_1) (c_2 := c_2)) ?_
  refine ev_st (st' := [.int (-1)]) rfl ?_
  refine ev_x (i := .istore_n 3) (len := 1) (p' := 10) (s' := []) (l' := [(3, .int (-1)), (0, .ref 1), (1, .int y_1), (2, .int y_2)]) rfl rfl rfl ?_
  refine ev_x (i := .iload_n 3) (len := 1) (p' := 11) (s' := [.int (-1)]) rfl rfl rfl ?_
  refine ev_b0 (t := 18) (p' := 14) rfl rfl rfl (by decide) ?_
  refine ev_x (i := .iconst (-1)) (len := 1) (p' := 15) (s' := [.int (-1)]) rfl rfl rfl ?_
  refine ev_x (i := .goto 12) (len := 3) (p' := 27) (s' := [.int (-1)]) rfl rfl rfl ?_
  exact ev_iret rfl rfl rfl rfl
set_option maxHeartbeats 4000000 in
set_option maxRecDepth 100000 in
/-- GameTextModel.isCommand(II)Z -/
theorem lz_84 {d : Nat} {σ : st_S} {y_1 y_2 : Int32} (c_1 : ¬ (y_1 < 0)) (c_2 : (σ.1 66 29) ≤ y_1) : vz_ev P0 (d + 2) 227 0 (lv_args 0 [.ref 66, .int y_1, .int y_2]) [] (hp σ) (.inl (some (.int 0)), hp (st_i (σ) 66 0 0)) := by
  refine ev_x (i := .aload_n 0) (len := 1) (p' := 1) (s' := [.ref 66]) rfl rfl rfl ?_
  refine ev_x (i := .iload_n 1) (len := 1) (p' := 2) (s' := [.int y_1, .ref 66]) rfl rfl rfl ?_
  refine ev_cv (d := d + 1) (As := [.int y_1]) (a := 66) (p' := 5) rfl rfl rfl ly_66 rfl rfl rfl rfl rfl rfl rfl (lz_50 (d := d + 0) (c_1 := c_1) (c_2 := c_2)) ?_
  refine ev_st (st' := [.int 0]) rfl ?_
  refine ev_b0 (t := 26) (p' := 26) rfl rfl rfl (by decide) ?_
  refine ev_x (i := .iconst 0) (len := 1) (p' := 27) (s' := [.int 0]) rfl rfl rfl ?_
  exact ev_iret rfl rfl rfl rfl
set_option maxHeartbeats 4000000 in
set_option maxRecDepth 100000 in
/-- GameTextModel.command(II)I -/
theorem lz_85 {d : Nat} {σ : st_S} {y_1 y_2 : Int32} (c_1 : ¬ (y_1 < 0)) (c_2 : (σ.1 66 29) ≤ y_1) : vz_ev P0 (d + 3) 226 0 (lv_args 0 [.ref 66, .int y_1, .int y_2]) [] (hp σ) (.inl (some (.int (-1))), hp (st_i (σ) 66 0 0)) := by
  refine ev_x (i := .aload_n 0) (len := 1) (p' := 1) (s' := [.ref 66]) rfl rfl rfl ?_
  refine ev_x (i := .iload_n 1) (len := 1) (p' := 2) (s' := [.int y_1, .ref 66]) rfl rfl rfl ?_
  refine ev_x (i := .iload_n 2) (len := 1) (p' := 3) (s' := [.int y_2, .int y_1, .ref 66]) rfl rfl rfl ?_
  refine ev_cv (d := d + 2) (As := [.int y_1, .int y_2]) (a := 66) (p' := 6) rfl rfl rfl ly_66 rfl rfl rfl rfl rfl rfl rfl (lz_84 (d := d + 0) (c_1 := c_1) (c_2 := c_2)) ?_
  refine ev_st (st' := [.int 0]) rfl ?_
  refine ev_b0 (t := 27) (p' := 27) rfl rfl rfl (by decide) ?_
  refine ev_x (i := .iconst (-1)) (len := 1) (p' := 28) (s' := [.int (-1)]) rfl rfl rfl ?_
  exact ev_iret rfl rfl rfl rfl
set_option maxHeartbeats 4000000 in
set_option maxRecDepth 100000 in
/-- GameTextLaw.law([I)Z -/
theorem lw_11g_a0 {d : Nat} {σ : st_S} {q : vz_O × vz_H} {n L : Nat} {xs : Nat → Int32} (hs : gF σ 0 = .inl (0, L, .inl xs)) (hn : n + 6 ≤ L) (hL : L ≤ 3072) (c_1 : ¬ ((xs (n + 1)) < 0)) (c_2 : (σ.1 52 10) ≤ (xs (n + 1))) (c_3 : (σ.1 66 29) ≤ (xs (n + 1))) (k : vz_ev P0 (d + 4) 0 615 [(4, .int (nI n)), (3, .ref 187), (2, .ref 66), (1, .ref 1), (0, .ref 0)] [] (hp (st_i (σ) 66 0 0)) q) : vz_ev P0 (d + 4) 0 480 [(4, .int (nI n)), (3, .ref 187), (2, .ref 66), (1, .ref 1), (0, .ref 0)] [] (hp σ) q := by
  refine ev_x (i := .aload_n 1) (len := 1) (p' := 481) (s' := [.ref 1]) rfl rfl rfl ?_
  refine ev_x (i := .aload_n 0) (len := 1) (p' := 482) (s' := [.ref 0, .ref 1]) rfl rfl rfl ?_
  refine ev_x (i := .iload 4) (len := 2) (p' := 484) (s' := [.int (nI n), .ref 0, .ref 1]) rfl rfl rfl ?_
  refine ev_x (i := .iconst 1) (len := 1) (p' := 485) (s' := [.int 1, .int (nI n), .ref 0, .ref 1]) rfl rfl rfl ?_
  refine ev_x (i := .iadd) (len := 1) (p' := 486) (s' := [.int ((nI n) + 1), .ref 0, .ref 1]) rfl rfl rfl ?_
  refine ev_st (st' := [.int (nI (n + 1)), .ref 0, .ref 1]) (congrArg (fun z => Value.int z :: [.ref 0, .ref 1]) (nI_add n 1)) ?_
  refine ev_sg (p' := 487) rfl rfl hs (vp_in_nI (by omega) (by omega)) rfl ?_
  refine ev_st (st' := [.int (xs (n + 1)), .ref 1]) (congrArg (fun z => Value.int (xs z) :: [.ref 1]) (nI_clamp (n := n + 1) (by omega))) ?_
  refine ev_x (i := .aload_n 0) (len := 1) (p' := 488) (s' := [.ref 0, .int (xs (n + 1)), .ref 1]) rfl rfl rfl ?_
  refine ev_x (i := .iload 4) (len := 2) (p' := 490) (s' := [.int (nI n), .ref 0, .int (xs (n + 1)), .ref 1]) rfl rfl rfl ?_
  refine ev_x (i := .iconst 2) (len := 1) (p' := 491) (s' := [.int 2, .int (nI n), .ref 0, .int (xs (n + 1)), .ref 1]) rfl rfl rfl ?_
  refine ev_x (i := .iadd) (len := 1) (p' := 492) (s' := [.int ((nI n) + 2), .ref 0, .int (xs (n + 1)), .ref 1]) rfl rfl rfl ?_
  refine ev_st (st' := [.int (nI (n + 2)), .ref 0, .int (xs (n + 1)), .ref 1]) (congrArg (fun z => Value.int z :: [.ref 0, .int (xs (n + 1)), .ref 1]) (nI_add n 2)) ?_
  refine ev_sg (p' := 493) rfl rfl hs (vp_in_nI (by omega) (by omega)) rfl ?_
  refine ev_st (st' := [.int (xs (n + 2)), .int (xs (n + 1)), .ref 1]) (congrArg (fun z => Value.int (xs z) :: [.int (xs (n + 1)), .ref 1]) (nI_clamp (n := n + 2) (by omega))) ?_
  refine ev_cv (d := d + 3) (As := [.int (xs (n + 1)), .int (xs (n + 2))]) (a := 1) (p' := 496) rfl rfl rfl ly_1 rfl rfl rfl rfl rfl rfl rfl (lz_82 (d := d + 0) (c_1 := c_1) (c_2 := c_2)) ?_
  refine ev_st (st' := [.int (-1)]) rfl ?_
  refine ev_x (i := .aload_n 2) (len := 1) (p' := 497) (s' := [.ref 66, .int (-1)]) rfl rfl rfl ?_
  refine ev_x (i := .aload_n 0) (len := 1) (p' := 498) (s' := [.ref 0, .ref 66, .int (-1)]) rfl rfl rfl ?_
  refine ev_x (i := .iload 4) (len := 2) (p' := 500) (s' := [.int (nI n), .ref 0, .ref 66, .int (-1)]) rfl rfl rfl ?_
  refine ev_x (i := .iconst 1) (len := 1) (p' := 501) (s' := [.int 1, .int (nI n), .ref 0, .ref 66, .int (-1)]) rfl rfl rfl ?_
  refine ev_x (i := .iadd) (len := 1) (p' := 502) (s' := [.int ((nI n) + 1), .ref 0, .ref 66, .int (-1)]) rfl rfl rfl ?_
  refine ev_st (st' := [.int (nI (n + 1)), .ref 0, .ref 66, .int (-1)]) (congrArg (fun z => Value.int z :: [.ref 0, .ref 66, .int (-1)]) (nI_add n 1)) ?_
  refine ev_sg (p' := 503) rfl rfl hs (vp_in_nI (by omega) (by omega)) rfl ?_
  refine ev_st (st' := [.int (xs (n + 1)), .ref 66, .int (-1)]) (congrArg (fun z => Value.int (xs z) :: [.ref 66, .int (-1)]) (nI_clamp (n := n + 1) (by omega))) ?_
  refine ev_x (i := .aload_n 0) (len := 1) (p' := 504) (s' := [.ref 0, .int (xs (n + 1)), .ref 66, .int (-1)]) rfl rfl rfl ?_
  refine ev_x (i := .iload 4) (len := 2) (p' := 506) (s' := [.int (nI n), .ref 0, .int (xs (n + 1)), .ref 66, .int (-1)]) rfl rfl rfl ?_
  refine ev_x (i := .iconst 2) (len := 1) (p' := 507) (s' := [.int 2, .int (nI n), .ref 0, .int (xs (n + 1)), .ref 66, .int (-1)]) rfl rfl rfl ?_
  refine ev_x (i := .iadd) (len := 1) (p' := 508) (s' := [.int ((nI n) + 2), .ref 0, .int (xs (n + 1)), .ref 66, .int (-1)]) rfl rfl rfl ?_
  refine ev_st (st' := [.int (nI (n + 2)), .ref 0, .int (xs (n + 1)), .ref 66, .int (-1)]) (congrArg (fun z => Value.int z :: [.ref 0, .int (xs (n + 1)), .ref 66, .int (-1)]) (nI_add n 2)) ?_
  refine ev_sg (p' := 509) rfl rfl hs (vp_in_nI (by omega) (by omega)) rfl ?_
  refine ev_st (st' := [.int (xs (n + 2)), .int (xs (n + 1)), .ref 66, .int (-1)]) (congrArg (fun z => Value.int (xs z) :: [.int (xs (n + 1)), .ref 66, .int (-1)]) (nI_clamp (n := n + 2) (by omega))) ?_
  refine ev_cv (d := d + 3) (As := [.int (xs (n + 1)), .int (xs (n + 2))]) (a := 66) (p' := 512) rfl rfl rfl ly_66 rfl rfl rfl rfl rfl rfl rfl (lz_85 (d := d + 0) (c_1 := c_1) (c_2 := c_3)) ?_
  refine ev_st (st' := [.int (-1), .int (-1)]) rfl ?_
  refine ev_b2 (t := 615) (p' := 615) rfl rfl rfl (by decide) ?_
  exact k
set_option maxHeartbeats 4000000 in
set_option maxRecDepth 100000 in
/-- GameText$Graph.commandAt(II)I -/
theorem lz_88 {d : Nat} {σ : st_S} {y_1 y_2 : Int32} (c_1 : ¬ (y_1 < 0)) (c_2 : ¬ ((σ.1 52 10) ≤ y_1)) (c_3 : y_2 < 0) : vz_ev P0 (d + 2) 100 0 (lv_args 0 [.ref 52, .int y_1, .int y_2]) [] (hp σ) (.inl (some (.int (-1))), hp (σ)) := by
  refine ev_x (i := .aload_n 0) (len := 1) (p' := 1) (s' := [.ref 52]) rfl rfl rfl ?_
  refine ev_x (i := .iload_n 1) (len := 1) (p' := 2) (s' := [.int y_1, .ref 52]) rfl rfl rfl ?_
  refine ev_cv (d := d + 1) (As := [.int y_1]) (a := 52) (p' := 5) rfl rfl rfl ly_52 rfl rfl rfl rfl rfl rfl rfl (lz_53 (d := d + 0) (c_1 := c_1) (c_2 := c_2)) ?_
  refine ev_st (st' := [.int 1]) rfl ?_
  refine ev_b0 (t := 31) (p' := 8) rfl rfl rfl (by decide) ?_
  refine ev_x (i := .iload_n 2) (len := 1) (p' := 9) (s' := [.int y_2]) rfl rfl rfl ?_
  refine ev_b0 (t := 31) (p' := 31) rfl rfl rfl (if_pos c_3) ?_
  refine ev_x (i := .iconst (-1)) (len := 1) (p' := 32) (s' := [.int (-1)]) rfl rfl rfl ?_
  exact ev_iret rfl rfl rfl rfl
set_option maxHeartbeats 4000000 in
set_option maxRecDepth 100000 in
/-- GameText.command(II)I -/
theorem lz_89 {d : Nat} {σ : st_S} {y_1 y_2 : Int32} (c_1 : ¬ (y_1 < 0)) (c_2 : ¬ ((σ.1 52 10) ≤ y_1)) (c_3 : y_2 < 0) : vz_ev P0 (d + 3) 99 0 (lv_args 0 [.ref 1, .int y_1, .int y_2]) [] (hp σ) (.inl (some (.int (-1))), hp (σ)) := by
  refine ev_x (i := .aload_n 0) (len := 1) (p' := 1) (s' := [.ref 1]) rfl rfl rfl ?_
  refine ev_gc (p' := 4) (v := 52) rfl rfl rfl ly_1 rfl rfl ?_
  refine ev_x (i := .iload_n 1) (len := 1) (p' := 5) (s' := [.int y_1, .ref 52]) rfl rfl rfl ?_
  refine ev_x (i := .iload_n 2) (len := 1) (p' := 6) (s' := [.int y_2, .int y_1, .ref 52]) rfl rfl rfl ?_
  refine ev_cv (d := d + 2) (As := [.int y_1, .int y_2]) (a := 52) (p' := 9) rfl rfl rfl ly_52 rfl rfl rfl rfl rfl rfl rfl (lz_88 (d := d + 0) (c_1 := c_1) (c_2 := c_2) (c_3 := c_3)) ?_
  refine ev_st (st' := [.int (-1)]) rfl ?_
  refine ev_x (i := .istore_n 3) (len := 1) (p' := 10) (s' := []) (l' := [(3, .int (-1)), (0, .ref 1), (1, .int y_1), (2, .int y_2)]) rfl rfl rfl ?_
  refine ev_x (i := .iload_n 3) (len := 1) (p' := 11) (s' := [.int (-1)]) rfl rfl rfl ?_
  refine ev_b0 (t := 18) (p' := 14) rfl rfl rfl (by decide) ?_
  refine ev_x (i := .iconst (-1)) (len := 1) (p' := 15) (s' := [.int (-1)]) rfl rfl rfl ?_
  refine ev_x (i := .goto 12) (len := 3) (p' := 27) (s' := [.int (-1)]) rfl rfl rfl ?_
  exact ev_iret rfl rfl rfl rfl
set_option maxHeartbeats 4000000 in
set_option maxRecDepth 100000 in
/-- GameTextModel.isCommand(II)Z -/
theorem lz_91 {d : Nat} {σ : st_S} {y_1 y_2 : Int32} (c_1 : ¬ (y_1 < 0)) (c_2 : ¬ ((σ.1 66 29) ≤ y_1)) (c_3 : y_2 < 0) : vz_ev P0 (d + 2) 227 0 (lv_args 0 [.ref 66, .int y_1, .int y_2]) [] (hp σ) (.inl (some (.int 0)), hp (st_i (σ) 66 0 0)) := by
  refine ev_x (i := .aload_n 0) (len := 1) (p' := 1) (s' := [.ref 66]) rfl rfl rfl ?_
  refine ev_x (i := .iload_n 1) (len := 1) (p' := 2) (s' := [.int y_1, .ref 66]) rfl rfl rfl ?_
  refine ev_cv (d := d + 1) (As := [.int y_1]) (a := 66) (p' := 5) rfl rfl rfl ly_66 rfl rfl rfl rfl rfl rfl rfl (lz_55 (d := d + 0) (c_1 := c_1) (c_2 := c_2)) ?_
  refine ev_st (st' := [.int 1]) rfl ?_
  refine ev_b0 (t := 26) (p' := 8) rfl rfl rfl (by decide) ?_
  refine ev_x (i := .iload_n 2) (len := 1) (p' := 9) (s' := [.int y_2]) rfl rfl rfl ?_
  refine ev_b0 (t := 26) (p' := 26) rfl rfl rfl (if_pos c_3) ?_
  refine ev_x (i := .iconst 0) (len := 1) (p' := 27) (s' := [.int 0]) rfl rfl rfl ?_
  exact ev_iret rfl rfl rfl rfl
set_option maxHeartbeats 4000000 in
set_option maxRecDepth 100000 in
/-- GameTextModel.command(II)I -/
theorem lz_92 {d : Nat} {σ : st_S} {y_1 y_2 : Int32} (c_1 : ¬ (y_1 < 0)) (c_2 : ¬ ((σ.1 66 29) ≤ y_1)) (c_3 : y_2 < 0) : vz_ev P0 (d + 3) 226 0 (lv_args 0 [.ref 66, .int y_1, .int y_2]) [] (hp σ) (.inl (some (.int (-1))), hp (st_i (σ) 66 0 0)) := by
  refine ev_x (i := .aload_n 0) (len := 1) (p' := 1) (s' := [.ref 66]) rfl rfl rfl ?_
  refine ev_x (i := .iload_n 1) (len := 1) (p' := 2) (s' := [.int y_1, .ref 66]) rfl rfl rfl ?_
  refine ev_x (i := .iload_n 2) (len := 1) (p' := 3) (s' := [.int y_2, .int y_1, .ref 66]) rfl rfl rfl ?_
  refine ev_cv (d := d + 2) (As := [.int y_1, .int y_2]) (a := 66) (p' := 6) rfl rfl rfl ly_66 rfl rfl rfl rfl rfl rfl rfl (lz_91 (d := d + 0) (c_1 := c_1) (c_2 := c_2) (c_3 := c_3)) ?_
  refine ev_st (st' := [.int 0]) rfl ?_
  refine ev_b0 (t := 27) (p' := 27) rfl rfl rfl (by decide) ?_
  refine ev_x (i := .iconst (-1)) (len := 1) (p' := 28) (s' := [.int (-1)]) rfl rfl rfl ?_
  exact ev_iret rfl rfl rfl rfl
set_option maxHeartbeats 4000000 in
set_option maxRecDepth 100000 in
/-- GameTextLaw.law([I)Z -/
theorem lw_11m_a0 {d : Nat} {σ : st_S} {q : vz_O × vz_H} {n L : Nat} {xs : Nat → Int32} (hs : gF σ 0 = .inl (0, L, .inl xs)) (hn : n + 6 ≤ L) (hL : L ≤ 3072) (c_1 : ¬ ((xs (n + 1)) < 0)) (c_2 : ¬ ((σ.1 52 10) ≤ (xs (n + 1)))) (c_3 : (xs (n + 2)) < 0) (c_4 : ¬ ((σ.1 66 29) ≤ (xs (n + 1)))) (k : vz_ev P0 (d + 4) 0 615 [(4, .int (nI n)), (3, .ref 187), (2, .ref 66), (1, .ref 1), (0, .ref 0)] [] (hp (st_i (σ) 66 0 0)) q) : vz_ev P0 (d + 4) 0 480 [(4, .int (nI n)), (3, .ref 187), (2, .ref 66), (1, .ref 1), (0, .ref 0)] [] (hp σ) q := by
  refine ev_x (i := .aload_n 1) (len := 1) (p' := 481) (s' := [.ref 1]) rfl rfl rfl ?_
  refine ev_x (i := .aload_n 0) (len := 1) (p' := 482) (s' := [.ref 0, .ref 1]) rfl rfl rfl ?_
  refine ev_x (i := .iload 4) (len := 2) (p' := 484) (s' := [.int (nI n), .ref 0, .ref 1]) rfl rfl rfl ?_
  refine ev_x (i := .iconst 1) (len := 1) (p' := 485) (s' := [.int 1, .int (nI n), .ref 0, .ref 1]) rfl rfl rfl ?_
  refine ev_x (i := .iadd) (len := 1) (p' := 486) (s' := [.int ((nI n) + 1), .ref 0, .ref 1]) rfl rfl rfl ?_
  refine ev_st (st' := [.int (nI (n + 1)), .ref 0, .ref 1]) (congrArg (fun z => Value.int z :: [.ref 0, .ref 1]) (nI_add n 1)) ?_
  refine ev_sg (p' := 487) rfl rfl hs (vp_in_nI (by omega) (by omega)) rfl ?_
  refine ev_st (st' := [.int (xs (n + 1)), .ref 1]) (congrArg (fun z => Value.int (xs z) :: [.ref 1]) (nI_clamp (n := n + 1) (by omega))) ?_
  refine ev_x (i := .aload_n 0) (len := 1) (p' := 488) (s' := [.ref 0, .int (xs (n + 1)), .ref 1]) rfl rfl rfl ?_
  refine ev_x (i := .iload 4) (len := 2) (p' := 490) (s' := [.int (nI n), .ref 0, .int (xs (n + 1)), .ref 1]) rfl rfl rfl ?_
  refine ev_x (i := .iconst 2) (len := 1) (p' := 491) (s' := [.int 2, .int (nI n), .ref 0, .int (xs (n + 1)), .ref 1]) rfl rfl rfl ?_
  refine ev_x (i := .iadd) (len := 1) (p' := 492) (s' := [.int ((nI n) + 2), .ref 0, .int (xs (n + 1)), .ref 1]) rfl rfl rfl ?_
  refine ev_st (st' := [.int (nI (n + 2)), .ref 0, .int (xs (n + 1)), .ref 1]) (congrArg (fun z => Value.int z :: [.ref 0, .int (xs (n + 1)), .ref 1]) (nI_add n 2)) ?_
  refine ev_sg (p' := 493) rfl rfl hs (vp_in_nI (by omega) (by omega)) rfl ?_
  refine ev_st (st' := [.int (xs (n + 2)), .int (xs (n + 1)), .ref 1]) (congrArg (fun z => Value.int (xs z) :: [.int (xs (n + 1)), .ref 1]) (nI_clamp (n := n + 2) (by omega))) ?_
  refine ev_cv (d := d + 3) (As := [.int (xs (n + 1)), .int (xs (n + 2))]) (a := 1) (p' := 496) rfl rfl rfl ly_1 rfl rfl rfl rfl rfl rfl rfl (lz_89 (d := d + 0) (c_1 := c_1) (c_2 := c_2) (c_3 := c_3)) ?_
  refine ev_st (st' := [.int (-1)]) rfl ?_
  refine ev_x (i := .aload_n 2) (len := 1) (p' := 497) (s' := [.ref 66, .int (-1)]) rfl rfl rfl ?_
  refine ev_x (i := .aload_n 0) (len := 1) (p' := 498) (s' := [.ref 0, .ref 66, .int (-1)]) rfl rfl rfl ?_
  refine ev_x (i := .iload 4) (len := 2) (p' := 500) (s' := [.int (nI n), .ref 0, .ref 66, .int (-1)]) rfl rfl rfl ?_
  refine ev_x (i := .iconst 1) (len := 1) (p' := 501) (s' := [.int 1, .int (nI n), .ref 0, .ref 66, .int (-1)]) rfl rfl rfl ?_
  refine ev_x (i := .iadd) (len := 1) (p' := 502) (s' := [.int ((nI n) + 1), .ref 0, .ref 66, .int (-1)]) rfl rfl rfl ?_
  refine ev_st (st' := [.int (nI (n + 1)), .ref 0, .ref 66, .int (-1)]) (congrArg (fun z => Value.int z :: [.ref 0, .ref 66, .int (-1)]) (nI_add n 1)) ?_
  refine ev_sg (p' := 503) rfl rfl hs (vp_in_nI (by omega) (by omega)) rfl ?_
  refine ev_st (st' := [.int (xs (n + 1)), .ref 66, .int (-1)]) (congrArg (fun z => Value.int (xs z) :: [.ref 66, .int (-1)]) (nI_clamp (n := n + 1) (by omega))) ?_
  refine ev_x (i := .aload_n 0) (len := 1) (p' := 504) (s' := [.ref 0, .int (xs (n + 1)), .ref 66, .int (-1)]) rfl rfl rfl ?_
  refine ev_x (i := .iload 4) (len := 2) (p' := 506) (s' := [.int (nI n), .ref 0, .int (xs (n + 1)), .ref 66, .int (-1)]) rfl rfl rfl ?_
  refine ev_x (i := .iconst 2) (len := 1) (p' := 507) (s' := [.int 2, .int (nI n), .ref 0, .int (xs (n + 1)), .ref 66, .int (-1)]) rfl rfl rfl ?_
  refine ev_x (i := .iadd) (len := 1) (p' := 508) (s' := [.int ((nI n) + 2), .ref 0, .int (xs (n + 1)), .ref 66, .int (-1)]) rfl rfl rfl ?_
  refine ev_st (st' := [.int (nI (n + 2)), .ref 0, .int (xs (n + 1)), .ref 66, .int (-1)]) (congrArg (fun z => Value.int z :: [.ref 0, .int (xs (n + 1)), .ref 66, .int (-1)]) (nI_add n 2)) ?_
  refine ev_sg (p' := 509) rfl rfl hs (vp_in_nI (by omega) (by omega)) rfl ?_
  refine ev_st (st' := [.int (xs (n + 2)), .int (xs (n + 1)), .ref 66, .int (-1)]) (congrArg (fun z => Value.int (xs z) :: [.int (xs (n + 1)), .ref 66, .int (-1)]) (nI_clamp (n := n + 2) (by omega))) ?_
  refine ev_cv (d := d + 3) (As := [.int (xs (n + 1)), .int (xs (n + 2))]) (a := 66) (p' := 512) rfl rfl rfl ly_66 rfl rfl rfl rfl rfl rfl rfl (lz_92 (d := d + 0) (c_1 := c_1) (c_2 := c_4) (c_3 := c_3)) ?_
  refine ev_st (st' := [.int (-1), .int (-1)]) rfl ?_
  refine ev_b2 (t := 615) (p' := 615) rfl rfl rfl (by decide) ?_
  exact k
set_option maxHeartbeats 4000000 in
set_option maxRecDepth 100000 in
/-- GameText$Graph.commandAt(II)I -/
theorem lz_95 {d : Nat} {σ : st_S} {y_1 y_2 : Int32} (c_1 : ¬ (y_1 < 0)) (c_2 : ¬ ((σ.1 52 10) ≤ y_1)) (c_3 : ¬ (y_2 < 0)) (c_4 : vp_in (y_1 + 1) (gN σ 56)) (c_5 : vp_in y_1 (gN σ 56)) (c_6 : ¬ (y_2 < ((gE σ 56 (((y_1 + 1)).toNatClampNeg)) - (gE σ 56 ((y_1).toNatClampNeg))))) : vz_ev P0 (d + 2) 100 0 (lv_args 0 [.ref 52, .int y_1, .int y_2]) [] (hp σ) (.inl (some (.int (-1))), hp (σ)) := by
  refine ev_x (i := .aload_n 0) (len := 1) (p' := 1) (s' := [.ref 52]) rfl rfl rfl ?_
  refine ev_x (i := .iload_n 1) (len := 1) (p' := 2) (s' := [.int y_1, .ref 52]) rfl rfl rfl ?_
  refine ev_cv (d := d + 1) (As := [.int y_1]) (a := 52) (p' := 5) rfl rfl rfl ly_52 rfl rfl rfl rfl rfl rfl rfl (lz_53 (d := d + 0) (c_1 := c_1) (c_2 := c_2)) ?_
  refine ev_st (st' := [.int 1]) rfl ?_
  refine ev_b0 (t := 31) (p' := 8) rfl rfl rfl (by decide) ?_
  refine ev_x (i := .iload_n 2) (len := 1) (p' := 9) (s' := [.int y_2]) rfl rfl rfl ?_
  refine ev_b0 (t := 31) (p' := 12) rfl rfl rfl (if_neg c_3) ?_
  refine ev_x (i := .iload_n 2) (len := 1) (p' := 13) (s' := [.int y_2]) rfl rfl rfl ?_
  refine ev_x (i := .aload_n 0) (len := 1) (p' := 14) (s' := [.ref 52, .int y_2]) rfl rfl rfl ?_
  refine ev_gc (p' := 17) (v := 56) rfl rfl rfl ly_52 rfl rfl ?_
  refine ev_x (i := .iload_n 1) (len := 1) (p' := 18) (s' := [.int y_1, .ref 56, .int y_2]) rfl rfl rfl ?_
  refine ev_x (i := .iconst 1) (len := 1) (p' := 19) (s' := [.int 1, .int y_1, .ref 56, .int y_2]) rfl rfl rfl ?_
  refine ev_x (i := .iadd) (len := 1) (p' := 20) (s' := [.int (y_1 + 1), .ref 56, .int y_2]) rfl rfl rfl ?_
  refine ev_ga (p' := 21) (v := (gE σ 56 (((y_1 + 1)).toNatClampNeg))) rfl rfl ly_56 rfl c_4 rfl ?_
  refine ev_x (i := .aload_n 0) (len := 1) (p' := 22) (s' := [.ref 52, .int (gE σ 56 (((y_1 + 1)).toNatClampNeg)), .int y_2]) rfl rfl rfl ?_
  refine ev_gc (p' := 25) (v := 56) rfl rfl rfl ly_52 rfl rfl ?_
  refine ev_x (i := .iload_n 1) (len := 1) (p' := 26) (s' := [.int y_1, .ref 56, .int (gE σ 56 (((y_1 + 1)).toNatClampNeg)), .int y_2]) rfl rfl rfl ?_
  refine ev_ga (p' := 27) (v := (gE σ 56 ((y_1).toNatClampNeg))) rfl rfl ly_56 rfl c_5 rfl ?_
  refine ev_x (i := .isub) (len := 1) (p' := 28) (s' := [.int ((gE σ 56 (((y_1 + 1)).toNatClampNeg)) - (gE σ 56 ((y_1).toNatClampNeg))), .int y_2]) rfl rfl rfl ?_
  refine ev_b2 (t := 33) (p' := 31) rfl rfl rfl (if_neg c_6) ?_
  refine ev_x (i := .iconst (-1)) (len := 1) (p' := 32) (s' := [.int (-1)]) rfl rfl rfl ?_
  exact ev_iret rfl rfl rfl rfl
set_option maxHeartbeats 4000000 in
set_option maxRecDepth 100000 in
/-- GameText.command(II)I -/
theorem lz_96 {d : Nat} {σ : st_S} {y_1 y_2 : Int32} (c_1 : ¬ (y_1 < 0)) (c_2 : ¬ ((σ.1 52 10) ≤ y_1)) (c_3 : ¬ (y_2 < 0)) (c_4 : vp_in (y_1 + 1) (gN σ 56)) (c_5 : vp_in y_1 (gN σ 56)) (c_6 : ¬ (y_2 < ((gE σ 56 (((y_1 + 1)).toNatClampNeg)) - (gE σ 56 ((y_1).toNatClampNeg))))) : vz_ev P0 (d + 3) 99 0 (lv_args 0 [.ref 1, .int y_1, .int y_2]) [] (hp σ) (.inl (some (.int (-1))), hp (σ)) := by
  refine ev_x (i := .aload_n 0) (len := 1) (p' := 1) (s' := [.ref 1]) rfl rfl rfl ?_
  refine ev_gc (p' := 4) (v := 52) rfl rfl rfl ly_1 rfl rfl ?_
  refine ev_x (i := .iload_n 1) (len := 1) (p' := 5) (s' := [.int y_1, .ref 52]) rfl rfl rfl ?_
  refine ev_x (i := .iload_n 2) (len := 1) (p' := 6) (s' := [.int y_2, .int y_1, .ref 52]) rfl rfl rfl ?_
  refine ev_cv (d := d + 2) (As := [.int y_1, .int y_2]) (a := 52) (p' := 9) rfl rfl rfl ly_52 rfl rfl rfl rfl rfl rfl rfl (lz_95 (d := d + 0) (c_1 := c_1) (c_2 := c_2) (c_3 := c_3) (c_4 := c_4) (c_5 := c_5) (c_6 := c_6)) ?_
  refine ev_st (st' := [.int (-1)]) rfl ?_
  refine ev_x (i := .istore_n 3) (len := 1) (p' := 10) (s' := []) (l' := [(3, .int (-1)), (0, .ref 1), (1, .int y_1), (2, .int y_2)]) rfl rfl rfl ?_
  refine ev_x (i := .iload_n 3) (len := 1) (p' := 11) (s' := [.int (-1)]) rfl rfl rfl ?_
  refine ev_b0 (t := 18) (p' := 14) rfl rfl rfl (by decide) ?_
  refine ev_x (i := .iconst (-1)) (len := 1) (p' := 15) (s' := [.int (-1)]) rfl rfl rfl ?_
  refine ev_x (i := .goto 12) (len := 3) (p' := 27) (s' := [.int (-1)]) rfl rfl rfl ?_
  exact ev_iret rfl rfl rfl rfl
set_option maxHeartbeats 4000000 in
set_option maxRecDepth 100000 in
/-- GameTextModel.isCommand(II)Z -/
theorem lz_98 {d : Nat} {σ : st_S} {y_1 y_2 : Int32} (c_1 : ¬ (y_1 < 0)) (c_2 : ¬ ((σ.1 66 29) ≤ y_1)) (c_3 : ¬ (y_2 < 0)) (c_4 : vp_in y_1 (gN σ 174)) (c_5 : (gE σ 174 ((y_1).toNatClampNeg)) ≤ y_2) : vz_ev P0 (d + 2) 227 0 (lv_args 0 [.ref 66, .int y_1, .int y_2]) [] (hp σ) (.inl (some (.int 0)), hp (st_i (σ) 66 0 0)) := by
  refine ev_x (i := .aload_n 0) (len := 1) (p' := 1) (s' := [.ref 66]) rfl rfl rfl ?_
  refine ev_x (i := .iload_n 1) (len := 1) (p' := 2) (s' := [.int y_1, .ref 66]) rfl rfl rfl ?_
  refine ev_cv (d := d + 1) (As := [.int y_1]) (a := 66) (p' := 5) rfl rfl rfl ly_66 rfl rfl rfl rfl rfl rfl rfl (lz_55 (d := d + 0) (c_1 := c_1) (c_2 := c_2)) ?_
  refine ev_st (st' := [.int 1]) rfl ?_
  refine ev_b0 (t := 26) (p' := 8) rfl rfl rfl (by decide) ?_
  refine ev_x (i := .iload_n 2) (len := 1) (p' := 9) (s' := [.int y_2]) rfl rfl rfl ?_
  refine ev_b0 (t := 26) (p' := 12) rfl rfl rfl (if_neg c_3) ?_
  refine ev_x (i := .iload_n 2) (len := 1) (p' := 13) (s' := [.int y_2]) rfl rfl rfl ?_
  refine ev_x (i := .aload_n 0) (len := 1) (p' := 14) (s' := [.ref 66, .int y_2]) rfl rfl rfl ?_
  refine ev_gc (p' := 17) (v := 174) rfl rfl rfl ly_66 rfl rfl ?_
  refine ev_x (i := .iload_n 1) (len := 1) (p' := 18) (s' := [.int y_1, .ref 174, .int y_2]) rfl rfl rfl ?_
  refine ev_ga (p' := 19) (v := (gE σ 174 ((y_1).toNatClampNeg))) rfl rfl ly_174 rfl c_4 rfl ?_
  refine ev_b2 (t := 26) (p' := 26) rfl rfl rfl (if_pos c_5) ?_
  refine ev_x (i := .iconst 0) (len := 1) (p' := 27) (s' := [.int 0]) rfl rfl rfl ?_
  exact ev_iret rfl rfl rfl rfl
set_option maxHeartbeats 4000000 in
set_option maxRecDepth 100000 in
/-- GameTextModel.command(II)I -/
theorem lz_99 {d : Nat} {σ : st_S} {y_1 y_2 : Int32} (c_1 : ¬ (y_1 < 0)) (c_2 : ¬ ((σ.1 66 29) ≤ y_1)) (c_3 : ¬ (y_2 < 0)) (c_4 : vp_in y_1 (gN σ 174)) (c_5 : (gE σ 174 ((y_1).toNatClampNeg)) ≤ y_2) : vz_ev P0 (d + 3) 226 0 (lv_args 0 [.ref 66, .int y_1, .int y_2]) [] (hp σ) (.inl (some (.int (-1))), hp (st_i (σ) 66 0 0)) := by
  refine ev_x (i := .aload_n 0) (len := 1) (p' := 1) (s' := [.ref 66]) rfl rfl rfl ?_
  refine ev_x (i := .iload_n 1) (len := 1) (p' := 2) (s' := [.int y_1, .ref 66]) rfl rfl rfl ?_
  refine ev_x (i := .iload_n 2) (len := 1) (p' := 3) (s' := [.int y_2, .int y_1, .ref 66]) rfl rfl rfl ?_
  refine ev_cv (d := d + 2) (As := [.int y_1, .int y_2]) (a := 66) (p' := 6) rfl rfl rfl ly_66 rfl rfl rfl rfl rfl rfl rfl (lz_98 (d := d + 0) (c_1 := c_1) (c_2 := c_2) (c_3 := c_3) (c_4 := c_4) (c_5 := c_5)) ?_
  refine ev_st (st' := [.int 0]) rfl ?_
  refine ev_b0 (t := 27) (p' := 27) rfl rfl rfl (by decide) ?_
  refine ev_x (i := .iconst (-1)) (len := 1) (p' := 28) (s' := [.int (-1)]) rfl rfl rfl ?_
  exact ev_iret rfl rfl rfl rfl
set_option maxHeartbeats 4000000 in
set_option maxRecDepth 100000 in
/-- GameTextLaw.law([I)Z -/
theorem lw_11h_a0 {d : Nat} {σ : st_S} {q : vz_O × vz_H} {n L : Nat} {xs : Nat → Int32} (hs : gF σ 0 = .inl (0, L, .inl xs)) (hn : n + 6 ≤ L) (hL : L ≤ 3072) (c_1 : ¬ ((xs (n + 1)) < 0)) (c_2 : ¬ ((σ.1 52 10) ≤ (xs (n + 1)))) (c_3 : ¬ ((xs (n + 2)) < 0)) (c_4 : vp_in ((xs (n + 1)) + 1) (gN σ 56)) (c_5 : vp_in (xs (n + 1)) (gN σ 56)) (c_6 : ¬ ((xs (n + 2)) < ((gE σ 56 ((((xs (n + 1)) + 1)).toNatClampNeg)) - (gE σ 56 (((xs (n + 1))).toNatClampNeg))))) (c_7 : ¬ ((σ.1 66 29) ≤ (xs (n + 1)))) (c_8 : vp_in (xs (n + 1)) (gN σ 174)) (c_9 : (gE σ 174 (((xs (n + 1))).toNatClampNeg)) ≤ (xs (n + 2))) (k : vz_ev P0 (d + 4) 0 615 [(4, .int (nI n)), (3, .ref 187), (2, .ref 66), (1, .ref 1), (0, .ref 0)] [] (hp (st_i (σ) 66 0 0)) q) : vz_ev P0 (d + 4) 0 480 [(4, .int (nI n)), (3, .ref 187), (2, .ref 66), (1, .ref 1), (0, .ref 0)] [] (hp σ) q := by
  refine ev_x (i := .aload_n 1) (len := 1) (p' := 481) (s' := [.ref 1]) rfl rfl rfl ?_
  refine ev_x (i := .aload_n 0) (len := 1) (p' := 482) (s' := [.ref 0, .ref 1]) rfl rfl rfl ?_
  refine ev_x (i := .iload 4) (len := 2) (p' := 484) (s' := [.int (nI n), .ref 0, .ref 1]) rfl rfl rfl ?_
  refine ev_x (i := .iconst 1) (len := 1) (p' := 485) (s' := [.int 1, .int (nI n), .ref 0, .ref 1]) rfl rfl rfl ?_
  refine ev_x (i := .iadd) (len := 1) (p' := 486) (s' := [.int ((nI n) + 1), .ref 0, .ref 1]) rfl rfl rfl ?_
  refine ev_st (st' := [.int (nI (n + 1)), .ref 0, .ref 1]) (congrArg (fun z => Value.int z :: [.ref 0, .ref 1]) (nI_add n 1)) ?_
  refine ev_sg (p' := 487) rfl rfl hs (vp_in_nI (by omega) (by omega)) rfl ?_
  refine ev_st (st' := [.int (xs (n + 1)), .ref 1]) (congrArg (fun z => Value.int (xs z) :: [.ref 1]) (nI_clamp (n := n + 1) (by omega))) ?_
  refine ev_x (i := .aload_n 0) (len := 1) (p' := 488) (s' := [.ref 0, .int (xs (n + 1)), .ref 1]) rfl rfl rfl ?_
  refine ev_x (i := .iload 4) (len := 2) (p' := 490) (s' := [.int (nI n), .ref 0, .int (xs (n + 1)), .ref 1]) rfl rfl rfl ?_
  refine ev_x (i := .iconst 2) (len := 1) (p' := 491) (s' := [.int 2, .int (nI n), .ref 0, .int (xs (n + 1)), .ref 1]) rfl rfl rfl ?_
  refine ev_x (i := .iadd) (len := 1) (p' := 492) (s' := [.int ((nI n) + 2), .ref 0, .int (xs (n + 1)), .ref 1]) rfl rfl rfl ?_
  refine ev_st (st' := [.int (nI (n + 2)), .ref 0, .int (xs (n + 1)), .ref 1]) (congrArg (fun z => Value.int z :: [.ref 0, .int (xs (n + 1)), .ref 1]) (nI_add n 2)) ?_
  refine ev_sg (p' := 493) rfl rfl hs (vp_in_nI (by omega) (by omega)) rfl ?_
  refine ev_st (st' := [.int (xs (n + 2)), .int (xs (n + 1)), .ref 1]) (congrArg (fun z => Value.int (xs z) :: [.int (xs (n + 1)), .ref 1]) (nI_clamp (n := n + 2) (by omega))) ?_
  refine ev_cv (d := d + 3) (As := [.int (xs (n + 1)), .int (xs (n + 2))]) (a := 1) (p' := 496) rfl rfl rfl ly_1 rfl rfl rfl rfl rfl rfl rfl (lz_96 (d := d + 0) (c_1 := c_1) (c_2 := c_2) (c_3 := c_3) (c_4 := c_4) (c_5 := c_5) (c_6 := c_6)) ?_
  refine ev_st (st' := [.int (-1)]) rfl ?_
  refine ev_x (i := .aload_n 2) (len := 1) (p' := 497) (s' := [.ref 66, .int (-1)]) rfl rfl rfl ?_
  refine ev_x (i := .aload_n 0) (len := 1) (p' := 498) (s' := [.ref 0, .ref 66, .int (-1)]) rfl rfl rfl ?_
  refine ev_x (i := .iload 4) (len := 2) (p' := 500) (s' := [.int (nI n), .ref 0, .ref 66, .int (-1)]) rfl rfl rfl ?_
  refine ev_x (i := .iconst 1) (len := 1) (p' := 501) (s' := [.int 1, .int (nI n), .ref 0, .ref 66, .int (-1)]) rfl rfl rfl ?_
  refine ev_x (i := .iadd) (len := 1) (p' := 502) (s' := [.int ((nI n) + 1), .ref 0, .ref 66, .int (-1)]) rfl rfl rfl ?_
  refine ev_st (st' := [.int (nI (n + 1)), .ref 0, .ref 66, .int (-1)]) (congrArg (fun z => Value.int z :: [.ref 0, .ref 66, .int (-1)]) (nI_add n 1)) ?_
  refine ev_sg (p' := 503) rfl rfl hs (vp_in_nI (by omega) (by omega)) rfl ?_
  refine ev_st (st' := [.int (xs (n + 1)), .ref 66, .int (-1)]) (congrArg (fun z => Value.int (xs z) :: [.ref 66, .int (-1)]) (nI_clamp (n := n + 1) (by omega))) ?_
  refine ev_x (i := .aload_n 0) (len := 1) (p' := 504) (s' := [.ref 0, .int (xs (n + 1)), .ref 66, .int (-1)]) rfl rfl rfl ?_
  refine ev_x (i := .iload 4) (len := 2) (p' := 506) (s' := [.int (nI n), .ref 0, .int (xs (n + 1)), .ref 66, .int (-1)]) rfl rfl rfl ?_
  refine ev_x (i := .iconst 2) (len := 1) (p' := 507) (s' := [.int 2, .int (nI n), .ref 0, .int (xs (n + 1)), .ref 66, .int (-1)]) rfl rfl rfl ?_
  refine ev_x (i := .iadd) (len := 1) (p' := 508) (s' := [.int ((nI n) + 2), .ref 0, .int (xs (n + 1)), .ref 66, .int (-1)]) rfl rfl rfl ?_
  refine ev_st (st' := [.int (nI (n + 2)), .ref 0, .int (xs (n + 1)), .ref 66, .int (-1)]) (congrArg (fun z => Value.int z :: [.ref 0, .int (xs (n + 1)), .ref 66, .int (-1)]) (nI_add n 2)) ?_
  refine ev_sg (p' := 509) rfl rfl hs (vp_in_nI (by omega) (by omega)) rfl ?_
  refine ev_st (st' := [.int (xs (n + 2)), .int (xs (n + 1)), .ref 66, .int (-1)]) (congrArg (fun z => Value.int (xs z) :: [.int (xs (n + 1)), .ref 66, .int (-1)]) (nI_clamp (n := n + 2) (by omega))) ?_
  refine ev_cv (d := d + 3) (As := [.int (xs (n + 1)), .int (xs (n + 2))]) (a := 66) (p' := 512) rfl rfl rfl ly_66 rfl rfl rfl rfl rfl rfl rfl (lz_99 (d := d + 0) (c_1 := c_1) (c_2 := c_7) (c_3 := c_3) (c_4 := c_8) (c_5 := c_9)) ?_
  refine ev_st (st' := [.int (-1), .int (-1)]) rfl ?_
  refine ev_b2 (t := 615) (p' := 615) rfl rfl rfl (by decide) ?_
  exact k
set_option maxHeartbeats 4000000 in
set_option maxRecDepth 100000 in
/-- GameText$Graph.commandAt(II)I -/
theorem lz_102 {d : Nat} {σ : st_S} {y_1 y_2 : Int32} (c_1 : ¬ (y_1 < 0)) (c_2 : ¬ ((σ.1 52 10) ≤ y_1)) (c_3 : ¬ (y_2 < 0)) (c_4 : vp_in (y_1 + 1) (gN σ 56)) (c_5 : vp_in y_1 (gN σ 56)) (c_6 : y_2 < ((gE σ 56 (((y_1 + 1)).toNatClampNeg)) - (gE σ 56 ((y_1).toNatClampNeg)))) : vz_ev P0 (d + 2) 100 0 (lv_args 0 [.ref 52, .int y_1, .int y_2]) [] (hp σ) (.inl (some (.int ((gE σ 56 ((y_1).toNatClampNeg)) + y_2))), hp (σ)) := by
  refine ev_x (i := .aload_n 0) (len := 1) (p' := 1) (s' := [.ref 52]) rfl rfl rfl ?_
  refine ev_x (i := .iload_n 1) (len := 1) (p' := 2) (s' := [.int y_1, .ref 52]) rfl rfl rfl ?_
  refine ev_cv (d := d + 1) (As := [.int y_1]) (a := 52) (p' := 5) rfl rfl rfl ly_52 rfl rfl rfl rfl rfl rfl rfl (lz_53 (d := d + 0) (c_1 := c_1) (c_2 := c_2)) ?_
  refine ev_st (st' := [.int 1]) rfl ?_
  refine ev_b0 (t := 31) (p' := 8) rfl rfl rfl (by decide) ?_
  refine ev_x (i := .iload_n 2) (len := 1) (p' := 9) (s' := [.int y_2]) rfl rfl rfl ?_
  refine ev_b0 (t := 31) (p' := 12) rfl rfl rfl (if_neg c_3) ?_
  refine ev_x (i := .iload_n 2) (len := 1) (p' := 13) (s' := [.int y_2]) rfl rfl rfl ?_
  refine ev_x (i := .aload_n 0) (len := 1) (p' := 14) (s' := [.ref 52, .int y_2]) rfl rfl rfl ?_
  refine ev_gc (p' := 17) (v := 56) rfl rfl rfl ly_52 rfl rfl ?_
  refine ev_x (i := .iload_n 1) (len := 1) (p' := 18) (s' := [.int y_1, .ref 56, .int y_2]) rfl rfl rfl ?_
  refine ev_x (i := .iconst 1) (len := 1) (p' := 19) (s' := [.int 1, .int y_1, .ref 56, .int y_2]) rfl rfl rfl ?_
  refine ev_x (i := .iadd) (len := 1) (p' := 20) (s' := [.int (y_1 + 1), .ref 56, .int y_2]) rfl rfl rfl ?_
  refine ev_ga (p' := 21) (v := (gE σ 56 (((y_1 + 1)).toNatClampNeg))) rfl rfl ly_56 rfl c_4 rfl ?_
  refine ev_x (i := .aload_n 0) (len := 1) (p' := 22) (s' := [.ref 52, .int (gE σ 56 (((y_1 + 1)).toNatClampNeg)), .int y_2]) rfl rfl rfl ?_
  refine ev_gc (p' := 25) (v := 56) rfl rfl rfl ly_52 rfl rfl ?_
  refine ev_x (i := .iload_n 1) (len := 1) (p' := 26) (s' := [.int y_1, .ref 56, .int (gE σ 56 (((y_1 + 1)).toNatClampNeg)), .int y_2]) rfl rfl rfl ?_
  refine ev_ga (p' := 27) (v := (gE σ 56 ((y_1).toNatClampNeg))) rfl rfl ly_56 rfl c_5 rfl ?_
  refine ev_x (i := .isub) (len := 1) (p' := 28) (s' := [.int ((gE σ 56 (((y_1 + 1)).toNatClampNeg)) - (gE σ 56 ((y_1).toNatClampNeg))), .int y_2]) rfl rfl rfl ?_
  refine ev_b2 (t := 33) (p' := 33) rfl rfl rfl (if_pos c_6) ?_
  refine ev_x (i := .aload_n 0) (len := 1) (p' := 34) (s' := [.ref 52]) rfl rfl rfl ?_
  refine ev_gc (p' := 37) (v := 56) rfl rfl rfl ly_52 rfl rfl ?_
  refine ev_x (i := .iload_n 1) (len := 1) (p' := 38) (s' := [.int y_1, .ref 56]) rfl rfl rfl ?_
  refine ev_ga (p' := 39) (v := (gE σ 56 ((y_1).toNatClampNeg))) rfl rfl ly_56 rfl c_5 rfl ?_
  refine ev_x (i := .iload_n 2) (len := 1) (p' := 40) (s' := [.int y_2, .int (gE σ 56 ((y_1).toNatClampNeg))]) rfl rfl rfl ?_
  refine ev_x (i := .iadd) (len := 1) (p' := 41) (s' := [.int ((gE σ 56 ((y_1).toNatClampNeg)) + y_2)]) rfl rfl rfl ?_
  exact ev_iret rfl rfl rfl rfl
set_option maxHeartbeats 4000000 in
set_option maxRecDepth 100000 in
/-- GameText.command(II)I -/
theorem lz_103 {d : Nat} {σ : st_S} {y_1 y_2 : Int32} (c_1 : ¬ (y_1 < 0)) (c_2 : ¬ ((σ.1 52 10) ≤ y_1)) (c_3 : ¬ (y_2 < 0)) (c_4 : vp_in (y_1 + 1) (gN σ 56)) (c_5 : vp_in y_1 (gN σ 56)) (c_6 : y_2 < ((gE σ 56 (((y_1 + 1)).toNatClampNeg)) - (gE σ 56 ((y_1).toNatClampNeg)))) (c_7 : 0 ≤ ((gE σ 56 ((y_1).toNatClampNeg)) + y_2)) (c_8 : vp_in ((gE σ 56 ((y_1).toNatClampNeg)) + y_2) (gN σ 57)) : vz_ev P0 (d + 3) 99 0 (lv_args 0 [.ref 1, .int y_1, .int y_2]) [] (hp σ) (.inl (some (.int (gE σ 57 ((((gE σ 56 ((y_1).toNatClampNeg)) + y_2)).toNatClampNeg)))), hp (σ)) := by
  refine ev_x (i := .aload_n 0) (len := 1) (p' := 1) (s' := [.ref 1]) rfl rfl rfl ?_
  refine ev_gc (p' := 4) (v := 52) rfl rfl rfl ly_1 rfl rfl ?_
  refine ev_x (i := .iload_n 1) (len := 1) (p' := 5) (s' := [.int y_1, .ref 52]) rfl rfl rfl ?_
  refine ev_x (i := .iload_n 2) (len := 1) (p' := 6) (s' := [.int y_2, .int y_1, .ref 52]) rfl rfl rfl ?_
  refine ev_cv (d := d + 2) (As := [.int y_1, .int y_2]) (a := 52) (p' := 9) rfl rfl rfl ly_52 rfl rfl rfl rfl rfl rfl rfl (lz_102 (d := d + 0) (c_1 := c_1) (c_2 := c_2) (c_3 := c_3) (c_4 := c_4) (c_5 := c_5) (c_6 := c_6)) ?_
  refine ev_st (st' := [.int ((gE σ 56 ((y_1).toNatClampNeg)) + y_2)]) rfl ?_
  refine ev_x (i := .istore_n 3) (len := 1) (p' := 10) (s' := []) (l' := [(3, .int ((gE σ 56 ((y_1).toNatClampNeg)) + y_2)), (0, .ref 1), (1, .int y_1), (2, .int y_2)]) rfl rfl rfl ?_
  refine ev_x (i := .iload_n 3) (len := 1) (p' := 11) (s' := [.int ((gE σ 56 ((y_1).toNatClampNeg)) + y_2)]) rfl rfl rfl ?_
  refine ev_b0 (t := 18) (p' := 18) rfl rfl rfl (if_pos c_7) ?_
  refine ev_x (i := .aload_n 0) (len := 1) (p' := 19) (s' := [.ref 1]) rfl rfl rfl ?_
  refine ev_gc (p' := 22) (v := 52) rfl rfl rfl ly_1 rfl rfl ?_
  refine ev_gc (p' := 25) (v := 57) rfl rfl rfl ly_52 rfl rfl ?_
  refine ev_x (i := .iload_n 3) (len := 1) (p' := 26) (s' := [.int ((gE σ 56 ((y_1).toNatClampNeg)) + y_2), .ref 57]) rfl rfl rfl ?_
  refine ev_ga (p' := 27) (v := (gE σ 57 ((((gE σ 56 ((y_1).toNatClampNeg)) + y_2)).toNatClampNeg))) rfl rfl ly_57 rfl c_8 rfl ?_
  exact ev_iret rfl rfl rfl rfl
set_option maxHeartbeats 4000000 in
set_option maxRecDepth 100000 in
/-- GameTextModel.isCommand(II)Z -/
theorem lz_105 {d : Nat} {σ : st_S} {y_1 y_2 : Int32} (c_1 : ¬ (y_1 < 0)) (c_2 : ¬ ((σ.1 66 29) ≤ y_1)) (c_3 : ¬ (y_2 < 0)) (c_4 : vp_in y_1 (gN σ 174)) (c_5 : ¬ ((gE σ 174 ((y_1).toNatClampNeg)) ≤ y_2)) : vz_ev P0 (d + 2) 227 0 (lv_args 0 [.ref 66, .int y_1, .int y_2]) [] (hp σ) (.inl (some (.int 1)), hp (st_i (σ) 66 0 0)) := by
  refine ev_x (i := .aload_n 0) (len := 1) (p' := 1) (s' := [.ref 66]) rfl rfl rfl ?_
  refine ev_x (i := .iload_n 1) (len := 1) (p' := 2) (s' := [.int y_1, .ref 66]) rfl rfl rfl ?_
  refine ev_cv (d := d + 1) (As := [.int y_1]) (a := 66) (p' := 5) rfl rfl rfl ly_66 rfl rfl rfl rfl rfl rfl rfl (lz_55 (d := d + 0) (c_1 := c_1) (c_2 := c_2)) ?_
  refine ev_st (st' := [.int 1]) rfl ?_
  refine ev_b0 (t := 26) (p' := 8) rfl rfl rfl (by decide) ?_
  refine ev_x (i := .iload_n 2) (len := 1) (p' := 9) (s' := [.int y_2]) rfl rfl rfl ?_
  refine ev_b0 (t := 26) (p' := 12) rfl rfl rfl (if_neg c_3) ?_
  refine ev_x (i := .iload_n 2) (len := 1) (p' := 13) (s' := [.int y_2]) rfl rfl rfl ?_
  refine ev_x (i := .aload_n 0) (len := 1) (p' := 14) (s' := [.ref 66, .int y_2]) rfl rfl rfl ?_
  refine ev_gc (p' := 17) (v := 174) rfl rfl rfl ly_66 rfl rfl ?_
  refine ev_x (i := .iload_n 1) (len := 1) (p' := 18) (s' := [.int y_1, .ref 174, .int y_2]) rfl rfl rfl ?_
  refine ev_ga (p' := 19) (v := (gE σ 174 ((y_1).toNatClampNeg))) rfl rfl ly_174 rfl c_4 rfl ?_
  refine ev_b2 (t := 26) (p' := 22) rfl rfl rfl (if_neg c_5) ?_
  refine ev_x (i := .iconst 1) (len := 1) (p' := 23) (s' := [.int 1]) rfl rfl rfl ?_
  refine ev_x (i := .goto 4) (len := 3) (p' := 27) (s' := [.int 1]) rfl rfl rfl ?_
  exact ev_iret rfl rfl rfl rfl
set_option maxHeartbeats 4000000 in
set_option maxRecDepth 100000 in
/-- GameTextModel$Numbers.at(I)I -/
theorem lz_106 {d : Nat} {σ : st_S} {y_1 : Int32} (c_1 : vp_in y_1 (gN σ 176)) : vz_ev P0 (d + 1) 139 0 (lv_args 0 [.ref 175, .int y_1]) [] (hp σ) (.inl (some (.int (gE σ 176 ((y_1).toNatClampNeg)))), hp (σ)) := by
  refine ev_x (i := .aload_n 0) (len := 1) (p' := 1) (s' := [.ref 175]) rfl rfl rfl ?_
  refine ev_gc (p' := 4) (v := 176) rfl rfl rfl ly_175 rfl rfl ?_
  refine ev_x (i := .iload_n 1) (len := 1) (p' := 5) (s' := [.int y_1, .ref 176]) rfl rfl rfl ?_
  refine ev_ga (p' := 6) (v := (gE σ 176 ((y_1).toNatClampNeg))) rfl rfl ly_176 rfl c_1 rfl ?_
  exact ev_iret rfl rfl rfl rfl
set_option maxHeartbeats 4000000 in
set_option maxRecDepth 100000 in
/-- GameTextModel.command(II)I -/
theorem lz_107 {d : Nat} {σ : st_S} {y_1 y_2 : Int32} (c_1 : ¬ (y_1 < 0)) (c_2 : ¬ ((σ.1 66 29) ≤ y_1)) (c_3 : ¬ (y_2 < 0)) (c_4 : vp_in y_1 (gN σ 174)) (c_5 : ¬ ((gE σ 174 ((y_1).toNatClampNeg)) ≤ y_2)) (c_6 : vp_in y_1 (gN σ 173)) (c_7 : vp_in ((gE σ 173 ((y_1).toNatClampNeg)) + y_2) (gN σ 176)) : vz_ev P0 (d + 3) 226 0 (lv_args 0 [.ref 66, .int y_1, .int y_2]) [] (hp σ) (.inl (some (.int (gE σ 176 ((((gE σ 173 ((y_1).toNatClampNeg)) + y_2)).toNatClampNeg)))), hp (st_i (σ) 66 0 0)) := by
  refine ev_x (i := .aload_n 0) (len := 1) (p' := 1) (s' := [.ref 66]) rfl rfl rfl ?_
  refine ev_x (i := .iload_n 1) (len := 1) (p' := 2) (s' := [.int y_1, .ref 66]) rfl rfl rfl ?_
  refine ev_x (i := .iload_n 2) (len := 1) (p' := 3) (s' := [.int y_2, .int y_1, .ref 66]) rfl rfl rfl ?_
  refine ev_cv (d := d + 2) (As := [.int y_1, .int y_2]) (a := 66) (p' := 6) rfl rfl rfl ly_66 rfl rfl rfl rfl rfl rfl rfl (lz_105 (d := d + 0) (c_1 := c_1) (c_2 := c_2) (c_3 := c_3) (c_4 := c_4) (c_5 := c_5)) ?_
  refine ev_st (st' := [.int 1]) rfl ?_
  refine ev_b0 (t := 27) (p' := 9) rfl rfl rfl (by decide) ?_
  refine ev_x (i := .aload_n 0) (len := 1) (p' := 10) (s' := [.ref 66]) rfl rfl rfl ?_
  refine ev_gc (p' := 13) (v := 175) rfl rfl rfl ly_66 rfl rfl ?_
  refine ev_x (i := .aload_n 0) (len := 1) (p' := 14) (s' := [.ref 66, .ref 175]) rfl rfl rfl ?_
  refine ev_gc (p' := 17) (v := 173) rfl rfl rfl ly_66 rfl rfl ?_
  refine ev_x (i := .iload_n 1) (len := 1) (p' := 18) (s' := [.int y_1, .ref 173, .ref 175]) rfl rfl rfl ?_
  refine ev_ga (p' := 19) (v := (gE σ 173 ((y_1).toNatClampNeg))) rfl rfl ly_173 rfl c_6 rfl ?_
  refine ev_x (i := .iload_n 2) (len := 1) (p' := 20) (s' := [.int y_2, .int (gE σ 173 ((y_1).toNatClampNeg)), .ref 175]) rfl rfl rfl ?_
  refine ev_x (i := .iadd) (len := 1) (p' := 21) (s' := [.int ((gE σ 173 ((y_1).toNatClampNeg)) + y_2), .ref 175]) rfl rfl rfl ?_
  refine ev_cv (d := d + 2) (As := [.int ((gE σ 173 ((y_1).toNatClampNeg)) + y_2)]) (a := 175) (p' := 24) rfl rfl rfl ly_175 rfl rfl rfl rfl rfl rfl rfl (lz_106 (d := d + 1) (c_1 := c_7)) ?_
  refine ev_st (st' := [.int (gE σ 176 ((((gE σ 173 ((y_1).toNatClampNeg)) + y_2)).toNatClampNeg))]) rfl ?_
  refine ev_x (i := .goto 4) (len := 3) (p' := 28) (s' := [.int (gE σ 176 ((((gE σ 173 ((y_1).toNatClampNeg)) + y_2)).toNatClampNeg))]) rfl rfl rfl ?_
  exact ev_iret rfl rfl rfl rfl
set_option maxHeartbeats 4000000 in
set_option maxRecDepth 100000 in
/-- GameTextLaw.law([I)Z -/
theorem lw_11o_a0 {d : Nat} {σ : st_S} {q : vz_O × vz_H} {n L : Nat} {xs : Nat → Int32} (hs : gF σ 0 = .inl (0, L, .inl xs)) (hn : n + 6 ≤ L) (hL : L ≤ 3072) (c_1 : ¬ ((xs (n + 1)) < 0)) (c_2 : ¬ ((σ.1 52 10) ≤ (xs (n + 1)))) (c_3 : ¬ ((xs (n + 2)) < 0)) (c_4 : vp_in ((xs (n + 1)) + 1) (gN σ 56)) (c_5 : vp_in (xs (n + 1)) (gN σ 56)) (c_6 : (xs (n + 2)) < ((gE σ 56 ((((xs (n + 1)) + 1)).toNatClampNeg)) - (gE σ 56 (((xs (n + 1))).toNatClampNeg)))) (c_7 : 0 ≤ ((gE σ 56 (((xs (n + 1))).toNatClampNeg)) + (xs (n + 2)))) (c_8 : vp_in ((gE σ 56 (((xs (n + 1))).toNatClampNeg)) + (xs (n + 2))) (gN σ 57)) (c_9 : ¬ ((σ.1 66 29) ≤ (xs (n + 1)))) (c_10 : vp_in (xs (n + 1)) (gN σ 174)) (c_11 : ¬ ((gE σ 174 (((xs (n + 1))).toNatClampNeg)) ≤ (xs (n + 2)))) (c_12 : vp_in (xs (n + 1)) (gN σ 173)) (c_13 : vp_in ((gE σ 173 (((xs (n + 1))).toNatClampNeg)) + (xs (n + 2))) (gN σ 176)) (c_14 : (gE σ 57 ((((gE σ 56 (((xs (n + 1))).toNatClampNeg)) + (xs (n + 2)))).toNatClampNeg)) = (gE σ 176 ((((gE σ 173 (((xs (n + 1))).toNatClampNeg)) + (xs (n + 2)))).toNatClampNeg))) (k : vz_ev P0 (d + 4) 0 615 [(4, .int (nI n)), (3, .ref 187), (2, .ref 66), (1, .ref 1), (0, .ref 0)] [] (hp (st_i (σ) 66 0 0)) q) : vz_ev P0 (d + 4) 0 480 [(4, .int (nI n)), (3, .ref 187), (2, .ref 66), (1, .ref 1), (0, .ref 0)] [] (hp σ) q := by
  refine ev_x (i := .aload_n 1) (len := 1) (p' := 481) (s' := [.ref 1]) rfl rfl rfl ?_
  refine ev_x (i := .aload_n 0) (len := 1) (p' := 482) (s' := [.ref 0, .ref 1]) rfl rfl rfl ?_
  refine ev_x (i := .iload 4) (len := 2) (p' := 484) (s' := [.int (nI n), .ref 0, .ref 1]) rfl rfl rfl ?_
  refine ev_x (i := .iconst 1) (len := 1) (p' := 485) (s' := [.int 1, .int (nI n), .ref 0, .ref 1]) rfl rfl rfl ?_
  refine ev_x (i := .iadd) (len := 1) (p' := 486) (s' := [.int ((nI n) + 1), .ref 0, .ref 1]) rfl rfl rfl ?_
  refine ev_st (st' := [.int (nI (n + 1)), .ref 0, .ref 1]) (congrArg (fun z => Value.int z :: [.ref 0, .ref 1]) (nI_add n 1)) ?_
  refine ev_sg (p' := 487) rfl rfl hs (vp_in_nI (by omega) (by omega)) rfl ?_
  refine ev_st (st' := [.int (xs (n + 1)), .ref 1]) (congrArg (fun z => Value.int (xs z) :: [.ref 1]) (nI_clamp (n := n + 1) (by omega))) ?_
  refine ev_x (i := .aload_n 0) (len := 1) (p' := 488) (s' := [.ref 0, .int (xs (n + 1)), .ref 1]) rfl rfl rfl ?_
  refine ev_x (i := .iload 4) (len := 2) (p' := 490) (s' := [.int (nI n), .ref 0, .int (xs (n + 1)), .ref 1]) rfl rfl rfl ?_
  refine ev_x (i := .iconst 2) (len := 1) (p' := 491) (s' := [.int 2, .int (nI n), .ref 0, .int (xs (n + 1)), .ref 1]) rfl rfl rfl ?_
  refine ev_x (i := .iadd) (len := 1) (p' := 492) (s' := [.int ((nI n) + 2), .ref 0, .int (xs (n + 1)), .ref 1]) rfl rfl rfl ?_
  refine ev_st (st' := [.int (nI (n + 2)), .ref 0, .int (xs (n + 1)), .ref 1]) (congrArg (fun z => Value.int z :: [.ref 0, .int (xs (n + 1)), .ref 1]) (nI_add n 2)) ?_
  refine ev_sg (p' := 493) rfl rfl hs (vp_in_nI (by omega) (by omega)) rfl ?_
  refine ev_st (st' := [.int (xs (n + 2)), .int (xs (n + 1)), .ref 1]) (congrArg (fun z => Value.int (xs z) :: [.int (xs (n + 1)), .ref 1]) (nI_clamp (n := n + 2) (by omega))) ?_
  refine ev_cv (d := d + 3) (As := [.int (xs (n + 1)), .int (xs (n + 2))]) (a := 1) (p' := 496) rfl rfl rfl ly_1 rfl rfl rfl rfl rfl rfl rfl (lz_103 (d := d + 0) (c_1 := c_1) (c_2 := c_2) (c_3 := c_3) (c_4 := c_4) (c_5 := c_5) (c_6 := c_6) (c_7 := c_7) (c_8 := c_8)) ?_
  refine ev_st (st' := [.int (gE σ 57 ((((gE σ 56 (((xs (n + 1))).toNatClampNeg)) + (xs (n + 2)))).toNatClampNeg))]) rfl ?_
  refine ev_x (i := .aload_n 2) (len := 1) (p' := 497) (s' := [.ref 66, .int (gE σ 57 ((((gE σ 56 (((xs (n + 1))).toNatClampNeg)) + (xs (n + 2)))).toNatClampNeg))]) rfl rfl rfl ?_
  refine ev_x (i := .aload_n 0) (len := 1) (p' := 498) (s' := [.ref 0, .ref 66, .int (gE σ 57 ((((gE σ 56 (((xs (n + 1))).toNatClampNeg)) + (xs (n + 2)))).toNatClampNeg))]) rfl rfl rfl ?_
  refine ev_x (i := .iload 4) (len := 2) (p' := 500) (s' := [.int (nI n), .ref 0, .ref 66, .int (gE σ 57 ((((gE σ 56 (((xs (n + 1))).toNatClampNeg)) + (xs (n + 2)))).toNatClampNeg))]) rfl rfl rfl ?_
  refine ev_x (i := .iconst 1) (len := 1) (p' := 501) (s' := [.int 1, .int (nI n), .ref 0, .ref 66, .int (gE σ 57 ((((gE σ 56 (((xs (n + 1))).toNatClampNeg)) + (xs (n + 2)))).toNatClampNeg))]) rfl rfl rfl ?_
  refine ev_x (i := .iadd) (len := 1) (p' := 502) (s' := [.int ((nI n) + 1), .ref 0, .ref 66, .int (gE σ 57 ((((gE σ 56 (((xs (n + 1))).toNatClampNeg)) + (xs (n + 2)))).toNatClampNeg))]) rfl rfl rfl ?_
  refine ev_st (st' := [.int (nI (n + 1)), .ref 0, .ref 66, .int (gE σ 57 ((((gE σ 56 (((xs (n + 1))).toNatClampNeg)) + (xs (n + 2)))).toNatClampNeg))]) (congrArg (fun z => Value.int z :: [.ref 0, .ref 66, .int (gE σ 57 ((((gE σ 56 (((xs (n + 1))).toNatClampNeg)) + (xs (n + 2)))).toNatClampNeg))]) (nI_add n 1)) ?_
  refine ev_sg (p' := 503) rfl rfl hs (vp_in_nI (by omega) (by omega)) rfl ?_
  refine ev_st (st' := [.int (xs (n + 1)), .ref 66, .int (gE σ 57 ((((gE σ 56 (((xs (n + 1))).toNatClampNeg)) + (xs (n + 2)))).toNatClampNeg))]) (congrArg (fun z => Value.int (xs z) :: [.ref 66, .int (gE σ 57 ((((gE σ 56 (((xs (n + 1))).toNatClampNeg)) + (xs (n + 2)))).toNatClampNeg))]) (nI_clamp (n := n + 1) (by omega))) ?_
  refine ev_x (i := .aload_n 0) (len := 1) (p' := 504) (s' := [.ref 0, .int (xs (n + 1)), .ref 66, .int (gE σ 57 ((((gE σ 56 (((xs (n + 1))).toNatClampNeg)) + (xs (n + 2)))).toNatClampNeg))]) rfl rfl rfl ?_
  refine ev_x (i := .iload 4) (len := 2) (p' := 506) (s' := [.int (nI n), .ref 0, .int (xs (n + 1)), .ref 66, .int (gE σ 57 ((((gE σ 56 (((xs (n + 1))).toNatClampNeg)) + (xs (n + 2)))).toNatClampNeg))]) rfl rfl rfl ?_
  refine ev_x (i := .iconst 2) (len := 1) (p' := 507) (s' := [.int 2, .int (nI n), .ref 0, .int (xs (n + 1)), .ref 66, .int (gE σ 57 ((((gE σ 56 (((xs (n + 1))).toNatClampNeg)) + (xs (n + 2)))).toNatClampNeg))]) rfl rfl rfl ?_
  refine ev_x (i := .iadd) (len := 1) (p' := 508) (s' := [.int ((nI n) + 2), .ref 0, .int (xs (n + 1)), .ref 66, .int (gE σ 57 ((((gE σ 56 (((xs (n + 1))).toNatClampNeg)) + (xs (n + 2)))).toNatClampNeg))]) rfl rfl rfl ?_
  refine ev_st (st' := [.int (nI (n + 2)), .ref 0, .int (xs (n + 1)), .ref 66, .int (gE σ 57 ((((gE σ 56 (((xs (n + 1))).toNatClampNeg)) + (xs (n + 2)))).toNatClampNeg))]) (congrArg (fun z => Value.int z :: [.ref 0, .int (xs (n + 1)), .ref 66, .int (gE σ 57 ((((gE σ 56 (((xs (n + 1))).toNatClampNeg)) + (xs (n + 2)))).toNatClampNeg))]) (nI_add n 2)) ?_
  refine ev_sg (p' := 509) rfl rfl hs (vp_in_nI (by omega) (by omega)) rfl ?_
  refine ev_st (st' := [.int (xs (n + 2)), .int (xs (n + 1)), .ref 66, .int (gE σ 57 ((((gE σ 56 (((xs (n + 1))).toNatClampNeg)) + (xs (n + 2)))).toNatClampNeg))]) (congrArg (fun z => Value.int (xs z) :: [.int (xs (n + 1)), .ref 66, .int (gE σ 57 ((((gE σ 56 (((xs (n + 1))).toNatClampNeg)) + (xs (n + 2)))).toNatClampNeg))]) (nI_clamp (n := n + 2) (by omega))) ?_
  refine ev_cv (d := d + 3) (As := [.int (xs (n + 1)), .int (xs (n + 2))]) (a := 66) (p' := 512) rfl rfl rfl ly_66 rfl rfl rfl rfl rfl rfl rfl (lz_107 (d := d + 0) (c_1 := c_1) (c_2 := c_9) (c_3 := c_3) (c_4 := c_10) (c_5 := c_11) (c_6 := c_12) (c_7 := c_13)) ?_
  refine ev_st (st' := [.int (gE σ 176 ((((gE σ 173 (((xs (n + 1))).toNatClampNeg)) + (xs (n + 2)))).toNatClampNeg)), .int (gE σ 57 ((((gE σ 56 (((xs (n + 1))).toNatClampNeg)) + (xs (n + 2)))).toNatClampNeg))]) rfl ?_
  refine ev_b2 (t := 615) (p' := 615) rfl rfl rfl (if_pos c_14) ?_
  exact k
set_option maxHeartbeats 4000000 in
set_option maxRecDepth 100000 in
/-- GameText.branches(II)I -/
theorem lz_111 {d : Nat} {σ : st_S} {y_1 y_2 : Int32} (c_1 : y_1 < 0) : vz_ev P0 (d + 3) 101 0 (lv_args 0 [.ref 1, .int y_1, .int y_2]) [] (hp σ) (.inl (some (.int (-1))), hp (σ)) := by
  refine ev_x (i := .aload_n 0) (len := 1) (p' := 1) (s' := [.ref 1]) rfl rfl rfl ?_
  refine ev_gc (p' := 4) (v := 52) rfl rfl rfl ly_1 rfl rfl ?_
  refine ev_x (i := .iload_n 1) (len := 1) (p' := 5) (s' := [.int y_1, .ref 52]) rfl rfl rfl ?_
  refine ev_x (i := .iload_n 2) (len := 1) (p' := 6) (s' := [.int y_2, .int y_1, .ref 52]) rfl rfl rfl ?_
  refine ev_cv (d := d + 2) (As := [.int y_1, .int y_2]) (a := 52) (p' := 9) rfl rfl rfl ly_52 rfl rfl rfl rfl rfl rfl rfl (lz_74 (d := d + 0) (c_1 := c_1)) ?_
  refine ev_st (st' := [.int (-1)]) rfl ?_
  refine ev_x (i := .istore_n 3) (len := 1) (p' := 10) (s' := []) (l' := [(3, .int (-1)), (0, .ref 1), (1, .int y_1), (2, .int y_2)]) rfl rfl rfl ?_
  refine ev_x (i := .iload_n 3) (len := 1) (p' := 11) (s' := [.int (-1)]) rfl rfl rfl ?_
  refine ev_b0 (t := 18) (p' := 14) rfl rfl rfl (by decide) ?_
  refine ev_x (i := .iconst (-1)) (len := 1) (p' := 15) (s' := [.int (-1)]) rfl rfl rfl ?_
  refine ev_x (i := .goto 24) (len := 3) (p' := 39) (s' := [.int (-1)]) rfl rfl rfl ?_
  exact ev_iret rfl rfl rfl rfl
set_option maxHeartbeats 4000000 in
set_option maxRecDepth 100000 in
/-- GameTextModel.branches(II)I -/
theorem lz_114 {d : Nat} {σ : st_S} {y_1 y_2 : Int32} (c_1 : y_1 < 0) : vz_ev P0 (d + 3) 228 0 (lv_args 0 [.ref 66, .int y_1, .int y_2]) [] (hp σ) (.inl (some (.int (-1))), hp (st_i (σ) 66 0 0)) := by
  refine ev_x (i := .aload_n 0) (len := 1) (p' := 1) (s' := [.ref 66]) rfl rfl rfl ?_
  refine ev_x (i := .iload_n 1) (len := 1) (p' := 2) (s' := [.int y_1, .ref 66]) rfl rfl rfl ?_
  refine ev_x (i := .iload_n 2) (len := 1) (p' := 3) (s' := [.int y_2, .int y_1, .ref 66]) rfl rfl rfl ?_
  refine ev_cv (d := d + 2) (As := [.int y_1, .int y_2]) (a := 66) (p' := 6) rfl rfl rfl ly_66 rfl rfl rfl rfl rfl rfl rfl (lz_77 (d := d + 0) (c_1 := c_1)) ?_
  refine ev_st (st' := [.int 0]) rfl ?_
  refine ev_b0 (t := 27) (p' := 27) rfl rfl rfl (by decide) ?_
  refine ev_x (i := .iconst (-1)) (len := 1) (p' := 28) (s' := [.int (-1)]) rfl rfl rfl ?_
  exact ev_iret rfl rfl rfl rfl
set_option maxHeartbeats 4000000 in
set_option maxRecDepth 100000 in
/-- GameTextLaw.law([I)Z -/
theorem lw_12n_a0 {d : Nat} {σ : st_S} {q : vz_O × vz_H} {n L : Nat} {xs : Nat → Int32} (hs : gF σ 0 = .inl (0, L, .inl xs)) (hn : n + 6 ≤ L) (hL : L ≤ 3072) (c_1 : (xs (n + 1)) < 0) (k : vz_ev P0 (d + 4) 0 615 [(4, .int (nI n)), (3, .ref 187), (2, .ref 66), (1, .ref 1), (0, .ref 0)] [] (hp (st_i (σ) 66 0 0)) q) : vz_ev P0 (d + 4) 0 517 [(4, .int (nI n)), (3, .ref 187), (2, .ref 66), (1, .ref 1), (0, .ref 0)] [] (hp σ) q := by
  refine ev_x (i := .aload_n 1) (len := 1) (p' := 518) (s' := [.ref 1]) rfl rfl rfl ?_
  refine ev_x (i := .aload_n 0) (len := 1) (p' := 519) (s' := [.ref 0, .ref 1]) rfl rfl rfl ?_
  refine ev_x (i := .iload 4) (len := 2) (p' := 521) (s' := [.int (nI n), .ref 0, .ref 1]) rfl rfl rfl ?_
  refine ev_x (i := .iconst 1) (len := 1) (p' := 522) (s' := [.int 1, .int (nI n), .ref 0, .ref 1]) rfl rfl rfl ?_
  refine ev_x (i := .iadd) (len := 1) (p' := 523) (s' := [.int ((nI n) + 1), .ref 0, .ref 1]) rfl rfl rfl ?_
  refine ev_st (st' := [.int (nI (n + 1)), .ref 0, .ref 1]) (congrArg (fun z => Value.int z :: [.ref 0, .ref 1]) (nI_add n 1)) ?_
  refine ev_sg (p' := 524) rfl rfl hs (vp_in_nI (by omega) (by omega)) rfl ?_
  refine ev_st (st' := [.int (xs (n + 1)), .ref 1]) (congrArg (fun z => Value.int (xs z) :: [.ref 1]) (nI_clamp (n := n + 1) (by omega))) ?_
  refine ev_x (i := .aload_n 0) (len := 1) (p' := 525) (s' := [.ref 0, .int (xs (n + 1)), .ref 1]) rfl rfl rfl ?_
  refine ev_x (i := .iload 4) (len := 2) (p' := 527) (s' := [.int (nI n), .ref 0, .int (xs (n + 1)), .ref 1]) rfl rfl rfl ?_
  refine ev_x (i := .iconst 2) (len := 1) (p' := 528) (s' := [.int 2, .int (nI n), .ref 0, .int (xs (n + 1)), .ref 1]) rfl rfl rfl ?_
  refine ev_x (i := .iadd) (len := 1) (p' := 529) (s' := [.int ((nI n) + 2), .ref 0, .int (xs (n + 1)), .ref 1]) rfl rfl rfl ?_
  refine ev_st (st' := [.int (nI (n + 2)), .ref 0, .int (xs (n + 1)), .ref 1]) (congrArg (fun z => Value.int z :: [.ref 0, .int (xs (n + 1)), .ref 1]) (nI_add n 2)) ?_
  refine ev_sg (p' := 530) rfl rfl hs (vp_in_nI (by omega) (by omega)) rfl ?_
  refine ev_st (st' := [.int (xs (n + 2)), .int (xs (n + 1)), .ref 1]) (congrArg (fun z => Value.int (xs z) :: [.int (xs (n + 1)), .ref 1]) (nI_clamp (n := n + 2) (by omega))) ?_
  refine ev_cv (d := d + 3) (As := [.int (xs (n + 1)), .int (xs (n + 2))]) (a := 1) (p' := 533) rfl rfl rfl ly_1 rfl rfl rfl rfl rfl rfl rfl (lz_111 (d := d + 0) (c_1 := c_1)) ?_
  refine ev_st (st' := [.int (-1)]) rfl ?_
  refine ev_x (i := .aload_n 2) (len := 1) (p' := 534) (s' := [.ref 66, .int (-1)]) rfl rfl rfl ?_
  refine ev_x (i := .aload_n 0) (len := 1) (p' := 535) (s' := [.ref 0, .ref 66, .int (-1)]) rfl rfl rfl ?_
  refine ev_x (i := .iload 4) (len := 2) (p' := 537) (s' := [.int (nI n), .ref 0, .ref 66, .int (-1)]) rfl rfl rfl ?_
  refine ev_x (i := .iconst 1) (len := 1) (p' := 538) (s' := [.int 1, .int (nI n), .ref 0, .ref 66, .int (-1)]) rfl rfl rfl ?_
  refine ev_x (i := .iadd) (len := 1) (p' := 539) (s' := [.int ((nI n) + 1), .ref 0, .ref 66, .int (-1)]) rfl rfl rfl ?_
  refine ev_st (st' := [.int (nI (n + 1)), .ref 0, .ref 66, .int (-1)]) (congrArg (fun z => Value.int z :: [.ref 0, .ref 66, .int (-1)]) (nI_add n 1)) ?_
  refine ev_sg (p' := 540) rfl rfl hs (vp_in_nI (by omega) (by omega)) rfl ?_
  refine ev_st (st' := [.int (xs (n + 1)), .ref 66, .int (-1)]) (congrArg (fun z => Value.int (xs z) :: [.ref 66, .int (-1)]) (nI_clamp (n := n + 1) (by omega))) ?_
  refine ev_x (i := .aload_n 0) (len := 1) (p' := 541) (s' := [.ref 0, .int (xs (n + 1)), .ref 66, .int (-1)]) rfl rfl rfl ?_
  refine ev_x (i := .iload 4) (len := 2) (p' := 543) (s' := [.int (nI n), .ref 0, .int (xs (n + 1)), .ref 66, .int (-1)]) rfl rfl rfl ?_
  refine ev_x (i := .iconst 2) (len := 1) (p' := 544) (s' := [.int 2, .int (nI n), .ref 0, .int (xs (n + 1)), .ref 66, .int (-1)]) rfl rfl rfl ?_
  refine ev_x (i := .iadd) (len := 1) (p' := 545) (s' := [.int ((nI n) + 2), .ref 0, .int (xs (n + 1)), .ref 66, .int (-1)]) rfl rfl rfl ?_
  refine ev_st (st' := [.int (nI (n + 2)), .ref 0, .int (xs (n + 1)), .ref 66, .int (-1)]) (congrArg (fun z => Value.int z :: [.ref 0, .int (xs (n + 1)), .ref 66, .int (-1)]) (nI_add n 2)) ?_
  refine ev_sg (p' := 546) rfl rfl hs (vp_in_nI (by omega) (by omega)) rfl ?_
  refine ev_st (st' := [.int (xs (n + 2)), .int (xs (n + 1)), .ref 66, .int (-1)]) (congrArg (fun z => Value.int (xs z) :: [.int (xs (n + 1)), .ref 66, .int (-1)]) (nI_clamp (n := n + 2) (by omega))) ?_
  refine ev_cv (d := d + 3) (As := [.int (xs (n + 1)), .int (xs (n + 2))]) (a := 66) (p' := 549) rfl rfl rfl ly_66 rfl rfl rfl rfl rfl rfl rfl (lz_114 (d := d + 0) (c_1 := c_1)) ?_
  refine ev_st (st' := [.int (-1), .int (-1)]) rfl ?_
  refine ev_b2 (t := 615) (p' := 615) rfl rfl rfl (by decide) ?_
  exact k
set_option maxHeartbeats 4000000 in
set_option maxRecDepth 100000 in
/-- GameText.branches(II)I -/
theorem lz_118 {d : Nat} {σ : st_S} {y_1 y_2 : Int32} (c_1 : ¬ (y_1 < 0)) (c_2 : (σ.1 52 10) ≤ y_1) : vz_ev P0 (d + 3) 101 0 (lv_args 0 [.ref 1, .int y_1, .int y_2]) [] (hp σ) (.inl (some (.int (-1))), hp (σ)) := by
  refine ev_x (i := .aload_n 0) (len := 1) (p' := 1) (s' := [.ref 1]) rfl rfl rfl ?_
  refine ev_gc (p' := 4) (v := 52) rfl rfl rfl ly_1 rfl rfl ?_
  refine ev_x (i := .iload_n 1) (len := 1) (p' := 5) (s' := [.int y_1, .ref 52]) rfl rfl rfl ?_
  refine ev_x (i := .iload_n 2) (len := 1) (p' := 6) (s' := [.int y_2, .int y_1, .ref 52]) rfl rfl rfl ?_
  refine ev_cv (d := d + 2) (As := [.int y_1, .int y_2]) (a := 52) (p' := 9) rfl rfl rfl ly_52 rfl rfl rfl rfl rfl rfl rfl (lz_81 (d := d + 0) (c_1 := c_1) (c_2 := c_2)) ?_
  refine ev_st (st' := [.int (-1)]) rfl ?_
  refine ev_x (i := .istore_n 3) (len := 1) (p' := 10) (s' := []) (l' := [(3, .int (-1)), (0, .ref 1), (1, .int y_1), (2, .int y_2)]) rfl rfl rfl ?_
  refine ev_x (i := .iload_n 3) (len := 1) (p' := 11) (s' := [.int (-1)]) rfl rfl rfl ?_
  refine ev_b0 (t := 18) (p' := 14) rfl rfl rfl (by decide) ?_
  refine ev_x (i := .iconst (-1)) (len := 1) (p' := 15) (s' := [.int (-1)]) rfl rfl rfl ?_
  refine ev_x (i := .goto 24) (len := 3) (p' := 39) (s' := [.int (-1)]) rfl rfl rfl ?_
  exact ev_iret rfl rfl rfl rfl
set_option maxHeartbeats 4000000 in
set_option maxRecDepth 100000 in
/-- GameTextModel.branches(II)I -/
theorem lz_121 {d : Nat} {σ : st_S} {y_1 y_2 : Int32} (c_1 : ¬ (y_1 < 0)) (c_2 : (σ.1 66 29) ≤ y_1) : vz_ev P0 (d + 3) 228 0 (lv_args 0 [.ref 66, .int y_1, .int y_2]) [] (hp σ) (.inl (some (.int (-1))), hp (st_i (σ) 66 0 0)) := by
  refine ev_x (i := .aload_n 0) (len := 1) (p' := 1) (s' := [.ref 66]) rfl rfl rfl ?_
  refine ev_x (i := .iload_n 1) (len := 1) (p' := 2) (s' := [.int y_1, .ref 66]) rfl rfl rfl ?_
  refine ev_x (i := .iload_n 2) (len := 1) (p' := 3) (s' := [.int y_2, .int y_1, .ref 66]) rfl rfl rfl ?_
  refine ev_cv (d := d + 2) (As := [.int y_1, .int y_2]) (a := 66) (p' := 6) rfl rfl rfl ly_66 rfl rfl rfl rfl rfl rfl rfl (lz_84 (d := d + 0) (c_1 := c_1) (c_2 := c_2)) ?_
  refine ev_st (st' := [.int 0]) rfl ?_
  refine ev_b0 (t := 27) (p' := 27) rfl rfl rfl (by decide) ?_
  refine ev_x (i := .iconst (-1)) (len := 1) (p' := 28) (s' := [.int (-1)]) rfl rfl rfl ?_
  exact ev_iret rfl rfl rfl rfl
set_option maxHeartbeats 4000000 in
set_option maxRecDepth 100000 in
/-- GameTextLaw.law([I)Z -/
theorem lw_12g_a0 {d : Nat} {σ : st_S} {q : vz_O × vz_H} {n L : Nat} {xs : Nat → Int32} (hs : gF σ 0 = .inl (0, L, .inl xs)) (hn : n + 6 ≤ L) (hL : L ≤ 3072) (c_1 : ¬ ((xs (n + 1)) < 0)) (c_2 : (σ.1 52 10) ≤ (xs (n + 1))) (c_3 : (σ.1 66 29) ≤ (xs (n + 1))) (k : vz_ev P0 (d + 4) 0 615 [(4, .int (nI n)), (3, .ref 187), (2, .ref 66), (1, .ref 1), (0, .ref 0)] [] (hp (st_i (σ) 66 0 0)) q) : vz_ev P0 (d + 4) 0 517 [(4, .int (nI n)), (3, .ref 187), (2, .ref 66), (1, .ref 1), (0, .ref 0)] [] (hp σ) q := by
  refine ev_x (i := .aload_n 1) (len := 1) (p' := 518) (s' := [.ref 1]) rfl rfl rfl ?_
  refine ev_x (i := .aload_n 0) (len := 1) (p' := 519) (s' := [.ref 0, .ref 1]) rfl rfl rfl ?_
  refine ev_x (i := .iload 4) (len := 2) (p' := 521) (s' := [.int (nI n), .ref 0, .ref 1]) rfl rfl rfl ?_
  refine ev_x (i := .iconst 1) (len := 1) (p' := 522) (s' := [.int 1, .int (nI n), .ref 0, .ref 1]) rfl rfl rfl ?_
  refine ev_x (i := .iadd) (len := 1) (p' := 523) (s' := [.int ((nI n) + 1), .ref 0, .ref 1]) rfl rfl rfl ?_
  refine ev_st (st' := [.int (nI (n + 1)), .ref 0, .ref 1]) (congrArg (fun z => Value.int z :: [.ref 0, .ref 1]) (nI_add n 1)) ?_
  refine ev_sg (p' := 524) rfl rfl hs (vp_in_nI (by omega) (by omega)) rfl ?_
  refine ev_st (st' := [.int (xs (n + 1)), .ref 1]) (congrArg (fun z => Value.int (xs z) :: [.ref 1]) (nI_clamp (n := n + 1) (by omega))) ?_
  refine ev_x (i := .aload_n 0) (len := 1) (p' := 525) (s' := [.ref 0, .int (xs (n + 1)), .ref 1]) rfl rfl rfl ?_
  refine ev_x (i := .iload 4) (len := 2) (p' := 527) (s' := [.int (nI n), .ref 0, .int (xs (n + 1)), .ref 1]) rfl rfl rfl ?_
  refine ev_x (i := .iconst 2) (len := 1) (p' := 528) (s' := [.int 2, .int (nI n), .ref 0, .int (xs (n + 1)), .ref 1]) rfl rfl rfl ?_
  refine ev_x (i := .iadd) (len := 1) (p' := 529) (s' := [.int ((nI n) + 2), .ref 0, .int (xs (n + 1)), .ref 1]) rfl rfl rfl ?_
  refine ev_st (st' := [.int (nI (n + 2)), .ref 0, .int (xs (n + 1)), .ref 1]) (congrArg (fun z => Value.int z :: [.ref 0, .int (xs (n + 1)), .ref 1]) (nI_add n 2)) ?_
  refine ev_sg (p' := 530) rfl rfl hs (vp_in_nI (by omega) (by omega)) rfl ?_
  refine ev_st (st' := [.int (xs (n + 2)), .int (xs (n + 1)), .ref 1]) (congrArg (fun z => Value.int (xs z) :: [.int (xs (n + 1)), .ref 1]) (nI_clamp (n := n + 2) (by omega))) ?_
  refine ev_cv (d := d + 3) (As := [.int (xs (n + 1)), .int (xs (n + 2))]) (a := 1) (p' := 533) rfl rfl rfl ly_1 rfl rfl rfl rfl rfl rfl rfl (lz_118 (d := d + 0) (c_1 := c_1) (c_2 := c_2)) ?_
  refine ev_st (st' := [.int (-1)]) rfl ?_
  refine ev_x (i := .aload_n 2) (len := 1) (p' := 534) (s' := [.ref 66, .int (-1)]) rfl rfl rfl ?_
  refine ev_x (i := .aload_n 0) (len := 1) (p' := 535) (s' := [.ref 0, .ref 66, .int (-1)]) rfl rfl rfl ?_
  refine ev_x (i := .iload 4) (len := 2) (p' := 537) (s' := [.int (nI n), .ref 0, .ref 66, .int (-1)]) rfl rfl rfl ?_
  refine ev_x (i := .iconst 1) (len := 1) (p' := 538) (s' := [.int 1, .int (nI n), .ref 0, .ref 66, .int (-1)]) rfl rfl rfl ?_
  refine ev_x (i := .iadd) (len := 1) (p' := 539) (s' := [.int ((nI n) + 1), .ref 0, .ref 66, .int (-1)]) rfl rfl rfl ?_
  refine ev_st (st' := [.int (nI (n + 1)), .ref 0, .ref 66, .int (-1)]) (congrArg (fun z => Value.int z :: [.ref 0, .ref 66, .int (-1)]) (nI_add n 1)) ?_
  refine ev_sg (p' := 540) rfl rfl hs (vp_in_nI (by omega) (by omega)) rfl ?_
  refine ev_st (st' := [.int (xs (n + 1)), .ref 66, .int (-1)]) (congrArg (fun z => Value.int (xs z) :: [.ref 66, .int (-1)]) (nI_clamp (n := n + 1) (by omega))) ?_
  refine ev_x (i := .aload_n 0) (len := 1) (p' := 541) (s' := [.ref 0, .int (xs (n + 1)), .ref 66, .int (-1)]) rfl rfl rfl ?_
  refine ev_x (i := .iload 4) (len := 2) (p' := 543) (s' := [.int (nI n), .ref 0, .int (xs (n + 1)), .ref 66, .int (-1)]) rfl rfl rfl ?_
  refine ev_x (i := .iconst 2) (len := 1) (p' := 544) (s' := [.int 2, .int (nI n), .ref 0, .int (xs (n + 1)), .ref 66, .int (-1)]) rfl rfl rfl ?_
  refine ev_x (i := .iadd) (len := 1) (p' := 545) (s' := [.int ((nI n) + 2), .ref 0, .int (xs (n + 1)), .ref 66, .int (-1)]) rfl rfl rfl ?_
  refine ev_st (st' := [.int (nI (n + 2)), .ref 0, .int (xs (n + 1)), .ref 66, .int (-1)]) (congrArg (fun z => Value.int z :: [.ref 0, .int (xs (n + 1)), .ref 66, .int (-1)]) (nI_add n 2)) ?_
  refine ev_sg (p' := 546) rfl rfl hs (vp_in_nI (by omega) (by omega)) rfl ?_
  refine ev_st (st' := [.int (xs (n + 2)), .int (xs (n + 1)), .ref 66, .int (-1)]) (congrArg (fun z => Value.int (xs z) :: [.int (xs (n + 1)), .ref 66, .int (-1)]) (nI_clamp (n := n + 2) (by omega))) ?_
  refine ev_cv (d := d + 3) (As := [.int (xs (n + 1)), .int (xs (n + 2))]) (a := 66) (p' := 549) rfl rfl rfl ly_66 rfl rfl rfl rfl rfl rfl rfl (lz_121 (d := d + 0) (c_1 := c_1) (c_2 := c_3)) ?_
  refine ev_st (st' := [.int (-1), .int (-1)]) rfl ?_
  refine ev_b2 (t := 615) (p' := 615) rfl rfl rfl (by decide) ?_
  exact k
set_option maxHeartbeats 4000000 in
set_option maxRecDepth 100000 in
/-- GameText.branches(II)I -/
theorem lz_125 {d : Nat} {σ : st_S} {y_1 y_2 : Int32} (c_1 : ¬ (y_1 < 0)) (c_2 : ¬ ((σ.1 52 10) ≤ y_1)) (c_3 : y_2 < 0) : vz_ev P0 (d + 3) 101 0 (lv_args 0 [.ref 1, .int y_1, .int y_2]) [] (hp σ) (.inl (some (.int (-1))), hp (σ)) := by
  refine ev_x (i := .aload_n 0) (len := 1) (p' := 1) (s' := [.ref 1]) rfl rfl rfl ?_
  refine ev_gc (p' := 4) (v := 52) rfl rfl rfl ly_1 rfl rfl ?_
  refine ev_x (i := .iload_n 1) (len := 1) (p' := 5) (s' := [.int y_1, .ref 52]) rfl rfl rfl ?_
  refine ev_x (i := .iload_n 2) (len := 1) (p' := 6) (s' := [.int y_2, .int y_1, .ref 52]) rfl rfl rfl ?_
  refine ev_cv (d := d + 2) (As := [.int y_1, .int y_2]) (a := 52) (p' := 9) rfl rfl rfl ly_52 rfl rfl rfl rfl rfl rfl rfl (lz_88 (d := d + 0) (c_1 := c_1) (c_2 := c_2) (c_3 := c_3)) ?_
  refine ev_st (st' := [.int (-1)]) rfl ?_
  refine ev_x (i := .istore_n 3) (len := 1) (p' := 10) (s' := []) (l' := [(3, .int (-1)), (0, .ref 1), (1, .int y_1), (2, .int y_2)]) rfl rfl rfl ?_
  refine ev_x (i := .iload_n 3) (len := 1) (p' := 11) (s' := [.int (-1)]) rfl rfl rfl ?_
  refine ev_b0 (t := 18) (p' := 14) rfl rfl rfl (by decide) ?_
  refine ev_x (i := .iconst (-1)) (len := 1) (p' := 15) (s' := [.int (-1)]) rfl rfl rfl ?_
  refine ev_x (i := .goto 24) (len := 3) (p' := 39) (s' := [.int (-1)]) rfl rfl rfl ?_
  exact ev_iret rfl rfl rfl rfl
set_option maxHeartbeats 4000000 in
set_option maxRecDepth 100000 in
/-- GameTextModel.branches(II)I -/
theorem lz_128 {d : Nat} {σ : st_S} {y_1 y_2 : Int32} (c_1 : ¬ (y_1 < 0)) (c_2 : ¬ ((σ.1 66 29) ≤ y_1)) (c_3 : y_2 < 0) : vz_ev P0 (d + 3) 228 0 (lv_args 0 [.ref 66, .int y_1, .int y_2]) [] (hp σ) (.inl (some (.int (-1))), hp (st_i (σ) 66 0 0)) := by
  refine ev_x (i := .aload_n 0) (len := 1) (p' := 1) (s' := [.ref 66]) rfl rfl rfl ?_
  refine ev_x (i := .iload_n 1) (len := 1) (p' := 2) (s' := [.int y_1, .ref 66]) rfl rfl rfl ?_
  refine ev_x (i := .iload_n 2) (len := 1) (p' := 3) (s' := [.int y_2, .int y_1, .ref 66]) rfl rfl rfl ?_
  refine ev_cv (d := d + 2) (As := [.int y_1, .int y_2]) (a := 66) (p' := 6) rfl rfl rfl ly_66 rfl rfl rfl rfl rfl rfl rfl (lz_91 (d := d + 0) (c_1 := c_1) (c_2 := c_2) (c_3 := c_3)) ?_
  refine ev_st (st' := [.int 0]) rfl ?_
  refine ev_b0 (t := 27) (p' := 27) rfl rfl rfl (by decide) ?_
  refine ev_x (i := .iconst (-1)) (len := 1) (p' := 28) (s' := [.int (-1)]) rfl rfl rfl ?_
  exact ev_iret rfl rfl rfl rfl
set_option maxHeartbeats 4000000 in
set_option maxRecDepth 100000 in
/-- GameTextLaw.law([I)Z -/
theorem lw_12m_a0 {d : Nat} {σ : st_S} {q : vz_O × vz_H} {n L : Nat} {xs : Nat → Int32} (hs : gF σ 0 = .inl (0, L, .inl xs)) (hn : n + 6 ≤ L) (hL : L ≤ 3072) (c_1 : ¬ ((xs (n + 1)) < 0)) (c_2 : ¬ ((σ.1 52 10) ≤ (xs (n + 1)))) (c_3 : (xs (n + 2)) < 0) (c_4 : ¬ ((σ.1 66 29) ≤ (xs (n + 1)))) (k : vz_ev P0 (d + 4) 0 615 [(4, .int (nI n)), (3, .ref 187), (2, .ref 66), (1, .ref 1), (0, .ref 0)] [] (hp (st_i (σ) 66 0 0)) q) : vz_ev P0 (d + 4) 0 517 [(4, .int (nI n)), (3, .ref 187), (2, .ref 66), (1, .ref 1), (0, .ref 0)] [] (hp σ) q := by
  refine ev_x (i := .aload_n 1) (len := 1) (p' := 518) (s' := [.ref 1]) rfl rfl rfl ?_
  refine ev_x (i := .aload_n 0) (len := 1) (p' := 519) (s' := [.ref 0, .ref 1]) rfl rfl rfl ?_
  refine ev_x (i := .iload 4) (len := 2) (p' := 521) (s' := [.int (nI n), .ref 0, .ref 1]) rfl rfl rfl ?_
  refine ev_x (i := .iconst 1) (len := 1) (p' := 522) (s' := [.int 1, .int (nI n), .ref 0, .ref 1]) rfl rfl rfl ?_
  refine ev_x (i := .iadd) (len := 1) (p' := 523) (s' := [.int ((nI n) + 1), .ref 0, .ref 1]) rfl rfl rfl ?_
  refine ev_st (st' := [.int (nI (n + 1)), .ref 0, .ref 1]) (congrArg (fun z => Value.int z :: [.ref 0, .ref 1]) (nI_add n 1)) ?_
  refine ev_sg (p' := 524) rfl rfl hs (vp_in_nI (by omega) (by omega)) rfl ?_
  refine ev_st (st' := [.int (xs (n + 1)), .ref 1]) (congrArg (fun z => Value.int (xs z) :: [.ref 1]) (nI_clamp (n := n + 1) (by omega))) ?_
  refine ev_x (i := .aload_n 0) (len := 1) (p' := 525) (s' := [.ref 0, .int (xs (n + 1)), .ref 1]) rfl rfl rfl ?_
  refine ev_x (i := .iload 4) (len := 2) (p' := 527) (s' := [.int (nI n), .ref 0, .int (xs (n + 1)), .ref 1]) rfl rfl rfl ?_
  refine ev_x (i := .iconst 2) (len := 1) (p' := 528) (s' := [.int 2, .int (nI n), .ref 0, .int (xs (n + 1)), .ref 1]) rfl rfl rfl ?_
  refine ev_x (i := .iadd) (len := 1) (p' := 529) (s' := [.int ((nI n) + 2), .ref 0, .int (xs (n + 1)), .ref 1]) rfl rfl rfl ?_
  refine ev_st (st' := [.int (nI (n + 2)), .ref 0, .int (xs (n + 1)), .ref 1]) (congrArg (fun z => Value.int z :: [.ref 0, .int (xs (n + 1)), .ref 1]) (nI_add n 2)) ?_
  refine ev_sg (p' := 530) rfl rfl hs (vp_in_nI (by omega) (by omega)) rfl ?_
  refine ev_st (st' := [.int (xs (n + 2)), .int (xs (n + 1)), .ref 1]) (congrArg (fun z => Value.int (xs z) :: [.int (xs (n + 1)), .ref 1]) (nI_clamp (n := n + 2) (by omega))) ?_
  refine ev_cv (d := d + 3) (As := [.int (xs (n + 1)), .int (xs (n + 2))]) (a := 1) (p' := 533) rfl rfl rfl ly_1 rfl rfl rfl rfl rfl rfl rfl (lz_125 (d := d + 0) (c_1 := c_1) (c_2 := c_2) (c_3 := c_3)) ?_
  refine ev_st (st' := [.int (-1)]) rfl ?_
  refine ev_x (i := .aload_n 2) (len := 1) (p' := 534) (s' := [.ref 66, .int (-1)]) rfl rfl rfl ?_
  refine ev_x (i := .aload_n 0) (len := 1) (p' := 535) (s' := [.ref 0, .ref 66, .int (-1)]) rfl rfl rfl ?_
  refine ev_x (i := .iload 4) (len := 2) (p' := 537) (s' := [.int (nI n), .ref 0, .ref 66, .int (-1)]) rfl rfl rfl ?_
  refine ev_x (i := .iconst 1) (len := 1) (p' := 538) (s' := [.int 1, .int (nI n), .ref 0, .ref 66, .int (-1)]) rfl rfl rfl ?_
  refine ev_x (i := .iadd) (len := 1) (p' := 539) (s' := [.int ((nI n) + 1), .ref 0, .ref 66, .int (-1)]) rfl rfl rfl ?_
  refine ev_st (st' := [.int (nI (n + 1)), .ref 0, .ref 66, .int (-1)]) (congrArg (fun z => Value.int z :: [.ref 0, .ref 66, .int (-1)]) (nI_add n 1)) ?_
  refine ev_sg (p' := 540) rfl rfl hs (vp_in_nI (by omega) (by omega)) rfl ?_
  refine ev_st (st' := [.int (xs (n + 1)), .ref 66, .int (-1)]) (congrArg (fun z => Value.int (xs z) :: [.ref 66, .int (-1)]) (nI_clamp (n := n + 1) (by omega))) ?_
  refine ev_x (i := .aload_n 0) (len := 1) (p' := 541) (s' := [.ref 0, .int (xs (n + 1)), .ref 66, .int (-1)]) rfl rfl rfl ?_
  refine ev_x (i := .iload 4) (len := 2) (p' := 543) (s' := [.int (nI n), .ref 0, .int (xs (n + 1)), .ref 66, .int (-1)]) rfl rfl rfl ?_
  refine ev_x (i := .iconst 2) (len := 1) (p' := 544) (s' := [.int 2, .int (nI n), .ref 0, .int (xs (n + 1)), .ref 66, .int (-1)]) rfl rfl rfl ?_
  refine ev_x (i := .iadd) (len := 1) (p' := 545) (s' := [.int ((nI n) + 2), .ref 0, .int (xs (n + 1)), .ref 66, .int (-1)]) rfl rfl rfl ?_
  refine ev_st (st' := [.int (nI (n + 2)), .ref 0, .int (xs (n + 1)), .ref 66, .int (-1)]) (congrArg (fun z => Value.int z :: [.ref 0, .int (xs (n + 1)), .ref 66, .int (-1)]) (nI_add n 2)) ?_
  refine ev_sg (p' := 546) rfl rfl hs (vp_in_nI (by omega) (by omega)) rfl ?_
  refine ev_st (st' := [.int (xs (n + 2)), .int (xs (n + 1)), .ref 66, .int (-1)]) (congrArg (fun z => Value.int (xs z) :: [.int (xs (n + 1)), .ref 66, .int (-1)]) (nI_clamp (n := n + 2) (by omega))) ?_
  refine ev_cv (d := d + 3) (As := [.int (xs (n + 1)), .int (xs (n + 2))]) (a := 66) (p' := 549) rfl rfl rfl ly_66 rfl rfl rfl rfl rfl rfl rfl (lz_128 (d := d + 0) (c_1 := c_1) (c_2 := c_4) (c_3 := c_3)) ?_
  refine ev_st (st' := [.int (-1), .int (-1)]) rfl ?_
  refine ev_b2 (t := 615) (p' := 615) rfl rfl rfl (by decide) ?_
  exact k
set_option maxHeartbeats 4000000 in
set_option maxRecDepth 100000 in
/-- GameText.branches(II)I -/
theorem lz_132 {d : Nat} {σ : st_S} {y_1 y_2 : Int32} (c_1 : ¬ (y_1 < 0)) (c_2 : ¬ ((σ.1 52 10) ≤ y_1)) (c_3 : ¬ (y_2 < 0)) (c_4 : vp_in (y_1 + 1) (gN σ 56)) (c_5 : vp_in y_1 (gN σ 56)) (c_6 : ¬ (y_2 < ((gE σ 56 (((y_1 + 1)).toNatClampNeg)) - (gE σ 56 ((y_1).toNatClampNeg))))) : vz_ev P0 (d + 3) 101 0 (lv_args 0 [.ref 1, .int y_1, .int y_2]) [] (hp σ) (.inl (some (.int (-1))), hp (σ)) := by
  refine ev_x (i := .aload_n 0) (len := 1) (p' := 1) (s' := [.ref 1]) rfl rfl rfl ?_
  refine ev_gc (p' := 4) (v := 52) rfl rfl rfl ly_1 rfl rfl ?_
  refine ev_x (i := .iload_n 1) (len := 1) (p' := 5) (s' := [.int y_1, .ref 52]) rfl rfl rfl ?_
  refine ev_x (i := .iload_n 2) (len := 1) (p' := 6) (s' := [.int y_2, .int y_1, .ref 52]) rfl rfl rfl ?_
  refine ev_cv (d := d + 2) (As := [.int y_1, .int y_2]) (a := 52) (p' := 9) rfl rfl rfl ly_52 rfl rfl rfl rfl rfl rfl rfl (lz_95 (d := d + 0) (c_1 := c_1) (c_2 := c_2) (c_3 := c_3) (c_4 := c_4) (c_5 := c_5) (c_6 := c_6)) ?_
  refine ev_st (st' := [.int (-1)]) rfl ?_
  refine ev_x (i := .istore_n 3) (len := 1) (p' := 10) (s' := []) (l' := [(3, .int (-1)), (0, .ref 1), (1, .int y_1), (2, .int y_2)]) rfl rfl rfl ?_
  refine ev_x (i := .iload_n 3) (len := 1) (p' := 11) (s' := [.int (-1)]) rfl rfl rfl ?_
  refine ev_b0 (t := 18) (p' := 14) rfl rfl rfl (by decide) ?_
  refine ev_x (i := .iconst (-1)) (len := 1) (p' := 15) (s' := [.int (-1)]) rfl rfl rfl ?_
  refine ev_x (i := .goto 24) (len := 3) (p' := 39) (s' := [.int (-1)]) rfl rfl rfl ?_
  exact ev_iret rfl rfl rfl rfl
set_option maxHeartbeats 4000000 in
set_option maxRecDepth 100000 in
/-- GameTextModel.branches(II)I -/
theorem lz_135 {d : Nat} {σ : st_S} {y_1 y_2 : Int32} (c_1 : ¬ (y_1 < 0)) (c_2 : ¬ ((σ.1 66 29) ≤ y_1)) (c_3 : ¬ (y_2 < 0)) (c_4 : vp_in y_1 (gN σ 174)) (c_5 : (gE σ 174 ((y_1).toNatClampNeg)) ≤ y_2) : vz_ev P0 (d + 3) 228 0 (lv_args 0 [.ref 66, .int y_1, .int y_2]) [] (hp σ) (.inl (some (.int (-1))), hp (st_i (σ) 66 0 0)) := by
  refine ev_x (i := .aload_n 0) (len := 1) (p' := 1) (s' := [.ref 66]) rfl rfl rfl ?_
  refine ev_x (i := .iload_n 1) (len := 1) (p' := 2) (s' := [.int y_1, .ref 66]) rfl rfl rfl ?_
  refine ev_x (i := .iload_n 2) (len := 1) (p' := 3) (s' := [.int y_2, .int y_1, .ref 66]) rfl rfl rfl ?_
  refine ev_cv (d := d + 2) (As := [.int y_1, .int y_2]) (a := 66) (p' := 6) rfl rfl rfl ly_66 rfl rfl rfl rfl rfl rfl rfl (lz_98 (d := d + 0) (c_1 := c_1) (c_2 := c_2) (c_3 := c_3) (c_4 := c_4) (c_5 := c_5)) ?_
  refine ev_st (st' := [.int 0]) rfl ?_
  refine ev_b0 (t := 27) (p' := 27) rfl rfl rfl (by decide) ?_
  refine ev_x (i := .iconst (-1)) (len := 1) (p' := 28) (s' := [.int (-1)]) rfl rfl rfl ?_
  exact ev_iret rfl rfl rfl rfl
set_option maxHeartbeats 4000000 in
set_option maxRecDepth 100000 in
/-- GameTextLaw.law([I)Z -/
theorem lw_12h_a0 {d : Nat} {σ : st_S} {q : vz_O × vz_H} {n L : Nat} {xs : Nat → Int32} (hs : gF σ 0 = .inl (0, L, .inl xs)) (hn : n + 6 ≤ L) (hL : L ≤ 3072) (c_1 : ¬ ((xs (n + 1)) < 0)) (c_2 : ¬ ((σ.1 52 10) ≤ (xs (n + 1)))) (c_3 : ¬ ((xs (n + 2)) < 0)) (c_4 : vp_in ((xs (n + 1)) + 1) (gN σ 56)) (c_5 : vp_in (xs (n + 1)) (gN σ 56)) (c_6 : ¬ ((xs (n + 2)) < ((gE σ 56 ((((xs (n + 1)) + 1)).toNatClampNeg)) - (gE σ 56 (((xs (n + 1))).toNatClampNeg))))) (c_7 : ¬ ((σ.1 66 29) ≤ (xs (n + 1)))) (c_8 : vp_in (xs (n + 1)) (gN σ 174)) (c_9 : (gE σ 174 (((xs (n + 1))).toNatClampNeg)) ≤ (xs (n + 2))) (k : vz_ev P0 (d + 4) 0 615 [(4, .int (nI n)), (3, .ref 187), (2, .ref 66), (1, .ref 1), (0, .ref 0)] [] (hp (st_i (σ) 66 0 0)) q) : vz_ev P0 (d + 4) 0 517 [(4, .int (nI n)), (3, .ref 187), (2, .ref 66), (1, .ref 1), (0, .ref 0)] [] (hp σ) q := by
  refine ev_x (i := .aload_n 1) (len := 1) (p' := 518) (s' := [.ref 1]) rfl rfl rfl ?_
  refine ev_x (i := .aload_n 0) (len := 1) (p' := 519) (s' := [.ref 0, .ref 1]) rfl rfl rfl ?_
  refine ev_x (i := .iload 4) (len := 2) (p' := 521) (s' := [.int (nI n), .ref 0, .ref 1]) rfl rfl rfl ?_
  refine ev_x (i := .iconst 1) (len := 1) (p' := 522) (s' := [.int 1, .int (nI n), .ref 0, .ref 1]) rfl rfl rfl ?_
  refine ev_x (i := .iadd) (len := 1) (p' := 523) (s' := [.int ((nI n) + 1), .ref 0, .ref 1]) rfl rfl rfl ?_
  refine ev_st (st' := [.int (nI (n + 1)), .ref 0, .ref 1]) (congrArg (fun z => Value.int z :: [.ref 0, .ref 1]) (nI_add n 1)) ?_
  refine ev_sg (p' := 524) rfl rfl hs (vp_in_nI (by omega) (by omega)) rfl ?_
  refine ev_st (st' := [.int (xs (n + 1)), .ref 1]) (congrArg (fun z => Value.int (xs z) :: [.ref 1]) (nI_clamp (n := n + 1) (by omega))) ?_
  refine ev_x (i := .aload_n 0) (len := 1) (p' := 525) (s' := [.ref 0, .int (xs (n + 1)), .ref 1]) rfl rfl rfl ?_
  refine ev_x (i := .iload 4) (len := 2) (p' := 527) (s' := [.int (nI n), .ref 0, .int (xs (n + 1)), .ref 1]) rfl rfl rfl ?_
  refine ev_x (i := .iconst 2) (len := 1) (p' := 528) (s' := [.int 2, .int (nI n), .ref 0, .int (xs (n + 1)), .ref 1]) rfl rfl rfl ?_
  refine ev_x (i := .iadd) (len := 1) (p' := 529) (s' := [.int ((nI n) + 2), .ref 0, .int (xs (n + 1)), .ref 1]) rfl rfl rfl ?_
  refine ev_st (st' := [.int (nI (n + 2)), .ref 0, .int (xs (n + 1)), .ref 1]) (congrArg (fun z => Value.int z :: [.ref 0, .int (xs (n + 1)), .ref 1]) (nI_add n 2)) ?_
  refine ev_sg (p' := 530) rfl rfl hs (vp_in_nI (by omega) (by omega)) rfl ?_
  refine ev_st (st' := [.int (xs (n + 2)), .int (xs (n + 1)), .ref 1]) (congrArg (fun z => Value.int (xs z) :: [.int (xs (n + 1)), .ref 1]) (nI_clamp (n := n + 2) (by omega))) ?_
  refine ev_cv (d := d + 3) (As := [.int (xs (n + 1)), .int (xs (n + 2))]) (a := 1) (p' := 533) rfl rfl rfl ly_1 rfl rfl rfl rfl rfl rfl rfl (lz_132 (d := d + 0) (c_1 := c_1) (c_2 := c_2) (c_3 := c_3) (c_4 := c_4) (c_5 := c_5) (c_6 := c_6)) ?_
  refine ev_st (st' := [.int (-1)]) rfl ?_
  refine ev_x (i := .aload_n 2) (len := 1) (p' := 534) (s' := [.ref 66, .int (-1)]) rfl rfl rfl ?_
  refine ev_x (i := .aload_n 0) (len := 1) (p' := 535) (s' := [.ref 0, .ref 66, .int (-1)]) rfl rfl rfl ?_
  refine ev_x (i := .iload 4) (len := 2) (p' := 537) (s' := [.int (nI n), .ref 0, .ref 66, .int (-1)]) rfl rfl rfl ?_
  refine ev_x (i := .iconst 1) (len := 1) (p' := 538) (s' := [.int 1, .int (nI n), .ref 0, .ref 66, .int (-1)]) rfl rfl rfl ?_
  refine ev_x (i := .iadd) (len := 1) (p' := 539) (s' := [.int ((nI n) + 1), .ref 0, .ref 66, .int (-1)]) rfl rfl rfl ?_
  refine ev_st (st' := [.int (nI (n + 1)), .ref 0, .ref 66, .int (-1)]) (congrArg (fun z => Value.int z :: [.ref 0, .ref 66, .int (-1)]) (nI_add n 1)) ?_
  refine ev_sg (p' := 540) rfl rfl hs (vp_in_nI (by omega) (by omega)) rfl ?_
  refine ev_st (st' := [.int (xs (n + 1)), .ref 66, .int (-1)]) (congrArg (fun z => Value.int (xs z) :: [.ref 66, .int (-1)]) (nI_clamp (n := n + 1) (by omega))) ?_
  refine ev_x (i := .aload_n 0) (len := 1) (p' := 541) (s' := [.ref 0, .int (xs (n + 1)), .ref 66, .int (-1)]) rfl rfl rfl ?_
  refine ev_x (i := .iload 4) (len := 2) (p' := 543) (s' := [.int (nI n), .ref 0, .int (xs (n + 1)), .ref 66, .int (-1)]) rfl rfl rfl ?_
  refine ev_x (i := .iconst 2) (len := 1) (p' := 544) (s' := [.int 2, .int (nI n), .ref 0, .int (xs (n + 1)), .ref 66, .int (-1)]) rfl rfl rfl ?_
  refine ev_x (i := .iadd) (len := 1) (p' := 545) (s' := [.int ((nI n) + 2), .ref 0, .int (xs (n + 1)), .ref 66, .int (-1)]) rfl rfl rfl ?_
  refine ev_st (st' := [.int (nI (n + 2)), .ref 0, .int (xs (n + 1)), .ref 66, .int (-1)]) (congrArg (fun z => Value.int z :: [.ref 0, .int (xs (n + 1)), .ref 66, .int (-1)]) (nI_add n 2)) ?_
  refine ev_sg (p' := 546) rfl rfl hs (vp_in_nI (by omega) (by omega)) rfl ?_
  refine ev_st (st' := [.int (xs (n + 2)), .int (xs (n + 1)), .ref 66, .int (-1)]) (congrArg (fun z => Value.int (xs z) :: [.int (xs (n + 1)), .ref 66, .int (-1)]) (nI_clamp (n := n + 2) (by omega))) ?_
  refine ev_cv (d := d + 3) (As := [.int (xs (n + 1)), .int (xs (n + 2))]) (a := 66) (p' := 549) rfl rfl rfl ly_66 rfl rfl rfl rfl rfl rfl rfl (lz_135 (d := d + 0) (c_1 := c_1) (c_2 := c_7) (c_3 := c_3) (c_4 := c_8) (c_5 := c_9)) ?_
  refine ev_st (st' := [.int (-1), .int (-1)]) rfl ?_
  refine ev_b2 (t := 615) (p' := 615) rfl rfl rfl (by decide) ?_
  exact k
set_option maxHeartbeats 4000000 in
set_option maxRecDepth 100000 in
/-- GameText.branches(II)I -/
theorem lz_139 {d : Nat} {σ : st_S} {y_1 y_2 : Int32} (c_1 : ¬ (y_1 < 0)) (c_2 : ¬ ((σ.1 52 10) ≤ y_1)) (c_3 : ¬ (y_2 < 0)) (c_4 : vp_in (y_1 + 1) (gN σ 56)) (c_5 : vp_in y_1 (gN σ 56)) (c_6 : y_2 < ((gE σ 56 (((y_1 + 1)).toNatClampNeg)) - (gE σ 56 ((y_1).toNatClampNeg)))) (c_7 : 0 ≤ ((gE σ 56 ((y_1).toNatClampNeg)) + y_2)) (c_8 : vp_in (((gE σ 56 ((y_1).toNatClampNeg)) + y_2) + 1) (gN σ 58)) (c_9 : vp_in ((gE σ 56 ((y_1).toNatClampNeg)) + y_2) (gN σ 58)) : vz_ev P0 (d + 3) 101 0 (lv_args 0 [.ref 1, .int y_1, .int y_2]) [] (hp σ) (.inl (some (.int ((gE σ 58 (((((gE σ 56 ((y_1).toNatClampNeg)) + y_2) + 1)).toNatClampNeg)) - (gE σ 58 ((((gE σ 56 ((y_1).toNatClampNeg)) + y_2)).toNatClampNeg))))), hp (σ)) := by
  refine ev_x (i := .aload_n 0) (len := 1) (p' := 1) (s' := [.ref 1]) rfl rfl rfl ?_
  refine ev_gc (p' := 4) (v := 52) rfl rfl rfl ly_1 rfl rfl ?_
  refine ev_x (i := .iload_n 1) (len := 1) (p' := 5) (s' := [.int y_1, .ref 52]) rfl rfl rfl ?_
  refine ev_x (i := .iload_n 2) (len := 1) (p' := 6) (s' := [.int y_2, .int y_1, .ref 52]) rfl rfl rfl ?_
  refine ev_cv (d := d + 2) (As := [.int y_1, .int y_2]) (a := 52) (p' := 9) rfl rfl rfl ly_52 rfl rfl rfl rfl rfl rfl rfl (lz_102 (d := d + 0) (c_1 := c_1) (c_2 := c_2) (c_3 := c_3) (c_4 := c_4) (c_5 := c_5) (c_6 := c_6)) ?_
  refine ev_st (st' := [.int ((gE σ 56 ((y_1).toNatClampNeg)) + y_2)]) rfl ?_
  refine ev_x (i := .istore_n 3) (len := 1) (p' := 10) (s' := []) (l' := [(3, .int ((gE σ 56 ((y_1).toNatClampNeg)) + y_2)), (0, .ref 1), (1, .int y_1), (2, .int y_2)]) rfl rfl rfl ?_
  refine ev_x (i := .iload_n 3) (len := 1) (p' := 11) (s' := [.int ((gE σ 56 ((y_1).toNatClampNeg)) + y_2)]) rfl rfl rfl ?_
  refine ev_b0 (t := 18) (p' := 18) rfl rfl rfl (if_pos c_7) ?_
  refine ev_x (i := .aload_n 0) (len := 1) (p' := 19) (s' := [.ref 1]) rfl rfl rfl ?_
  refine ev_gc (p' := 22) (v := 52) rfl rfl rfl ly_1 rfl rfl ?_
  refine ev_gc (p' := 25) (v := 58) rfl rfl rfl ly_52 rfl rfl ?_
  refine ev_x (i := .iload_n 3) (len := 1) (p' := 26) (s' := [.int ((gE σ 56 ((y_1).toNatClampNeg)) + y_2), .ref 58]) rfl rfl rfl ?_
  refine ev_x (i := .iconst 1) (len := 1) (p' := 27) (s' := [.int 1, .int ((gE σ 56 ((y_1).toNatClampNeg)) + y_2), .ref 58]) rfl rfl rfl ?_
  refine ev_x (i := .iadd) (len := 1) (p' := 28) (s' := [.int (((gE σ 56 ((y_1).toNatClampNeg)) + y_2) + 1), .ref 58]) rfl rfl rfl ?_
  refine ev_ga (p' := 29) (v := (gE σ 58 (((((gE σ 56 ((y_1).toNatClampNeg)) + y_2) + 1)).toNatClampNeg))) rfl rfl ly_58 rfl c_8 rfl ?_
  refine ev_x (i := .aload_n 0) (len := 1) (p' := 30) (s' := [.ref 1, .int (gE σ 58 (((((gE σ 56 ((y_1).toNatClampNeg)) + y_2) + 1)).toNatClampNeg))]) rfl rfl rfl ?_
  refine ev_gc (p' := 33) (v := 52) rfl rfl rfl ly_1 rfl rfl ?_
  refine ev_gc (p' := 36) (v := 58) rfl rfl rfl ly_52 rfl rfl ?_
  refine ev_x (i := .iload_n 3) (len := 1) (p' := 37) (s' := [.int ((gE σ 56 ((y_1).toNatClampNeg)) + y_2), .ref 58, .int (gE σ 58 (((((gE σ 56 ((y_1).toNatClampNeg)) + y_2) + 1)).toNatClampNeg))]) rfl rfl rfl ?_
  refine ev_ga (p' := 38) (v := (gE σ 58 ((((gE σ 56 ((y_1).toNatClampNeg)) + y_2)).toNatClampNeg))) rfl rfl ly_58 rfl c_9 rfl ?_
  refine ev_x (i := .isub) (len := 1) (p' := 39) (s' := [.int ((gE σ 58 (((((gE σ 56 ((y_1).toNatClampNeg)) + y_2) + 1)).toNatClampNeg)) - (gE σ 58 ((((gE σ 56 ((y_1).toNatClampNeg)) + y_2)).toNatClampNeg)))]) rfl rfl rfl ?_
  exact ev_iret rfl rfl rfl rfl
set_option maxHeartbeats 4000000 in
set_option maxRecDepth 100000 in
/-- GameTextModel$Numbers.at(I)I -/
theorem lz_142 {d : Nat} {σ : st_S} {y_1 : Int32} (c_1 : vp_in y_1 (gN σ 180)) : vz_ev P0 (d + 1) 139 0 (lv_args 0 [.ref 179, .int y_1]) [] (hp σ) (.inl (some (.int (gE σ 180 ((y_1).toNatClampNeg)))), hp (σ)) := by
  refine ev_x (i := .aload_n 0) (len := 1) (p' := 1) (s' := [.ref 179]) rfl rfl rfl ?_
  refine ev_gc (p' := 4) (v := 180) rfl rfl rfl ly_179 rfl rfl ?_
  refine ev_x (i := .iload_n 1) (len := 1) (p' := 5) (s' := [.int y_1, .ref 180]) rfl rfl rfl ?_
  refine ev_ga (p' := 6) (v := (gE σ 180 ((y_1).toNatClampNeg))) rfl rfl ly_180 rfl c_1 rfl ?_
  exact ev_iret rfl rfl rfl rfl
set_option maxHeartbeats 4000000 in
set_option maxRecDepth 100000 in
/-- GameTextModel.branches(II)I -/
theorem lz_143 {d : Nat} {σ : st_S} {y_1 y_2 : Int32} (c_1 : ¬ (y_1 < 0)) (c_2 : ¬ ((σ.1 66 29) ≤ y_1)) (c_3 : ¬ (y_2 < 0)) (c_4 : vp_in y_1 (gN σ 174)) (c_5 : ¬ ((gE σ 174 ((y_1).toNatClampNeg)) ≤ y_2)) (c_6 : vp_in y_1 (gN σ 173)) (c_7 : vp_in ((gE σ 173 ((y_1).toNatClampNeg)) + y_2) (gN σ 180)) : vz_ev P0 (d + 3) 228 0 (lv_args 0 [.ref 66, .int y_1, .int y_2]) [] (hp σ) (.inl (some (.int (gE σ 180 ((((gE σ 173 ((y_1).toNatClampNeg)) + y_2)).toNatClampNeg)))), hp (st_i (σ) 66 0 0)) := by
  refine ev_x (i := .aload_n 0) (len := 1) (p' := 1) (s' := [.ref 66]) rfl rfl rfl ?_
  refine ev_x (i := .iload_n 1) (len := 1) (p' := 2) (s' := [.int y_1, .ref 66]) rfl rfl rfl ?_
  refine ev_x (i := .iload_n 2) (len := 1) (p' := 3) (s' := [.int y_2, .int y_1, .ref 66]) rfl rfl rfl ?_
  refine ev_cv (d := d + 2) (As := [.int y_1, .int y_2]) (a := 66) (p' := 6) rfl rfl rfl ly_66 rfl rfl rfl rfl rfl rfl rfl (lz_105 (d := d + 0) (c_1 := c_1) (c_2 := c_2) (c_3 := c_3) (c_4 := c_4) (c_5 := c_5)) ?_
  refine ev_st (st' := [.int 1]) rfl ?_
  refine ev_b0 (t := 27) (p' := 9) rfl rfl rfl (by decide) ?_
  refine ev_x (i := .aload_n 0) (len := 1) (p' := 10) (s' := [.ref 66]) rfl rfl rfl ?_
  refine ev_gc (p' := 13) (v := 179) rfl rfl rfl ly_66 rfl rfl ?_
  refine ev_x (i := .aload_n 0) (len := 1) (p' := 14) (s' := [.ref 66, .ref 179]) rfl rfl rfl ?_
  refine ev_gc (p' := 17) (v := 173) rfl rfl rfl ly_66 rfl rfl ?_
  refine ev_x (i := .iload_n 1) (len := 1) (p' := 18) (s' := [.int y_1, .ref 173, .ref 179]) rfl rfl rfl ?_
  refine ev_ga (p' := 19) (v := (gE σ 173 ((y_1).toNatClampNeg))) rfl rfl ly_173 rfl c_6 rfl ?_
  refine ev_x (i := .iload_n 2) (len := 1) (p' := 20) (s' := [.int y_2, .int (gE σ 173 ((y_1).toNatClampNeg)), .ref 179]) rfl rfl rfl ?_
  refine ev_x (i := .iadd) (len := 1) (p' := 21) (s' := [.int ((gE σ 173 ((y_1).toNatClampNeg)) + y_2), .ref 179]) rfl rfl rfl ?_
  refine ev_cv (d := d + 2) (As := [.int ((gE σ 173 ((y_1).toNatClampNeg)) + y_2)]) (a := 179) (p' := 24) rfl rfl rfl ly_179 rfl rfl rfl rfl rfl rfl rfl (lz_142 (d := d + 1) (c_1 := c_7)) ?_
  refine ev_st (st' := [.int (gE σ 180 ((((gE σ 173 ((y_1).toNatClampNeg)) + y_2)).toNatClampNeg))]) rfl ?_
  refine ev_x (i := .goto 4) (len := 3) (p' := 28) (s' := [.int (gE σ 180 ((((gE σ 173 ((y_1).toNatClampNeg)) + y_2)).toNatClampNeg))]) rfl rfl rfl ?_
  exact ev_iret rfl rfl rfl rfl
set_option maxHeartbeats 4000000 in
set_option maxRecDepth 100000 in
/-- GameTextLaw.law([I)Z -/
theorem lw_12o_a0 {d : Nat} {σ : st_S} {q : vz_O × vz_H} {n L : Nat} {xs : Nat → Int32} (hs : gF σ 0 = .inl (0, L, .inl xs)) (hn : n + 6 ≤ L) (hL : L ≤ 3072) (c_1 : ¬ ((xs (n + 1)) < 0)) (c_2 : ¬ ((σ.1 52 10) ≤ (xs (n + 1)))) (c_3 : ¬ ((xs (n + 2)) < 0)) (c_4 : vp_in ((xs (n + 1)) + 1) (gN σ 56)) (c_5 : vp_in (xs (n + 1)) (gN σ 56)) (c_6 : (xs (n + 2)) < ((gE σ 56 ((((xs (n + 1)) + 1)).toNatClampNeg)) - (gE σ 56 (((xs (n + 1))).toNatClampNeg)))) (c_7 : 0 ≤ ((gE σ 56 (((xs (n + 1))).toNatClampNeg)) + (xs (n + 2)))) (c_8 : vp_in (((gE σ 56 (((xs (n + 1))).toNatClampNeg)) + (xs (n + 2))) + 1) (gN σ 58)) (c_9 : vp_in ((gE σ 56 (((xs (n + 1))).toNatClampNeg)) + (xs (n + 2))) (gN σ 58)) (c_10 : ¬ ((σ.1 66 29) ≤ (xs (n + 1)))) (c_11 : vp_in (xs (n + 1)) (gN σ 174)) (c_12 : ¬ ((gE σ 174 (((xs (n + 1))).toNatClampNeg)) ≤ (xs (n + 2)))) (c_13 : vp_in (xs (n + 1)) (gN σ 173)) (c_14 : vp_in ((gE σ 173 (((xs (n + 1))).toNatClampNeg)) + (xs (n + 2))) (gN σ 180)) (c_15 : ((gE σ 58 (((((gE σ 56 (((xs (n + 1))).toNatClampNeg)) + (xs (n + 2))) + 1)).toNatClampNeg)) - (gE σ 58 ((((gE σ 56 (((xs (n + 1))).toNatClampNeg)) + (xs (n + 2)))).toNatClampNeg))) = (gE σ 180 ((((gE σ 173 (((xs (n + 1))).toNatClampNeg)) + (xs (n + 2)))).toNatClampNeg))) (k : vz_ev P0 (d + 4) 0 615 [(4, .int (nI n)), (3, .ref 187), (2, .ref 66), (1, .ref 1), (0, .ref 0)] [] (hp (st_i (σ) 66 0 0)) q) : vz_ev P0 (d + 4) 0 517 [(4, .int (nI n)), (3, .ref 187), (2, .ref 66), (1, .ref 1), (0, .ref 0)] [] (hp σ) q := by
  refine ev_x (i := .aload_n 1) (len := 1) (p' := 518) (s' := [.ref 1]) rfl rfl rfl ?_
  refine ev_x (i := .aload_n 0) (len := 1) (p' := 519) (s' := [.ref 0, .ref 1]) rfl rfl rfl ?_
  refine ev_x (i := .iload 4) (len := 2) (p' := 521) (s' := [.int (nI n), .ref 0, .ref 1]) rfl rfl rfl ?_
  refine ev_x (i := .iconst 1) (len := 1) (p' := 522) (s' := [.int 1, .int (nI n), .ref 0, .ref 1]) rfl rfl rfl ?_
  refine ev_x (i := .iadd) (len := 1) (p' := 523) (s' := [.int ((nI n) + 1), .ref 0, .ref 1]) rfl rfl rfl ?_
  refine ev_st (st' := [.int (nI (n + 1)), .ref 0, .ref 1]) (congrArg (fun z => Value.int z :: [.ref 0, .ref 1]) (nI_add n 1)) ?_
  refine ev_sg (p' := 524) rfl rfl hs (vp_in_nI (by omega) (by omega)) rfl ?_
  refine ev_st (st' := [.int (xs (n + 1)), .ref 1]) (congrArg (fun z => Value.int (xs z) :: [.ref 1]) (nI_clamp (n := n + 1) (by omega))) ?_
  refine ev_x (i := .aload_n 0) (len := 1) (p' := 525) (s' := [.ref 0, .int (xs (n + 1)), .ref 1]) rfl rfl rfl ?_
  refine ev_x (i := .iload 4) (len := 2) (p' := 527) (s' := [.int (nI n), .ref 0, .int (xs (n + 1)), .ref 1]) rfl rfl rfl ?_
  refine ev_x (i := .iconst 2) (len := 1) (p' := 528) (s' := [.int 2, .int (nI n), .ref 0, .int (xs (n + 1)), .ref 1]) rfl rfl rfl ?_
  refine ev_x (i := .iadd) (len := 1) (p' := 529) (s' := [.int ((nI n) + 2), .ref 0, .int (xs (n + 1)), .ref 1]) rfl rfl rfl ?_
  refine ev_st (st' := [.int (nI (n + 2)), .ref 0, .int (xs (n + 1)), .ref 1]) (congrArg (fun z => Value.int z :: [.ref 0, .int (xs (n + 1)), .ref 1]) (nI_add n 2)) ?_
  refine ev_sg (p' := 530) rfl rfl hs (vp_in_nI (by omega) (by omega)) rfl ?_
  refine ev_st (st' := [.int (xs (n + 2)), .int (xs (n + 1)), .ref 1]) (congrArg (fun z => Value.int (xs z) :: [.int (xs (n + 1)), .ref 1]) (nI_clamp (n := n + 2) (by omega))) ?_
  refine ev_cv (d := d + 3) (As := [.int (xs (n + 1)), .int (xs (n + 2))]) (a := 1) (p' := 533) rfl rfl rfl ly_1 rfl rfl rfl rfl rfl rfl rfl (lz_139 (d := d + 0) (c_1 := c_1) (c_2 := c_2) (c_3 := c_3) (c_4 := c_4) (c_5 := c_5) (c_6 := c_6) (c_7 := c_7) (c_8 := c_8) (c_9 := c_9)) ?_
  refine ev_st (st' := [.int ((gE σ 58 (((((gE σ 56 (((xs (n + 1))).toNatClampNeg)) + (xs (n + 2))) + 1)).toNatClampNeg)) - (gE σ 58 ((((gE σ 56 (((xs (n + 1))).toNatClampNeg)) + (xs (n + 2)))).toNatClampNeg)))]) rfl ?_
  refine ev_x (i := .aload_n 2) (len := 1) (p' := 534) (s' := [.ref 66, .int ((gE σ 58 (((((gE σ 56 (((xs (n + 1))).toNatClampNeg)) + (xs (n + 2))) + 1)).toNatClampNeg)) - (gE σ 58 ((((gE σ 56 (((xs (n + 1))).toNatClampNeg)) + (xs (n + 2)))).toNatClampNeg)))]) rfl rfl rfl ?_
  refine ev_x (i := .aload_n 0) (len := 1) (p' := 535) (s' := [.ref 0, .ref 66, .int ((gE σ 58 (((((gE σ 56 (((xs (n + 1))).toNatClampNeg)) + (xs (n + 2))) + 1)).toNatClampNeg)) - (gE σ 58 ((((gE σ 56 (((xs (n + 1))).toNatClampNeg)) + (xs (n + 2)))).toNatClampNeg)))]) rfl rfl rfl ?_
  refine ev_x (i := .iload 4) (len := 2) (p' := 537) (s' := [.int (nI n), .ref 0, .ref 66, .int ((gE σ 58 (((((gE σ 56 (((xs (n + 1))).toNatClampNeg)) + (xs (n + 2))) + 1)).toNatClampNeg)) - (gE σ 58 ((((gE σ 56 (((xs (n + 1))).toNatClampNeg)) + (xs (n + 2)))).toNatClampNeg)))]) rfl rfl rfl ?_
  refine ev_x (i := .iconst 1) (len := 1) (p' := 538) (s' := [.int 1, .int (nI n), .ref 0, .ref 66, .int ((gE σ 58 (((((gE σ 56 (((xs (n + 1))).toNatClampNeg)) + (xs (n + 2))) + 1)).toNatClampNeg)) - (gE σ 58 ((((gE σ 56 (((xs (n + 1))).toNatClampNeg)) + (xs (n + 2)))).toNatClampNeg)))]) rfl rfl rfl ?_
  refine ev_x (i := .iadd) (len := 1) (p' := 539) (s' := [.int ((nI n) + 1), .ref 0, .ref 66, .int ((gE σ 58 (((((gE σ 56 (((xs (n + 1))).toNatClampNeg)) + (xs (n + 2))) + 1)).toNatClampNeg)) - (gE σ 58 ((((gE σ 56 (((xs (n + 1))).toNatClampNeg)) + (xs (n + 2)))).toNatClampNeg)))]) rfl rfl rfl ?_
  refine ev_st (st' := [.int (nI (n + 1)), .ref 0, .ref 66, .int ((gE σ 58 (((((gE σ 56 (((xs (n + 1))).toNatClampNeg)) + (xs (n + 2))) + 1)).toNatClampNeg)) - (gE σ 58 ((((gE σ 56 (((xs (n + 1))).toNatClampNeg)) + (xs (n + 2)))).toNatClampNeg)))]) (congrArg (fun z => Value.int z :: [.ref 0, .ref 66, .int ((gE σ 58 (((((gE σ 56 (((xs (n + 1))).toNatClampNeg)) + (xs (n + 2))) + 1)).toNatClampNeg)) - (gE σ 58 ((((gE σ 56 (((xs (n + 1))).toNatClampNeg)) + (xs (n + 2)))).toNatClampNeg)))]) (nI_add n 1)) ?_
  refine ev_sg (p' := 540) rfl rfl hs (vp_in_nI (by omega) (by omega)) rfl ?_
  refine ev_st (st' := [.int (xs (n + 1)), .ref 66, .int ((gE σ 58 (((((gE σ 56 (((xs (n + 1))).toNatClampNeg)) + (xs (n + 2))) + 1)).toNatClampNeg)) - (gE σ 58 ((((gE σ 56 (((xs (n + 1))).toNatClampNeg)) + (xs (n + 2)))).toNatClampNeg)))]) (congrArg (fun z => Value.int (xs z) :: [.ref 66, .int ((gE σ 58 (((((gE σ 56 (((xs (n + 1))).toNatClampNeg)) + (xs (n + 2))) + 1)).toNatClampNeg)) - (gE σ 58 ((((gE σ 56 (((xs (n + 1))).toNatClampNeg)) + (xs (n + 2)))).toNatClampNeg)))]) (nI_clamp (n := n + 1) (by omega))) ?_
  refine ev_x (i := .aload_n 0) (len := 1) (p' := 541) (s' := [.ref 0, .int (xs (n + 1)), .ref 66, .int ((gE σ 58 (((((gE σ 56 (((xs (n + 1))).toNatClampNeg)) + (xs (n + 2))) + 1)).toNatClampNeg)) - (gE σ 58 ((((gE σ 56 (((xs (n + 1))).toNatClampNeg)) + (xs (n + 2)))).toNatClampNeg)))]) rfl rfl rfl ?_
  refine ev_x (i := .iload 4) (len := 2) (p' := 543) (s' := [.int (nI n), .ref 0, .int (xs (n + 1)), .ref 66, .int ((gE σ 58 (((((gE σ 56 (((xs (n + 1))).toNatClampNeg)) + (xs (n + 2))) + 1)).toNatClampNeg)) - (gE σ 58 ((((gE σ 56 (((xs (n + 1))).toNatClampNeg)) + (xs (n + 2)))).toNatClampNeg)))]) rfl rfl rfl ?_
  refine ev_x (i := .iconst 2) (len := 1) (p' := 544) (s' := [.int 2, .int (nI n), .ref 0, .int (xs (n + 1)), .ref 66, .int ((gE σ 58 (((((gE σ 56 (((xs (n + 1))).toNatClampNeg)) + (xs (n + 2))) + 1)).toNatClampNeg)) - (gE σ 58 ((((gE σ 56 (((xs (n + 1))).toNatClampNeg)) + (xs (n + 2)))).toNatClampNeg)))]) rfl rfl rfl ?_
  refine ev_x (i := .iadd) (len := 1) (p' := 545) (s' := [.int ((nI n) + 2), .ref 0, .int (xs (n + 1)), .ref 66, .int ((gE σ 58 (((((gE σ 56 (((xs (n + 1))).toNatClampNeg)) + (xs (n + 2))) + 1)).toNatClampNeg)) - (gE σ 58 ((((gE σ 56 (((xs (n + 1))).toNatClampNeg)) + (xs (n + 2)))).toNatClampNeg)))]) rfl rfl rfl ?_
  refine ev_st (st' := [.int (nI (n + 2)), .ref 0, .int (xs (n + 1)), .ref 66, .int ((gE σ 58 (((((gE σ 56 (((xs (n + 1))).toNatClampNeg)) + (xs (n + 2))) + 1)).toNatClampNeg)) - (gE σ 58 ((((gE σ 56 (((xs (n + 1))).toNatClampNeg)) + (xs (n + 2)))).toNatClampNeg)))]) (congrArg (fun z => Value.int z :: [.ref 0, .int (xs (n + 1)), .ref 66, .int ((gE σ 58 (((((gE σ 56 (((xs (n + 1))).toNatClampNeg)) + (xs (n + 2))) + 1)).toNatClampNeg)) - (gE σ 58 ((((gE σ 56 (((xs (n + 1))).toNatClampNeg)) + (xs (n + 2)))).toNatClampNeg)))]) (nI_add n 2)) ?_
  refine ev_sg (p' := 546) rfl rfl hs (vp_in_nI (by omega) (by omega)) rfl ?_
  refine ev_st (st' := [.int (xs (n + 2)), .int (xs (n + 1)), .ref 66, .int ((gE σ 58 (((((gE σ 56 (((xs (n + 1))).toNatClampNeg)) + (xs (n + 2))) + 1)).toNatClampNeg)) - (gE σ 58 ((((gE σ 56 (((xs (n + 1))).toNatClampNeg)) + (xs (n + 2)))).toNatClampNeg)))]) (congrArg (fun z => Value.int (xs z) :: [.int (xs (n + 1)), .ref 66, .int ((gE σ 58 (((((gE σ 56 (((xs (n + 1))).toNatClampNeg)) + (xs (n + 2))) + 1)).toNatClampNeg)) - (gE σ 58 ((((gE σ 56 (((xs (n + 1))).toNatClampNeg)) + (xs (n + 2)))).toNatClampNeg)))]) (nI_clamp (n := n + 2) (by omega))) ?_
  refine ev_cv (d := d + 3) (As := [.int (xs (n + 1)), .int (xs (n + 2))]) (a := 66) (p' := 549) rfl rfl rfl ly_66 rfl rfl rfl rfl rfl rfl rfl (lz_143 (d := d + 0) (c_1 := c_1) (c_2 := c_10) (c_3 := c_3) (c_4 := c_11) (c_5 := c_12) (c_6 := c_13) (c_7 := c_14)) ?_
  refine ev_st (st' := [.int (gE σ 180 ((((gE σ 173 (((xs (n + 1))).toNatClampNeg)) + (xs (n + 2)))).toNatClampNeg)), .int ((gE σ 58 (((((gE σ 56 (((xs (n + 1))).toNatClampNeg)) + (xs (n + 2))) + 1)).toNatClampNeg)) - (gE σ 58 ((((gE σ 56 (((xs (n + 1))).toNatClampNeg)) + (xs (n + 2)))).toNatClampNeg)))]) rfl ?_
  refine ev_b2 (t := 615) (p' := 615) rfl rfl rfl (if_pos c_15) ?_
  exact k
set_option maxHeartbeats 4000000 in
set_option maxRecDepth 100000 in
/-- GameText$Graph.branchAt(III)I -/
theorem lz_147 {d : Nat} {σ : st_S} {y_1 y_2 y_3 : Int32} (c_1 : y_1 < 0) : vz_ev P0 (d + 3) 103 0 (lv_args 0 [.ref 52, .int y_1, .int y_2, .int y_3]) [] (hp σ) (.inl (some (.int (-1))), hp (σ)) := by
  refine ev_x (i := .aload_n 0) (len := 1) (p' := 1) (s' := [.ref 52]) rfl rfl rfl ?_
  refine ev_x (i := .iload_n 1) (len := 1) (p' := 2) (s' := [.int y_1, .ref 52]) rfl rfl rfl ?_
  refine ev_x (i := .iload_n 2) (len := 1) (p' := 3) (s' := [.int y_2, .int y_1, .ref 52]) rfl rfl rfl ?_
  refine ev_cv (d := d + 2) (As := [.int y_1, .int y_2]) (a := 52) (p' := 6) rfl rfl rfl ly_52 rfl rfl rfl rfl rfl rfl rfl (lz_74 (d := d + 0) (c_1 := c_1)) ?_
  refine ev_st (st' := [.int (-1)]) rfl ?_
  refine ev_x (i := .istore 4) (len := 2) (p' := 8) (s' := []) (l' := [(4, .int (-1)), (0, .ref 52), (1, .int y_1), (2, .int y_2), (3, .int y_3)]) rfl rfl rfl ?_
  refine ev_x (i := .iload 4) (len := 2) (p' := 10) (s' := [.int (-1)]) rfl rfl rfl ?_
  refine ev_b0 (t := 38) (p' := 38) rfl rfl rfl (by decide) ?_
  refine ev_x (i := .iconst (-1)) (len := 1) (p' := 39) (s' := [.int (-1)]) rfl rfl rfl ?_
  exact ev_iret rfl rfl rfl rfl
set_option maxHeartbeats 4000000 in
set_option maxRecDepth 100000 in
/-- GameText.branch(IIII)I -/
theorem lz_148 {d : Nat} {σ : st_S} {y_1 y_2 y_3 y_4 : Int32} (c_1 : y_1 < 0) : vz_ev P0 (d + 4) 102 0 (lv_args 0 [.ref 1, .int y_1, .int y_2, .int y_3, .int y_4]) [] (hp σ) (.inl (some (.int (-1))), hp (σ)) := by
  refine ev_x (i := .aload_n 0) (len := 1) (p' := 1) (s' := [.ref 1]) rfl rfl rfl ?_
  refine ev_gc (p' := 4) (v := 52) rfl rfl rfl ly_1 rfl rfl ?_
  refine ev_x (i := .iload_n 1) (len := 1) (p' := 5) (s' := [.int y_1, .ref 52]) rfl rfl rfl ?_
  refine ev_x (i := .iload_n 2) (len := 1) (p' := 6) (s' := [.int y_2, .int y_1, .ref 52]) rfl rfl rfl ?_
  refine ev_x (i := .iload_n 3) (len := 1) (p' := 7) (s' := [.int y_3, .int y_2, .int y_1, .ref 52]) rfl rfl rfl ?_
  refine ev_cv (d := d + 3) (As := [.int y_1, .int y_2, .int y_3]) (a := 52) (p' := 10) rfl rfl rfl ly_52 rfl rfl rfl rfl rfl rfl rfl (lz_147 (d := d + 0) (c_1 := c_1)) ?_
  refine ev_st (st' := [.int (-1)]) rfl ?_
  refine ev_x (i := .istore 5) (len := 2) (p' := 12) (s' := []) (l' := [(5, .int (-1)), (0, .ref 1), (1, .int y_1), (2, .int y_2), (3, .int y_3), (4, .int y_4)]) rfl rfl rfl ?_
  refine ev_x (i := .iload 5) (len := 2) (p' := 14) (s' := [.int (-1)]) rfl rfl rfl ?_
  refine ev_b0 (t := 19) (p' := 17) rfl rfl rfl (by decide) ?_
  refine ev_x (i := .iconst (-1)) (len := 1) (p' := 18) (s' := [.int (-1)]) rfl rfl rfl ?_
  exact ev_iret rfl rfl rfl rfl
set_option maxHeartbeats 4000000 in
set_option maxRecDepth 100000 in
/-- GameTextModel.branch(IIII)I -/
theorem lz_151 {d : Nat} {σ : st_S} {y_1 y_2 y_3 y_4 : Int32} (c_1 : y_1 < 0) : vz_ev P0 (d + 3) 229 0 (lv_args 0 [.ref 66, .int y_1, .int y_2, .int y_3, .int y_4]) [] (hp σ) (.inl (some (.int (-1))), hp (st_i (σ) 66 0 0)) := by
  refine ev_x (i := .aload_n 0) (len := 1) (p' := 1) (s' := [.ref 66]) rfl rfl rfl ?_
  refine ev_x (i := .iload_n 1) (len := 1) (p' := 2) (s' := [.int y_1, .ref 66]) rfl rfl rfl ?_
  refine ev_x (i := .iload_n 2) (len := 1) (p' := 3) (s' := [.int y_2, .int y_1, .ref 66]) rfl rfl rfl ?_
  refine ev_cv (d := d + 2) (As := [.int y_1, .int y_2]) (a := 66) (p' := 6) rfl rfl rfl ly_66 rfl rfl rfl rfl rfl rfl rfl (lz_77 (d := d + 0) (c_1 := c_1)) ?_
  refine ev_st (st' := [.int 0]) rfl ?_
  refine ev_b0 (t := 43) (p' := 43) rfl rfl rfl (by decide) ?_
  refine ev_x (i := .iconst (-1)) (len := 1) (p' := 44) (s' := [.int (-1)]) rfl rfl rfl ?_
  exact ev_iret rfl rfl rfl rfl
set_option maxHeartbeats 4000000 in
set_option maxRecDepth 100000 in
/-- GameTextLaw.law([I)Z -/
theorem lw_13n_a0 {d : Nat} {σ : st_S} {q : vz_O × vz_H} {n L : Nat} {xs : Nat → Int32} (hs : gF σ 0 = .inl (0, L, .inl xs)) (hn : n + 6 ≤ L) (hL : L ≤ 3072) (c_1 : (xs (n + 1)) < 0) (k : vz_ev P0 (d + 5) 0 615 [(4, .int (nI n)), (3, .ref 187), (2, .ref 66), (1, .ref 1), (0, .ref 0)] [] (hp (st_i (σ) 66 0 0)) q) : vz_ev P0 (d + 5) 0 554 [(4, .int (nI n)), (3, .ref 187), (2, .ref 66), (1, .ref 1), (0, .ref 0)] [] (hp σ) q := by
  refine ev_x (i := .aload_n 1) (len := 1) (p' := 555) (s' := [.ref 1]) rfl rfl rfl ?_
  refine ev_x (i := .aload_n 0) (len := 1) (p' := 556) (s' := [.ref 0, .ref 1]) rfl rfl rfl ?_
  refine ev_x (i := .iload 4) (len := 2) (p' := 558) (s' := [.int (nI n), .ref 0, .ref 1]) rfl rfl rfl ?_
  refine ev_x (i := .iconst 1) (len := 1) (p' := 559) (s' := [.int 1, .int (nI n), .ref 0, .ref 1]) rfl rfl rfl ?_
  refine ev_x (i := .iadd) (len := 1) (p' := 560) (s' := [.int ((nI n) + 1), .ref 0, .ref 1]) rfl rfl rfl ?_
  refine ev_st (st' := [.int (nI (n + 1)), .ref 0, .ref 1]) (congrArg (fun z => Value.int z :: [.ref 0, .ref 1]) (nI_add n 1)) ?_
  refine ev_sg (p' := 561) rfl rfl hs (vp_in_nI (by omega) (by omega)) rfl ?_
  refine ev_st (st' := [.int (xs (n + 1)), .ref 1]) (congrArg (fun z => Value.int (xs z) :: [.ref 1]) (nI_clamp (n := n + 1) (by omega))) ?_
  refine ev_x (i := .aload_n 0) (len := 1) (p' := 562) (s' := [.ref 0, .int (xs (n + 1)), .ref 1]) rfl rfl rfl ?_
  refine ev_x (i := .iload 4) (len := 2) (p' := 564) (s' := [.int (nI n), .ref 0, .int (xs (n + 1)), .ref 1]) rfl rfl rfl ?_
  refine ev_x (i := .iconst 2) (len := 1) (p' := 565) (s' := [.int 2, .int (nI n), .ref 0, .int (xs (n + 1)), .ref 1]) rfl rfl rfl ?_
  refine ev_x (i := .iadd) (len := 1) (p' := 566) (s' := [.int ((nI n) + 2), .ref 0, .int (xs (n + 1)), .ref 1]) rfl rfl rfl ?_
  refine ev_st (st' := [.int (nI (n + 2)), .ref 0, .int (xs (n + 1)), .ref 1]) (congrArg (fun z => Value.int z :: [.ref 0, .int (xs (n + 1)), .ref 1]) (nI_add n 2)) ?_
  refine ev_sg (p' := 567) rfl rfl hs (vp_in_nI (by omega) (by omega)) rfl ?_
  refine ev_st (st' := [.int (xs (n + 2)), .int (xs (n + 1)), .ref 1]) (congrArg (fun z => Value.int (xs z) :: [.int (xs (n + 1)), .ref 1]) (nI_clamp (n := n + 2) (by omega))) ?_
  refine ev_x (i := .aload_n 0) (len := 1) (p' := 568) (s' := [.ref 0, .int (xs (n + 2)), .int (xs (n + 1)), .ref 1]) rfl rfl rfl ?_
  refine ev_x (i := .iload 4) (len := 2) (p' := 570) (s' := [.int (nI n), .ref 0, .int (xs (n + 2)), .int (xs (n + 1)), .ref 1]) rfl rfl rfl ?_
  refine ev_x (i := .iconst 3) (len := 1) (p' := 571) (s' := [.int 3, .int (nI n), .ref 0, .int (xs (n + 2)), .int (xs (n + 1)), .ref 1]) rfl rfl rfl ?_
  refine ev_x (i := .iadd) (len := 1) (p' := 572) (s' := [.int ((nI n) + 3), .ref 0, .int (xs (n + 2)), .int (xs (n + 1)), .ref 1]) rfl rfl rfl ?_
  refine ev_st (st' := [.int (nI (n + 3)), .ref 0, .int (xs (n + 2)), .int (xs (n + 1)), .ref 1]) (congrArg (fun z => Value.int z :: [.ref 0, .int (xs (n + 2)), .int (xs (n + 1)), .ref 1]) (nI_add n 3)) ?_
  refine ev_sg (p' := 573) rfl rfl hs (vp_in_nI (by omega) (by omega)) rfl ?_
  refine ev_st (st' := [.int (xs (n + 3)), .int (xs (n + 2)), .int (xs (n + 1)), .ref 1]) (congrArg (fun z => Value.int (xs z) :: [.int (xs (n + 2)), .int (xs (n + 1)), .ref 1]) (nI_clamp (n := n + 3) (by omega))) ?_
  refine ev_x (i := .aload_n 0) (len := 1) (p' := 574) (s' := [.ref 0, .int (xs (n + 3)), .int (xs (n + 2)), .int (xs (n + 1)), .ref 1]) rfl rfl rfl ?_
  refine ev_x (i := .iload 4) (len := 2) (p' := 576) (s' := [.int (nI n), .ref 0, .int (xs (n + 3)), .int (xs (n + 2)), .int (xs (n + 1)), .ref 1]) rfl rfl rfl ?_
  refine ev_x (i := .iconst 4) (len := 1) (p' := 577) (s' := [.int 4, .int (nI n), .ref 0, .int (xs (n + 3)), .int (xs (n + 2)), .int (xs (n + 1)), .ref 1]) rfl rfl rfl ?_
  refine ev_x (i := .iadd) (len := 1) (p' := 578) (s' := [.int ((nI n) + 4), .ref 0, .int (xs (n + 3)), .int (xs (n + 2)), .int (xs (n + 1)), .ref 1]) rfl rfl rfl ?_
  refine ev_st (st' := [.int (nI (n + 4)), .ref 0, .int (xs (n + 3)), .int (xs (n + 2)), .int (xs (n + 1)), .ref 1]) (congrArg (fun z => Value.int z :: [.ref 0, .int (xs (n + 3)), .int (xs (n + 2)), .int (xs (n + 1)), .ref 1]) (nI_add n 4)) ?_
  refine ev_sg (p' := 579) rfl rfl hs (vp_in_nI (by omega) (by omega)) rfl ?_
  refine ev_st (st' := [.int (xs (n + 4)), .int (xs (n + 3)), .int (xs (n + 2)), .int (xs (n + 1)), .ref 1]) (congrArg (fun z => Value.int (xs z) :: [.int (xs (n + 3)), .int (xs (n + 2)), .int (xs (n + 1)), .ref 1]) (nI_clamp (n := n + 4) (by omega))) ?_
  refine ev_cv (d := d + 4) (As := [.int (xs (n + 1)), .int (xs (n + 2)), .int (xs (n + 3)), .int (xs (n + 4))]) (a := 1) (p' := 582) rfl rfl rfl ly_1 rfl rfl rfl rfl rfl rfl rfl (lz_148 (d := d + 0) (c_1 := c_1)) ?_
  refine ev_st (st' := [.int (-1)]) rfl ?_
  refine ev_x (i := .aload_n 2) (len := 1) (p' := 583) (s' := [.ref 66, .int (-1)]) rfl rfl rfl ?_
  refine ev_x (i := .aload_n 0) (len := 1) (p' := 584) (s' := [.ref 0, .ref 66, .int (-1)]) rfl rfl rfl ?_
  refine ev_x (i := .iload 4) (len := 2) (p' := 586) (s' := [.int (nI n), .ref 0, .ref 66, .int (-1)]) rfl rfl rfl ?_
  refine ev_x (i := .iconst 1) (len := 1) (p' := 587) (s' := [.int 1, .int (nI n), .ref 0, .ref 66, .int (-1)]) rfl rfl rfl ?_
  refine ev_x (i := .iadd) (len := 1) (p' := 588) (s' := [.int ((nI n) + 1), .ref 0, .ref 66, .int (-1)]) rfl rfl rfl ?_
  refine ev_st (st' := [.int (nI (n + 1)), .ref 0, .ref 66, .int (-1)]) (congrArg (fun z => Value.int z :: [.ref 0, .ref 66, .int (-1)]) (nI_add n 1)) ?_
  refine ev_sg (p' := 589) rfl rfl hs (vp_in_nI (by omega) (by omega)) rfl ?_
  refine ev_st (st' := [.int (xs (n + 1)), .ref 66, .int (-1)]) (congrArg (fun z => Value.int (xs z) :: [.ref 66, .int (-1)]) (nI_clamp (n := n + 1) (by omega))) ?_
  refine ev_x (i := .aload_n 0) (len := 1) (p' := 590) (s' := [.ref 0, .int (xs (n + 1)), .ref 66, .int (-1)]) rfl rfl rfl ?_
  refine ev_x (i := .iload 4) (len := 2) (p' := 592) (s' := [.int (nI n), .ref 0, .int (xs (n + 1)), .ref 66, .int (-1)]) rfl rfl rfl ?_
  refine ev_x (i := .iconst 2) (len := 1) (p' := 593) (s' := [.int 2, .int (nI n), .ref 0, .int (xs (n + 1)), .ref 66, .int (-1)]) rfl rfl rfl ?_
  refine ev_x (i := .iadd) (len := 1) (p' := 594) (s' := [.int ((nI n) + 2), .ref 0, .int (xs (n + 1)), .ref 66, .int (-1)]) rfl rfl rfl ?_
  refine ev_st (st' := [.int (nI (n + 2)), .ref 0, .int (xs (n + 1)), .ref 66, .int (-1)]) (congrArg (fun z => Value.int z :: [.ref 0, .int (xs (n + 1)), .ref 66, .int (-1)]) (nI_add n 2)) ?_
  refine ev_sg (p' := 595) rfl rfl hs (vp_in_nI (by omega) (by omega)) rfl ?_
  refine ev_st (st' := [.int (xs (n + 2)), .int (xs (n + 1)), .ref 66, .int (-1)]) (congrArg (fun z => Value.int (xs z) :: [.int (xs (n + 1)), .ref 66, .int (-1)]) (nI_clamp (n := n + 2) (by omega))) ?_
  refine ev_x (i := .aload_n 0) (len := 1) (p' := 596) (s' := [.ref 0, .int (xs (n + 2)), .int (xs (n + 1)), .ref 66, .int (-1)]) rfl rfl rfl ?_
  refine ev_x (i := .iload 4) (len := 2) (p' := 598) (s' := [.int (nI n), .ref 0, .int (xs (n + 2)), .int (xs (n + 1)), .ref 66, .int (-1)]) rfl rfl rfl ?_
  refine ev_x (i := .iconst 3) (len := 1) (p' := 599) (s' := [.int 3, .int (nI n), .ref 0, .int (xs (n + 2)), .int (xs (n + 1)), .ref 66, .int (-1)]) rfl rfl rfl ?_
  refine ev_x (i := .iadd) (len := 1) (p' := 600) (s' := [.int ((nI n) + 3), .ref 0, .int (xs (n + 2)), .int (xs (n + 1)), .ref 66, .int (-1)]) rfl rfl rfl ?_
  refine ev_st (st' := [.int (nI (n + 3)), .ref 0, .int (xs (n + 2)), .int (xs (n + 1)), .ref 66, .int (-1)]) (congrArg (fun z => Value.int z :: [.ref 0, .int (xs (n + 2)), .int (xs (n + 1)), .ref 66, .int (-1)]) (nI_add n 3)) ?_
  refine ev_sg (p' := 601) rfl rfl hs (vp_in_nI (by omega) (by omega)) rfl ?_
  refine ev_st (st' := [.int (xs (n + 3)), .int (xs (n + 2)), .int (xs (n + 1)), .ref 66, .int (-1)]) (congrArg (fun z => Value.int (xs z) :: [.int (xs (n + 2)), .int (xs (n + 1)), .ref 66, .int (-1)]) (nI_clamp (n := n + 3) (by omega))) ?_
  refine ev_x (i := .aload_n 0) (len := 1) (p' := 602) (s' := [.ref 0, .int (xs (n + 3)), .int (xs (n + 2)), .int (xs (n + 1)), .ref 66, .int (-1)]) rfl rfl rfl ?_
  refine ev_x (i := .iload 4) (len := 2) (p' := 604) (s' := [.int (nI n), .ref 0, .int (xs (n + 3)), .int (xs (n + 2)), .int (xs (n + 1)), .ref 66, .int (-1)]) rfl rfl rfl ?_
  refine ev_x (i := .iconst 4) (len := 1) (p' := 605) (s' := [.int 4, .int (nI n), .ref 0, .int (xs (n + 3)), .int (xs (n + 2)), .int (xs (n + 1)), .ref 66, .int (-1)]) rfl rfl rfl ?_
  refine ev_x (i := .iadd) (len := 1) (p' := 606) (s' := [.int ((nI n) + 4), .ref 0, .int (xs (n + 3)), .int (xs (n + 2)), .int (xs (n + 1)), .ref 66, .int (-1)]) rfl rfl rfl ?_
  refine ev_st (st' := [.int (nI (n + 4)), .ref 0, .int (xs (n + 3)), .int (xs (n + 2)), .int (xs (n + 1)), .ref 66, .int (-1)]) (congrArg (fun z => Value.int z :: [.ref 0, .int (xs (n + 3)), .int (xs (n + 2)), .int (xs (n + 1)), .ref 66, .int (-1)]) (nI_add n 4)) ?_
  refine ev_sg (p' := 607) rfl rfl hs (vp_in_nI (by omega) (by omega)) rfl ?_
  refine ev_st (st' := [.int (xs (n + 4)), .int (xs (n + 3)), .int (xs (n + 2)), .int (xs (n + 1)), .ref 66, .int (-1)]) (congrArg (fun z => Value.int (xs z) :: [.int (xs (n + 3)), .int (xs (n + 2)), .int (xs (n + 1)), .ref 66, .int (-1)]) (nI_clamp (n := n + 4) (by omega))) ?_
  refine ev_cv (d := d + 4) (As := [.int (xs (n + 1)), .int (xs (n + 2)), .int (xs (n + 3)), .int (xs (n + 4))]) (a := 66) (p' := 610) rfl rfl rfl ly_66 rfl rfl rfl rfl rfl rfl rfl (lz_151 (d := d + 1) (c_1 := c_1)) ?_
  refine ev_st (st' := [.int (-1), .int (-1)]) rfl ?_
  refine ev_b2 (t := 615) (p' := 615) rfl rfl rfl (by decide) ?_
  exact k
set_option maxHeartbeats 4000000 in
set_option maxRecDepth 100000 in
/-- GameText$Graph.branchAt(III)I -/
theorem lz_155 {d : Nat} {σ : st_S} {y_1 y_2 y_3 : Int32} (c_1 : ¬ (y_1 < 0)) (c_2 : (σ.1 52 10) ≤ y_1) : vz_ev P0 (d + 3) 103 0 (lv_args 0 [.ref 52, .int y_1, .int y_2, .int y_3]) [] (hp σ) (.inl (some (.int (-1))), hp (σ)) := by
  refine ev_x (i := .aload_n 0) (len := 1) (p' := 1) (s' := [.ref 52]) rfl rfl rfl ?_
  refine ev_x (i := .iload_n 1) (len := 1) (p' := 2) (s' := [.int y_1, .ref 52]) rfl rfl rfl ?_
  refine ev_x (i := .iload_n 2) (len := 1) (p' := 3) (s' := [.int y_2, .int y_1, .ref 52]) rfl rfl rfl ?_
  refine ev_cv (d := d + 2) (As := [.int y_1, .int y_2]) (a := 52) (p' := 6) rfl rfl rfl ly_52 rfl rfl rfl rfl rfl rfl rfl (lz_81 (d := d + 0) (c_1 := c_1) (c_2 := c_2)) ?_
  refine ev_st (st' := [.int (-1)]) rfl ?_
  refine ev_x (i := .istore 4) (len := 2) (p' := 8) (s' := []) (l' := [(4, .int (-1)), (0, .ref 52), (1, .int y_1), (2, .int y_2), (3, .int y_3)]) rfl rfl rfl ?_
  refine ev_x (i := .iload 4) (len := 2) (p' := 10) (s' := [.int (-1)]) rfl rfl rfl ?_
  refine ev_b0 (t := 38) (p' := 38) rfl rfl rfl (by decide) ?_
  refine ev_x (i := .iconst (-1)) (len := 1) (p' := 39) (s' := [.int (-1)]) rfl rfl rfl ?_
  exact ev_iret rfl rfl rfl rfl
set_option maxHeartbeats 4000000 in
set_option maxRecDepth 100000 in
/-- GameText.branch(IIII)I -/
theorem lz_156 {d : Nat} {σ : st_S} {y_1 y_2 y_3 y_4 : Int32} (c_1 : ¬ (y_1 < 0)) (c_2 : (σ.1 52 10) ≤ y_1) : vz_ev P0 (d + 4) 102 0 (lv_args 0 [.ref 1, .int y_1, .int y_2, .int y_3, .int y_4]) [] (hp σ) (.inl (some (.int (-1))), hp (σ)) := by
  refine ev_x (i := .aload_n 0) (len := 1) (p' := 1) (s' := [.ref 1]) rfl rfl rfl ?_
  refine ev_gc (p' := 4) (v := 52) rfl rfl rfl ly_1 rfl rfl ?_
  refine ev_x (i := .iload_n 1) (len := 1) (p' := 5) (s' := [.int y_1, .ref 52]) rfl rfl rfl ?_
  refine ev_x (i := .iload_n 2) (len := 1) (p' := 6) (s' := [.int y_2, .int y_1, .ref 52]) rfl rfl rfl ?_
  refine ev_x (i := .iload_n 3) (len := 1) (p' := 7) (s' := [.int y_3, .int y_2, .int y_1, .ref 52]) rfl rfl rfl ?_
  refine ev_cv (d := d + 3) (As := [.int y_1, .int y_2, .int y_3]) (a := 52) (p' := 10) rfl rfl rfl ly_52 rfl rfl rfl rfl rfl rfl rfl (lz_155 (d := d + 0) (c_1 := c_1) (c_2 := c_2)) ?_
  refine ev_st (st' := [.int (-1)]) rfl ?_
  refine ev_x (i := .istore 5) (len := 2) (p' := 12) (s' := []) (l' := [(5, .int (-1)), (0, .ref 1), (1, .int y_1), (2, .int y_2), (3, .int y_3), (4, .int y_4)]) rfl rfl rfl ?_
  refine ev_x (i := .iload 5) (len := 2) (p' := 14) (s' := [.int (-1)]) rfl rfl rfl ?_
  refine ev_b0 (t := 19) (p' := 17) rfl rfl rfl (by decide) ?_
  refine ev_x (i := .iconst (-1)) (len := 1) (p' := 18) (s' := [.int (-1)]) rfl rfl rfl ?_
  exact ev_iret rfl rfl rfl rfl
set_option maxHeartbeats 4000000 in
set_option maxRecDepth 100000 in
/-- GameTextModel.branch(IIII)I -/
theorem lz_159 {d : Nat} {σ : st_S} {y_1 y_2 y_3 y_4 : Int32} (c_1 : ¬ (y_1 < 0)) (c_2 : (σ.1 66 29) ≤ y_1) : vz_ev P0 (d + 3) 229 0 (lv_args 0 [.ref 66, .int y_1, .int y_2, .int y_3, .int y_4]) [] (hp σ) (.inl (some (.int (-1))), hp (st_i (σ) 66 0 0)) := by
  refine ev_x (i := .aload_n 0) (len := 1) (p' := 1) (s' := [.ref 66]) rfl rfl rfl ?_
  refine ev_x (i := .iload_n 1) (len := 1) (p' := 2) (s' := [.int y_1, .ref 66]) rfl rfl rfl ?_
  refine ev_x (i := .iload_n 2) (len := 1) (p' := 3) (s' := [.int y_2, .int y_1, .ref 66]) rfl rfl rfl ?_
  refine ev_cv (d := d + 2) (As := [.int y_1, .int y_2]) (a := 66) (p' := 6) rfl rfl rfl ly_66 rfl rfl rfl rfl rfl rfl rfl (lz_84 (d := d + 0) (c_1 := c_1) (c_2 := c_2)) ?_
  refine ev_st (st' := [.int 0]) rfl ?_
  refine ev_b0 (t := 43) (p' := 43) rfl rfl rfl (by decide) ?_
  refine ev_x (i := .iconst (-1)) (len := 1) (p' := 44) (s' := [.int (-1)]) rfl rfl rfl ?_
  exact ev_iret rfl rfl rfl rfl
set_option maxHeartbeats 4000000 in
set_option maxRecDepth 100000 in
/-- GameTextLaw.law([I)Z -/
theorem lw_13g_a0 {d : Nat} {σ : st_S} {q : vz_O × vz_H} {n L : Nat} {xs : Nat → Int32} (hs : gF σ 0 = .inl (0, L, .inl xs)) (hn : n + 6 ≤ L) (hL : L ≤ 3072) (c_1 : ¬ ((xs (n + 1)) < 0)) (c_2 : (σ.1 52 10) ≤ (xs (n + 1))) (c_3 : (σ.1 66 29) ≤ (xs (n + 1))) (k : vz_ev P0 (d + 5) 0 615 [(4, .int (nI n)), (3, .ref 187), (2, .ref 66), (1, .ref 1), (0, .ref 0)] [] (hp (st_i (σ) 66 0 0)) q) : vz_ev P0 (d + 5) 0 554 [(4, .int (nI n)), (3, .ref 187), (2, .ref 66), (1, .ref 1), (0, .ref 0)] [] (hp σ) q := by
  refine ev_x (i := .aload_n 1) (len := 1) (p' := 555) (s' := [.ref 1]) rfl rfl rfl ?_
  refine ev_x (i := .aload_n 0) (len := 1) (p' := 556) (s' := [.ref 0, .ref 1]) rfl rfl rfl ?_
  refine ev_x (i := .iload 4) (len := 2) (p' := 558) (s' := [.int (nI n), .ref 0, .ref 1]) rfl rfl rfl ?_
  refine ev_x (i := .iconst 1) (len := 1) (p' := 559) (s' := [.int 1, .int (nI n), .ref 0, .ref 1]) rfl rfl rfl ?_
  refine ev_x (i := .iadd) (len := 1) (p' := 560) (s' := [.int ((nI n) + 1), .ref 0, .ref 1]) rfl rfl rfl ?_
  refine ev_st (st' := [.int (nI (n + 1)), .ref 0, .ref 1]) (congrArg (fun z => Value.int z :: [.ref 0, .ref 1]) (nI_add n 1)) ?_
  refine ev_sg (p' := 561) rfl rfl hs (vp_in_nI (by omega) (by omega)) rfl ?_
  refine ev_st (st' := [.int (xs (n + 1)), .ref 1]) (congrArg (fun z => Value.int (xs z) :: [.ref 1]) (nI_clamp (n := n + 1) (by omega))) ?_
  refine ev_x (i := .aload_n 0) (len := 1) (p' := 562) (s' := [.ref 0, .int (xs (n + 1)), .ref 1]) rfl rfl rfl ?_
  refine ev_x (i := .iload 4) (len := 2) (p' := 564) (s' := [.int (nI n), .ref 0, .int (xs (n + 1)), .ref 1]) rfl rfl rfl ?_
  refine ev_x (i := .iconst 2) (len := 1) (p' := 565) (s' := [.int 2, .int (nI n), .ref 0, .int (xs (n + 1)), .ref 1]) rfl rfl rfl ?_
  refine ev_x (i := .iadd) (len := 1) (p' := 566) (s' := [.int ((nI n) + 2), .ref 0, .int (xs (n + 1)), .ref 1]) rfl rfl rfl ?_
  refine ev_st (st' := [.int (nI (n + 2)), .ref 0, .int (xs (n + 1)), .ref 1]) (congrArg (fun z => Value.int z :: [.ref 0, .int (xs (n + 1)), .ref 1]) (nI_add n 2)) ?_
  refine ev_sg (p' := 567) rfl rfl hs (vp_in_nI (by omega) (by omega)) rfl ?_
  refine ev_st (st' := [.int (xs (n + 2)), .int (xs (n + 1)), .ref 1]) (congrArg (fun z => Value.int (xs z) :: [.int (xs (n + 1)), .ref 1]) (nI_clamp (n := n + 2) (by omega))) ?_
  refine ev_x (i := .aload_n 0) (len := 1) (p' := 568) (s' := [.ref 0, .int (xs (n + 2)), .int (xs (n + 1)), .ref 1]) rfl rfl rfl ?_
  refine ev_x (i := .iload 4) (len := 2) (p' := 570) (s' := [.int (nI n), .ref 0, .int (xs (n + 2)), .int (xs (n + 1)), .ref 1]) rfl rfl rfl ?_
  refine ev_x (i := .iconst 3) (len := 1) (p' := 571) (s' := [.int 3, .int (nI n), .ref 0, .int (xs (n + 2)), .int (xs (n + 1)), .ref 1]) rfl rfl rfl ?_
  refine ev_x (i := .iadd) (len := 1) (p' := 572) (s' := [.int ((nI n) + 3), .ref 0, .int (xs (n + 2)), .int (xs (n + 1)), .ref 1]) rfl rfl rfl ?_
  refine ev_st (st' := [.int (nI (n + 3)), .ref 0, .int (xs (n + 2)), .int (xs (n + 1)), .ref 1]) (congrArg (fun z => Value.int z :: [.ref 0, .int (xs (n + 2)), .int (xs (n + 1)), .ref 1]) (nI_add n 3)) ?_
  refine ev_sg (p' := 573) rfl rfl hs (vp_in_nI (by omega) (by omega)) rfl ?_
  refine ev_st (st' := [.int (xs (n + 3)), .int (xs (n + 2)), .int (xs (n + 1)), .ref 1]) (congrArg (fun z => Value.int (xs z) :: [.int (xs (n + 2)), .int (xs (n + 1)), .ref 1]) (nI_clamp (n := n + 3) (by omega))) ?_
  refine ev_x (i := .aload_n 0) (len := 1) (p' := 574) (s' := [.ref 0, .int (xs (n + 3)), .int (xs (n + 2)), .int (xs (n + 1)), .ref 1]) rfl rfl rfl ?_
  refine ev_x (i := .iload 4) (len := 2) (p' := 576) (s' := [.int (nI n), .ref 0, .int (xs (n + 3)), .int (xs (n + 2)), .int (xs (n + 1)), .ref 1]) rfl rfl rfl ?_
  refine ev_x (i := .iconst 4) (len := 1) (p' := 577) (s' := [.int 4, .int (nI n), .ref 0, .int (xs (n + 3)), .int (xs (n + 2)), .int (xs (n + 1)), .ref 1]) rfl rfl rfl ?_
  refine ev_x (i := .iadd) (len := 1) (p' := 578) (s' := [.int ((nI n) + 4), .ref 0, .int (xs (n + 3)), .int (xs (n + 2)), .int (xs (n + 1)), .ref 1]) rfl rfl rfl ?_
  refine ev_st (st' := [.int (nI (n + 4)), .ref 0, .int (xs (n + 3)), .int (xs (n + 2)), .int (xs (n + 1)), .ref 1]) (congrArg (fun z => Value.int z :: [.ref 0, .int (xs (n + 3)), .int (xs (n + 2)), .int (xs (n + 1)), .ref 1]) (nI_add n 4)) ?_
  refine ev_sg (p' := 579) rfl rfl hs (vp_in_nI (by omega) (by omega)) rfl ?_
  refine ev_st (st' := [.int (xs (n + 4)), .int (xs (n + 3)), .int (xs (n + 2)), .int (xs (n + 1)), .ref 1]) (congrArg (fun z => Value.int (xs z) :: [.int (xs (n + 3)), .int (xs (n + 2)), .int (xs (n + 1)), .ref 1]) (nI_clamp (n := n + 4) (by omega))) ?_
  refine ev_cv (d := d + 4) (As := [.int (xs (n + 1)), .int (xs (n + 2)), .int (xs (n + 3)), .int (xs (n + 4))]) (a := 1) (p' := 582) rfl rfl rfl ly_1 rfl rfl rfl rfl rfl rfl rfl (lz_156 (d := d + 0) (c_1 := c_1) (c_2 := c_2)) ?_
  refine ev_st (st' := [.int (-1)]) rfl ?_
  refine ev_x (i := .aload_n 2) (len := 1) (p' := 583) (s' := [.ref 66, .int (-1)]) rfl rfl rfl ?_
  refine ev_x (i := .aload_n 0) (len := 1) (p' := 584) (s' := [.ref 0, .ref 66, .int (-1)]) rfl rfl rfl ?_
  refine ev_x (i := .iload 4) (len := 2) (p' := 586) (s' := [.int (nI n), .ref 0, .ref 66, .int (-1)]) rfl rfl rfl ?_
  refine ev_x (i := .iconst 1) (len := 1) (p' := 587) (s' := [.int 1, .int (nI n), .ref 0, .ref 66, .int (-1)]) rfl rfl rfl ?_
  refine ev_x (i := .iadd) (len := 1) (p' := 588) (s' := [.int ((nI n) + 1), .ref 0, .ref 66, .int (-1)]) rfl rfl rfl ?_
  refine ev_st (st' := [.int (nI (n + 1)), .ref 0, .ref 66, .int (-1)]) (congrArg (fun z => Value.int z :: [.ref 0, .ref 66, .int (-1)]) (nI_add n 1)) ?_
  refine ev_sg (p' := 589) rfl rfl hs (vp_in_nI (by omega) (by omega)) rfl ?_
  refine ev_st (st' := [.int (xs (n + 1)), .ref 66, .int (-1)]) (congrArg (fun z => Value.int (xs z) :: [.ref 66, .int (-1)]) (nI_clamp (n := n + 1) (by omega))) ?_
  refine ev_x (i := .aload_n 0) (len := 1) (p' := 590) (s' := [.ref 0, .int (xs (n + 1)), .ref 66, .int (-1)]) rfl rfl rfl ?_
  refine ev_x (i := .iload 4) (len := 2) (p' := 592) (s' := [.int (nI n), .ref 0, .int (xs (n + 1)), .ref 66, .int (-1)]) rfl rfl rfl ?_
  refine ev_x (i := .iconst 2) (len := 1) (p' := 593) (s' := [.int 2, .int (nI n), .ref 0, .int (xs (n + 1)), .ref 66, .int (-1)]) rfl rfl rfl ?_
  refine ev_x (i := .iadd) (len := 1) (p' := 594) (s' := [.int ((nI n) + 2), .ref 0, .int (xs (n + 1)), .ref 66, .int (-1)]) rfl rfl rfl ?_
  refine ev_st (st' := [.int (nI (n + 2)), .ref 0, .int (xs (n + 1)), .ref 66, .int (-1)]) (congrArg (fun z => Value.int z :: [.ref 0, .int (xs (n + 1)), .ref 66, .int (-1)]) (nI_add n 2)) ?_
  refine ev_sg (p' := 595) rfl rfl hs (vp_in_nI (by omega) (by omega)) rfl ?_
  refine ev_st (st' := [.int (xs (n + 2)), .int (xs (n + 1)), .ref 66, .int (-1)]) (congrArg (fun z => Value.int (xs z) :: [.int (xs (n + 1)), .ref 66, .int (-1)]) (nI_clamp (n := n + 2) (by omega))) ?_
  refine ev_x (i := .aload_n 0) (len := 1) (p' := 596) (s' := [.ref 0, .int (xs (n + 2)), .int (xs (n + 1)), .ref 66, .int (-1)]) rfl rfl rfl ?_
  refine ev_x (i := .iload 4) (len := 2) (p' := 598) (s' := [.int (nI n), .ref 0, .int (xs (n + 2)), .int (xs (n + 1)), .ref 66, .int (-1)]) rfl rfl rfl ?_
  refine ev_x (i := .iconst 3) (len := 1) (p' := 599) (s' := [.int 3, .int (nI n), .ref 0, .int (xs (n + 2)), .int (xs (n + 1)), .ref 66, .int (-1)]) rfl rfl rfl ?_
  refine ev_x (i := .iadd) (len := 1) (p' := 600) (s' := [.int ((nI n) + 3), .ref 0, .int (xs (n + 2)), .int (xs (n + 1)), .ref 66, .int (-1)]) rfl rfl rfl ?_
  refine ev_st (st' := [.int (nI (n + 3)), .ref 0, .int (xs (n + 2)), .int (xs (n + 1)), .ref 66, .int (-1)]) (congrArg (fun z => Value.int z :: [.ref 0, .int (xs (n + 2)), .int (xs (n + 1)), .ref 66, .int (-1)]) (nI_add n 3)) ?_
  refine ev_sg (p' := 601) rfl rfl hs (vp_in_nI (by omega) (by omega)) rfl ?_
  refine ev_st (st' := [.int (xs (n + 3)), .int (xs (n + 2)), .int (xs (n + 1)), .ref 66, .int (-1)]) (congrArg (fun z => Value.int (xs z) :: [.int (xs (n + 2)), .int (xs (n + 1)), .ref 66, .int (-1)]) (nI_clamp (n := n + 3) (by omega))) ?_
  refine ev_x (i := .aload_n 0) (len := 1) (p' := 602) (s' := [.ref 0, .int (xs (n + 3)), .int (xs (n + 2)), .int (xs (n + 1)), .ref 66, .int (-1)]) rfl rfl rfl ?_
  refine ev_x (i := .iload 4) (len := 2) (p' := 604) (s' := [.int (nI n), .ref 0, .int (xs (n + 3)), .int (xs (n + 2)), .int (xs (n + 1)), .ref 66, .int (-1)]) rfl rfl rfl ?_
  refine ev_x (i := .iconst 4) (len := 1) (p' := 605) (s' := [.int 4, .int (nI n), .ref 0, .int (xs (n + 3)), .int (xs (n + 2)), .int (xs (n + 1)), .ref 66, .int (-1)]) rfl rfl rfl ?_
  refine ev_x (i := .iadd) (len := 1) (p' := 606) (s' := [.int ((nI n) + 4), .ref 0, .int (xs (n + 3)), .int (xs (n + 2)), .int (xs (n + 1)), .ref 66, .int (-1)]) rfl rfl rfl ?_
  refine ev_st (st' := [.int (nI (n + 4)), .ref 0, .int (xs (n + 3)), .int (xs (n + 2)), .int (xs (n + 1)), .ref 66, .int (-1)]) (congrArg (fun z => Value.int z :: [.ref 0, .int (xs (n + 3)), .int (xs (n + 2)), .int (xs (n + 1)), .ref 66, .int (-1)]) (nI_add n 4)) ?_
  refine ev_sg (p' := 607) rfl rfl hs (vp_in_nI (by omega) (by omega)) rfl ?_
  refine ev_st (st' := [.int (xs (n + 4)), .int (xs (n + 3)), .int (xs (n + 2)), .int (xs (n + 1)), .ref 66, .int (-1)]) (congrArg (fun z => Value.int (xs z) :: [.int (xs (n + 3)), .int (xs (n + 2)), .int (xs (n + 1)), .ref 66, .int (-1)]) (nI_clamp (n := n + 4) (by omega))) ?_
  refine ev_cv (d := d + 4) (As := [.int (xs (n + 1)), .int (xs (n + 2)), .int (xs (n + 3)), .int (xs (n + 4))]) (a := 66) (p' := 610) rfl rfl rfl ly_66 rfl rfl rfl rfl rfl rfl rfl (lz_159 (d := d + 1) (c_1 := c_1) (c_2 := c_3)) ?_
  refine ev_st (st' := [.int (-1), .int (-1)]) rfl ?_
  refine ev_b2 (t := 615) (p' := 615) rfl rfl rfl (by decide) ?_
  exact k
set_option maxHeartbeats 4000000 in
set_option maxRecDepth 100000 in
/-- GameText$Graph.branchAt(III)I -/
theorem lz_163 {d : Nat} {σ : st_S} {y_1 y_2 y_3 : Int32} (c_1 : ¬ (y_1 < 0)) (c_2 : ¬ ((σ.1 52 10) ≤ y_1)) (c_3 : y_2 < 0) : vz_ev P0 (d + 3) 103 0 (lv_args 0 [.ref 52, .int y_1, .int y_2, .int y_3]) [] (hp σ) (.inl (some (.int (-1))), hp (σ)) := by
  refine ev_x (i := .aload_n 0) (len := 1) (p' := 1) (s' := [.ref 52]) rfl rfl rfl ?_
  refine ev_x (i := .iload_n 1) (len := 1) (p' := 2) (s' := [.int y_1, .ref 52]) rfl rfl rfl ?_
  refine ev_x (i := .iload_n 2) (len := 1) (p' := 3) (s' := [.int y_2, .int y_1, .ref 52]) rfl rfl rfl ?_
  refine ev_cv (d := d + 2) (As := [.int y_1, .int y_2]) (a := 52) (p' := 6) rfl rfl rfl ly_52 rfl rfl rfl rfl rfl rfl rfl (lz_88 (d := d + 0) (c_1 := c_1) (c_2 := c_2) (c_3 := c_3)) ?_
  refine ev_st (st' := [.int (-1)]) rfl ?_
  refine ev_x (i := .istore 4) (len := 2) (p' := 8) (s' := []) (l' := [(4, .int (-1)), (0, .ref 52), (1, .int y_1), (2, .int y_2), (3, .int y_3)]) rfl rfl rfl ?_
  refine ev_x (i := .iload 4) (len := 2) (p' := 10) (s' := [.int (-1)]) rfl rfl rfl ?_
  refine ev_b0 (t := 38) (p' := 38) rfl rfl rfl (by decide) ?_
  refine ev_x (i := .iconst (-1)) (len := 1) (p' := 39) (s' := [.int (-1)]) rfl rfl rfl ?_
  exact ev_iret rfl rfl rfl rfl
set_option maxHeartbeats 4000000 in
set_option maxRecDepth 100000 in
/-- GameText.branch(IIII)I -/
theorem lz_164 {d : Nat} {σ : st_S} {y_1 y_2 y_3 y_4 : Int32} (c_1 : ¬ (y_1 < 0)) (c_2 : ¬ ((σ.1 52 10) ≤ y_1)) (c_3 : y_2 < 0) : vz_ev P0 (d + 4) 102 0 (lv_args 0 [.ref 1, .int y_1, .int y_2, .int y_3, .int y_4]) [] (hp σ) (.inl (some (.int (-1))), hp (σ)) := by
  refine ev_x (i := .aload_n 0) (len := 1) (p' := 1) (s' := [.ref 1]) rfl rfl rfl ?_
  refine ev_gc (p' := 4) (v := 52) rfl rfl rfl ly_1 rfl rfl ?_
  refine ev_x (i := .iload_n 1) (len := 1) (p' := 5) (s' := [.int y_1, .ref 52]) rfl rfl rfl ?_
  refine ev_x (i := .iload_n 2) (len := 1) (p' := 6) (s' := [.int y_2, .int y_1, .ref 52]) rfl rfl rfl ?_
  refine ev_x (i := .iload_n 3) (len := 1) (p' := 7) (s' := [.int y_3, .int y_2, .int y_1, .ref 52]) rfl rfl rfl ?_
  refine ev_cv (d := d + 3) (As := [.int y_1, .int y_2, .int y_3]) (a := 52) (p' := 10) rfl rfl rfl ly_52 rfl rfl rfl rfl rfl rfl rfl (lz_163 (d := d + 0) (c_1 := c_1) (c_2 := c_2) (c_3 := c_3)) ?_
  refine ev_st (st' := [.int (-1)]) rfl ?_
  refine ev_x (i := .istore 5) (len := 2) (p' := 12) (s' := []) (l' := [(5, .int (-1)), (0, .ref 1), (1, .int y_1), (2, .int y_2), (3, .int y_3), (4, .int y_4)]) rfl rfl rfl ?_
  refine ev_x (i := .iload 5) (len := 2) (p' := 14) (s' := [.int (-1)]) rfl rfl rfl ?_
  refine ev_b0 (t := 19) (p' := 17) rfl rfl rfl (by decide) ?_
  refine ev_x (i := .iconst (-1)) (len := 1) (p' := 18) (s' := [.int (-1)]) rfl rfl rfl ?_
  exact ev_iret rfl rfl rfl rfl
set_option maxHeartbeats 4000000 in
set_option maxRecDepth 100000 in
/-- GameTextModel.branch(IIII)I -/
theorem lz_167 {d : Nat} {σ : st_S} {y_1 y_2 y_3 y_4 : Int32} (c_1 : ¬ (y_1 < 0)) (c_2 : ¬ ((σ.1 66 29) ≤ y_1)) (c_3 : y_2 < 0) : vz_ev P0 (d + 3) 229 0 (lv_args 0 [.ref 66, .int y_1, .int y_2, .int y_3, .int y_4]) [] (hp σ) (.inl (some (.int (-1))), hp (st_i (σ) 66 0 0)) := by
  refine ev_x (i := .aload_n 0) (len := 1) (p' := 1) (s' := [.ref 66]) rfl rfl rfl ?_
  refine ev_x (i := .iload_n 1) (len := 1) (p' := 2) (s' := [.int y_1, .ref 66]) rfl rfl rfl ?_
  refine ev_x (i := .iload_n 2) (len := 1) (p' := 3) (s' := [.int y_2, .int y_1, .ref 66]) rfl rfl rfl ?_
  refine ev_cv (d := d + 2) (As := [.int y_1, .int y_2]) (a := 66) (p' := 6) rfl rfl rfl ly_66 rfl rfl rfl rfl rfl rfl rfl (lz_91 (d := d + 0) (c_1 := c_1) (c_2 := c_2) (c_3 := c_3)) ?_
  refine ev_st (st' := [.int 0]) rfl ?_
  refine ev_b0 (t := 43) (p' := 43) rfl rfl rfl (by decide) ?_
  refine ev_x (i := .iconst (-1)) (len := 1) (p' := 44) (s' := [.int (-1)]) rfl rfl rfl ?_
  exact ev_iret rfl rfl rfl rfl
set_option maxHeartbeats 4000000 in
set_option maxRecDepth 100000 in
/-- GameTextLaw.law([I)Z -/
theorem lw_13m_a0 {d : Nat} {σ : st_S} {q : vz_O × vz_H} {n L : Nat} {xs : Nat → Int32} (hs : gF σ 0 = .inl (0, L, .inl xs)) (hn : n + 6 ≤ L) (hL : L ≤ 3072) (c_1 : ¬ ((xs (n + 1)) < 0)) (c_2 : ¬ ((σ.1 52 10) ≤ (xs (n + 1)))) (c_3 : (xs (n + 2)) < 0) (c_4 : ¬ ((σ.1 66 29) ≤ (xs (n + 1)))) (k : vz_ev P0 (d + 5) 0 615 [(4, .int (nI n)), (3, .ref 187), (2, .ref 66), (1, .ref 1), (0, .ref 0)] [] (hp (st_i (σ) 66 0 0)) q) : vz_ev P0 (d + 5) 0 554 [(4, .int (nI n)), (3, .ref 187), (2, .ref 66), (1, .ref 1), (0, .ref 0)] [] (hp σ) q := by
  refine ev_x (i := .aload_n 1) (len := 1) (p' := 555) (s' := [.ref 1]) rfl rfl rfl ?_
  refine ev_x (i := .aload_n 0) (len := 1) (p' := 556) (s' := [.ref 0, .ref 1]) rfl rfl rfl ?_
  refine ev_x (i := .iload 4) (len := 2) (p' := 558) (s' := [.int (nI n), .ref 0, .ref 1]) rfl rfl rfl ?_
  refine ev_x (i := .iconst 1) (len := 1) (p' := 559) (s' := [.int 1, .int (nI n), .ref 0, .ref 1]) rfl rfl rfl ?_
  refine ev_x (i := .iadd) (len := 1) (p' := 560) (s' := [.int ((nI n) + 1), .ref 0, .ref 1]) rfl rfl rfl ?_
  refine ev_st (st' := [.int (nI (n + 1)), .ref 0, .ref 1]) (congrArg (fun z => Value.int z :: [.ref 0, .ref 1]) (nI_add n 1)) ?_
  refine ev_sg (p' := 561) rfl rfl hs (vp_in_nI (by omega) (by omega)) rfl ?_
  refine ev_st (st' := [.int (xs (n + 1)), .ref 1]) (congrArg (fun z => Value.int (xs z) :: [.ref 1]) (nI_clamp (n := n + 1) (by omega))) ?_
  refine ev_x (i := .aload_n 0) (len := 1) (p' := 562) (s' := [.ref 0, .int (xs (n + 1)), .ref 1]) rfl rfl rfl ?_
  refine ev_x (i := .iload 4) (len := 2) (p' := 564) (s' := [.int (nI n), .ref 0, .int (xs (n + 1)), .ref 1]) rfl rfl rfl ?_
  refine ev_x (i := .iconst 2) (len := 1) (p' := 565) (s' := [.int 2, .int (nI n), .ref 0, .int (xs (n + 1)), .ref 1]) rfl rfl rfl ?_
  refine ev_x (i := .iadd) (len := 1) (p' := 566) (s' := [.int ((nI n) + 2), .ref 0, .int (xs (n + 1)), .ref 1]) rfl rfl rfl ?_
  refine ev_st (st' := [.int (nI (n + 2)), .ref 0, .int (xs (n + 1)), .ref 1]) (congrArg (fun z => Value.int z :: [.ref 0, .int (xs (n + 1)), .ref 1]) (nI_add n 2)) ?_
  refine ev_sg (p' := 567) rfl rfl hs (vp_in_nI (by omega) (by omega)) rfl ?_
  refine ev_st (st' := [.int (xs (n + 2)), .int (xs (n + 1)), .ref 1]) (congrArg (fun z => Value.int (xs z) :: [.int (xs (n + 1)), .ref 1]) (nI_clamp (n := n + 2) (by omega))) ?_
  refine ev_x (i := .aload_n 0) (len := 1) (p' := 568) (s' := [.ref 0, .int (xs (n + 2)), .int (xs (n + 1)), .ref 1]) rfl rfl rfl ?_
  refine ev_x (i := .iload 4) (len := 2) (p' := 570) (s' := [.int (nI n), .ref 0, .int (xs (n + 2)), .int (xs (n + 1)), .ref 1]) rfl rfl rfl ?_
  refine ev_x (i := .iconst 3) (len := 1) (p' := 571) (s' := [.int 3, .int (nI n), .ref 0, .int (xs (n + 2)), .int (xs (n + 1)), .ref 1]) rfl rfl rfl ?_
  refine ev_x (i := .iadd) (len := 1) (p' := 572) (s' := [.int ((nI n) + 3), .ref 0, .int (xs (n + 2)), .int (xs (n + 1)), .ref 1]) rfl rfl rfl ?_
  refine ev_st (st' := [.int (nI (n + 3)), .ref 0, .int (xs (n + 2)), .int (xs (n + 1)), .ref 1]) (congrArg (fun z => Value.int z :: [.ref 0, .int (xs (n + 2)), .int (xs (n + 1)), .ref 1]) (nI_add n 3)) ?_
  refine ev_sg (p' := 573) rfl rfl hs (vp_in_nI (by omega) (by omega)) rfl ?_
  refine ev_st (st' := [.int (xs (n + 3)), .int (xs (n + 2)), .int (xs (n + 1)), .ref 1]) (congrArg (fun z => Value.int (xs z) :: [.int (xs (n + 2)), .int (xs (n + 1)), .ref 1]) (nI_clamp (n := n + 3) (by omega))) ?_
  refine ev_x (i := .aload_n 0) (len := 1) (p' := 574) (s' := [.ref 0, .int (xs (n + 3)), .int (xs (n + 2)), .int (xs (n + 1)), .ref 1]) rfl rfl rfl ?_
  refine ev_x (i := .iload 4) (len := 2) (p' := 576) (s' := [.int (nI n), .ref 0, .int (xs (n + 3)), .int (xs (n + 2)), .int (xs (n + 1)), .ref 1]) rfl rfl rfl ?_
  refine ev_x (i := .iconst 4) (len := 1) (p' := 577) (s' := [.int 4, .int (nI n), .ref 0, .int (xs (n + 3)), .int (xs (n + 2)), .int (xs (n + 1)), .ref 1]) rfl rfl rfl ?_
  refine ev_x (i := .iadd) (len := 1) (p' := 578) (s' := [.int ((nI n) + 4), .ref 0, .int (xs (n + 3)), .int (xs (n + 2)), .int (xs (n + 1)), .ref 1]) rfl rfl rfl ?_
  refine ev_st (st' := [.int (nI (n + 4)), .ref 0, .int (xs (n + 3)), .int (xs (n + 2)), .int (xs (n + 1)), .ref 1]) (congrArg (fun z => Value.int z :: [.ref 0, .int (xs (n + 3)), .int (xs (n + 2)), .int (xs (n + 1)), .ref 1]) (nI_add n 4)) ?_
  refine ev_sg (p' := 579) rfl rfl hs (vp_in_nI (by omega) (by omega)) rfl ?_
  refine ev_st (st' := [.int (xs (n + 4)), .int (xs (n + 3)), .int (xs (n + 2)), .int (xs (n + 1)), .ref 1]) (congrArg (fun z => Value.int (xs z) :: [.int (xs (n + 3)), .int (xs (n + 2)), .int (xs (n + 1)), .ref 1]) (nI_clamp (n := n + 4) (by omega))) ?_
  refine ev_cv (d := d + 4) (As := [.int (xs (n + 1)), .int (xs (n + 2)), .int (xs (n + 3)), .int (xs (n + 4))]) (a := 1) (p' := 582) rfl rfl rfl ly_1 rfl rfl rfl rfl rfl rfl rfl (lz_164 (d := d + 0) (c_1 := c_1) (c_2 := c_2) (c_3 := c_3)) ?_
  refine ev_st (st' := [.int (-1)]) rfl ?_
  refine ev_x (i := .aload_n 2) (len := 1) (p' := 583) (s' := [.ref 66, .int (-1)]) rfl rfl rfl ?_
  refine ev_x (i := .aload_n 0) (len := 1) (p' := 584) (s' := [.ref 0, .ref 66, .int (-1)]) rfl rfl rfl ?_
  refine ev_x (i := .iload 4) (len := 2) (p' := 586) (s' := [.int (nI n), .ref 0, .ref 66, .int (-1)]) rfl rfl rfl ?_
  refine ev_x (i := .iconst 1) (len := 1) (p' := 587) (s' := [.int 1, .int (nI n), .ref 0, .ref 66, .int (-1)]) rfl rfl rfl ?_
  refine ev_x (i := .iadd) (len := 1) (p' := 588) (s' := [.int ((nI n) + 1), .ref 0, .ref 66, .int (-1)]) rfl rfl rfl ?_
  refine ev_st (st' := [.int (nI (n + 1)), .ref 0, .ref 66, .int (-1)]) (congrArg (fun z => Value.int z :: [.ref 0, .ref 66, .int (-1)]) (nI_add n 1)) ?_
  refine ev_sg (p' := 589) rfl rfl hs (vp_in_nI (by omega) (by omega)) rfl ?_
  refine ev_st (st' := [.int (xs (n + 1)), .ref 66, .int (-1)]) (congrArg (fun z => Value.int (xs z) :: [.ref 66, .int (-1)]) (nI_clamp (n := n + 1) (by omega))) ?_
  refine ev_x (i := .aload_n 0) (len := 1) (p' := 590) (s' := [.ref 0, .int (xs (n + 1)), .ref 66, .int (-1)]) rfl rfl rfl ?_
  refine ev_x (i := .iload 4) (len := 2) (p' := 592) (s' := [.int (nI n), .ref 0, .int (xs (n + 1)), .ref 66, .int (-1)]) rfl rfl rfl ?_
  refine ev_x (i := .iconst 2) (len := 1) (p' := 593) (s' := [.int 2, .int (nI n), .ref 0, .int (xs (n + 1)), .ref 66, .int (-1)]) rfl rfl rfl ?_
  refine ev_x (i := .iadd) (len := 1) (p' := 594) (s' := [.int ((nI n) + 2), .ref 0, .int (xs (n + 1)), .ref 66, .int (-1)]) rfl rfl rfl ?_
  refine ev_st (st' := [.int (nI (n + 2)), .ref 0, .int (xs (n + 1)), .ref 66, .int (-1)]) (congrArg (fun z => Value.int z :: [.ref 0, .int (xs (n + 1)), .ref 66, .int (-1)]) (nI_add n 2)) ?_
  refine ev_sg (p' := 595) rfl rfl hs (vp_in_nI (by omega) (by omega)) rfl ?_
  refine ev_st (st' := [.int (xs (n + 2)), .int (xs (n + 1)), .ref 66, .int (-1)]) (congrArg (fun z => Value.int (xs z) :: [.int (xs (n + 1)), .ref 66, .int (-1)]) (nI_clamp (n := n + 2) (by omega))) ?_
  refine ev_x (i := .aload_n 0) (len := 1) (p' := 596) (s' := [.ref 0, .int (xs (n + 2)), .int (xs (n + 1)), .ref 66, .int (-1)]) rfl rfl rfl ?_
  refine ev_x (i := .iload 4) (len := 2) (p' := 598) (s' := [.int (nI n), .ref 0, .int (xs (n + 2)), .int (xs (n + 1)), .ref 66, .int (-1)]) rfl rfl rfl ?_
  refine ev_x (i := .iconst 3) (len := 1) (p' := 599) (s' := [.int 3, .int (nI n), .ref 0, .int (xs (n + 2)), .int (xs (n + 1)), .ref 66, .int (-1)]) rfl rfl rfl ?_
  refine ev_x (i := .iadd) (len := 1) (p' := 600) (s' := [.int ((nI n) + 3), .ref 0, .int (xs (n + 2)), .int (xs (n + 1)), .ref 66, .int (-1)]) rfl rfl rfl ?_
  refine ev_st (st' := [.int (nI (n + 3)), .ref 0, .int (xs (n + 2)), .int (xs (n + 1)), .ref 66, .int (-1)]) (congrArg (fun z => Value.int z :: [.ref 0, .int (xs (n + 2)), .int (xs (n + 1)), .ref 66, .int (-1)]) (nI_add n 3)) ?_
  refine ev_sg (p' := 601) rfl rfl hs (vp_in_nI (by omega) (by omega)) rfl ?_
  refine ev_st (st' := [.int (xs (n + 3)), .int (xs (n + 2)), .int (xs (n + 1)), .ref 66, .int (-1)]) (congrArg (fun z => Value.int (xs z) :: [.int (xs (n + 2)), .int (xs (n + 1)), .ref 66, .int (-1)]) (nI_clamp (n := n + 3) (by omega))) ?_
  refine ev_x (i := .aload_n 0) (len := 1) (p' := 602) (s' := [.ref 0, .int (xs (n + 3)), .int (xs (n + 2)), .int (xs (n + 1)), .ref 66, .int (-1)]) rfl rfl rfl ?_
  refine ev_x (i := .iload 4) (len := 2) (p' := 604) (s' := [.int (nI n), .ref 0, .int (xs (n + 3)), .int (xs (n + 2)), .int (xs (n + 1)), .ref 66, .int (-1)]) rfl rfl rfl ?_
  refine ev_x (i := .iconst 4) (len := 1) (p' := 605) (s' := [.int 4, .int (nI n), .ref 0, .int (xs (n + 3)), .int (xs (n + 2)), .int (xs (n + 1)), .ref 66, .int (-1)]) rfl rfl rfl ?_
  refine ev_x (i := .iadd) (len := 1) (p' := 606) (s' := [.int ((nI n) + 4), .ref 0, .int (xs (n + 3)), .int (xs (n + 2)), .int (xs (n + 1)), .ref 66, .int (-1)]) rfl rfl rfl ?_
  refine ev_st (st' := [.int (nI (n + 4)), .ref 0, .int (xs (n + 3)), .int (xs (n + 2)), .int (xs (n + 1)), .ref 66, .int (-1)]) (congrArg (fun z => Value.int z :: [.ref 0, .int (xs (n + 3)), .int (xs (n + 2)), .int (xs (n + 1)), .ref 66, .int (-1)]) (nI_add n 4)) ?_
  refine ev_sg (p' := 607) rfl rfl hs (vp_in_nI (by omega) (by omega)) rfl ?_
  refine ev_st (st' := [.int (xs (n + 4)), .int (xs (n + 3)), .int (xs (n + 2)), .int (xs (n + 1)), .ref 66, .int (-1)]) (congrArg (fun z => Value.int (xs z) :: [.int (xs (n + 3)), .int (xs (n + 2)), .int (xs (n + 1)), .ref 66, .int (-1)]) (nI_clamp (n := n + 4) (by omega))) ?_
  refine ev_cv (d := d + 4) (As := [.int (xs (n + 1)), .int (xs (n + 2)), .int (xs (n + 3)), .int (xs (n + 4))]) (a := 66) (p' := 610) rfl rfl rfl ly_66 rfl rfl rfl rfl rfl rfl rfl (lz_167 (d := d + 1) (c_1 := c_1) (c_2 := c_4) (c_3 := c_3)) ?_
  refine ev_st (st' := [.int (-1), .int (-1)]) rfl ?_
  refine ev_b2 (t := 615) (p' := 615) rfl rfl rfl (by decide) ?_
  exact k
set_option maxHeartbeats 4000000 in
set_option maxRecDepth 100000 in
/-- GameText$Graph.branchAt(III)I -/
theorem lz_171 {d : Nat} {σ : st_S} {y_1 y_2 y_3 : Int32} (c_1 : ¬ (y_1 < 0)) (c_2 : ¬ ((σ.1 52 10) ≤ y_1)) (c_3 : ¬ (y_2 < 0)) (c_4 : vp_in (y_1 + 1) (gN σ 56)) (c_5 : vp_in y_1 (gN σ 56)) (c_6 : ¬ (y_2 < ((gE σ 56 (((y_1 + 1)).toNatClampNeg)) - (gE σ 56 ((y_1).toNatClampNeg))))) : vz_ev P0 (d + 3) 103 0 (lv_args 0 [.ref 52, .int y_1, .int y_2, .int y_3]) [] (hp σ) (.inl (some (.int (-1))), hp (σ)) := by
  refine ev_x (i := .aload_n 0) (len := 1) (p' := 1) (s' := [.ref 52]) rfl rfl rfl ?_
  refine ev_x (i := .iload_n 1) (len := 1) (p' := 2) (s' := [.int y_1, .ref 52]) rfl rfl rfl ?_
  refine ev_x (i := .iload_n 2) (len := 1) (p' := 3) (s' := [.int y_2, .int y_1, .ref 52]) rfl rfl rfl ?_
  refine ev_cv (d := d + 2) (As := [.int y_1, .int y_2]) (a := 52) (p' := 6) rfl rfl rfl ly_52 rfl rfl rfl rfl rfl rfl rfl (lz_95 (d := d + 0) (c_1 := c_1) (c_2 := c_2) (c_3 := c_3) (c_4 := c_4) (c_5 := c_5) (c_6 := c_6)) ?_
  refine ev_st (st' := [.int (-1)]) rfl ?_
  refine ev_x (i := .istore 4) (len := 2) (p' := 8) (s' := []) (l' := [(4, .int (-1)), (0, .ref 52), (1, .int y_1), (2, .int y_2), (3, .int y_3)]) rfl rfl rfl ?_
  refine ev_x (i := .iload 4) (len := 2) (p' := 10) (s' := [.int (-1)]) rfl rfl rfl ?_
  refine ev_b0 (t := 38) (p' := 38) rfl rfl rfl (by decide) ?_
  refine ev_x (i := .iconst (-1)) (len := 1) (p' := 39) (s' := [.int (-1)]) rfl rfl rfl ?_
  exact ev_iret rfl rfl rfl rfl
set_option maxHeartbeats 4000000 in
set_option maxRecDepth 100000 in
/-- GameText.branch(IIII)I -/
theorem lz_172 {d : Nat} {σ : st_S} {y_1 y_2 y_3 y_4 : Int32} (c_1 : ¬ (y_1 < 0)) (c_2 : ¬ ((σ.1 52 10) ≤ y_1)) (c_3 : ¬ (y_2 < 0)) (c_4 : vp_in (y_1 + 1) (gN σ 56)) (c_5 : vp_in y_1 (gN σ 56)) (c_6 : ¬ (y_2 < ((gE σ 56 (((y_1 + 1)).toNatClampNeg)) - (gE σ 56 ((y_1).toNatClampNeg))))) : vz_ev P0 (d + 4) 102 0 (lv_args 0 [.ref 1, .int y_1, .int y_2, .int y_3, .int y_4]) [] (hp σ) (.inl (some (.int (-1))), hp (σ)) := by
  refine ev_x (i := .aload_n 0) (len := 1) (p' := 1) (s' := [.ref 1]) rfl rfl rfl ?_
  refine ev_gc (p' := 4) (v := 52) rfl rfl rfl ly_1 rfl rfl ?_
  refine ev_x (i := .iload_n 1) (len := 1) (p' := 5) (s' := [.int y_1, .ref 52]) rfl rfl rfl ?_
  refine ev_x (i := .iload_n 2) (len := 1) (p' := 6) (s' := [.int y_2, .int y_1, .ref 52]) rfl rfl rfl ?_
  refine ev_x (i := .iload_n 3) (len := 1) (p' := 7) (s' := [.int y_3, .int y_2, .int y_1, .ref 52]) rfl rfl rfl ?_
  refine ev_cv (d := d + 3) (As := [.int y_1, .int y_2, .int y_3]) (a := 52) (p' := 10) rfl rfl rfl ly_52 rfl rfl rfl rfl rfl rfl rfl (lz_171 (d := d + 0) (c_1 := c_1) (c_2 := c_2) (c_3 := c_3) (c_4 := c_4) (c_5 := c_5) (c_6 := c_6)) ?_
  refine ev_st (st' := [.int (-1)]) rfl ?_
  refine ev_x (i := .istore 5) (len := 2) (p' := 12) (s' := []) (l' := [(5, .int (-1)), (0, .ref 1), (1, .int y_1), (2, .int y_2), (3, .int y_3), (4, .int y_4)]) rfl rfl rfl ?_
  refine ev_x (i := .iload 5) (len := 2) (p' := 14) (s' := [.int (-1)]) rfl rfl rfl ?_
  refine ev_b0 (t := 19) (p' := 17) rfl rfl rfl (by decide) ?_
  refine ev_x (i := .iconst (-1)) (len := 1) (p' := 18) (s' := [.int (-1)]) rfl rfl rfl ?_
  exact ev_iret rfl rfl rfl rfl
set_option maxHeartbeats 4000000 in
set_option maxRecDepth 100000 in
/-- GameTextModel.branch(IIII)I -/
theorem lz_175 {d : Nat} {σ : st_S} {y_1 y_2 y_3 y_4 : Int32} (c_1 : ¬ (y_1 < 0)) (c_2 : ¬ ((σ.1 66 29) ≤ y_1)) (c_3 : ¬ (y_2 < 0)) (c_4 : vp_in y_1 (gN σ 174)) (c_5 : (gE σ 174 ((y_1).toNatClampNeg)) ≤ y_2) : vz_ev P0 (d + 3) 229 0 (lv_args 0 [.ref 66, .int y_1, .int y_2, .int y_3, .int y_4]) [] (hp σ) (.inl (some (.int (-1))), hp (st_i (σ) 66 0 0)) := by
  refine ev_x (i := .aload_n 0) (len := 1) (p' := 1) (s' := [.ref 66]) rfl rfl rfl ?_
  refine ev_x (i := .iload_n 1) (len := 1) (p' := 2) (s' := [.int y_1, .ref 66]) rfl rfl rfl ?_
  refine ev_x (i := .iload_n 2) (len := 1) (p' := 3) (s' := [.int y_2, .int y_1, .ref 66]) rfl rfl rfl ?_
  refine ev_cv (d := d + 2) (As := [.int y_1, .int y_2]) (a := 66) (p' := 6) rfl rfl rfl ly_66 rfl rfl rfl rfl rfl rfl rfl (lz_98 (d := d + 0) (c_1 := c_1) (c_2 := c_2) (c_3 := c_3) (c_4 := c_4) (c_5 := c_5)) ?_
  refine ev_st (st' := [.int 0]) rfl ?_
  refine ev_b0 (t := 43) (p' := 43) rfl rfl rfl (by decide) ?_
  refine ev_x (i := .iconst (-1)) (len := 1) (p' := 44) (s' := [.int (-1)]) rfl rfl rfl ?_
  exact ev_iret rfl rfl rfl rfl
set_option maxHeartbeats 4000000 in
set_option maxRecDepth 100000 in
/-- GameTextLaw.law([I)Z -/
theorem lw_13h_a0 {d : Nat} {σ : st_S} {q : vz_O × vz_H} {n L : Nat} {xs : Nat → Int32} (hs : gF σ 0 = .inl (0, L, .inl xs)) (hn : n + 6 ≤ L) (hL : L ≤ 3072) (c_1 : ¬ ((xs (n + 1)) < 0)) (c_2 : ¬ ((σ.1 52 10) ≤ (xs (n + 1)))) (c_3 : ¬ ((xs (n + 2)) < 0)) (c_4 : vp_in ((xs (n + 1)) + 1) (gN σ 56)) (c_5 : vp_in (xs (n + 1)) (gN σ 56)) (c_6 : ¬ ((xs (n + 2)) < ((gE σ 56 ((((xs (n + 1)) + 1)).toNatClampNeg)) - (gE σ 56 (((xs (n + 1))).toNatClampNeg))))) (c_7 : ¬ ((σ.1 66 29) ≤ (xs (n + 1)))) (c_8 : vp_in (xs (n + 1)) (gN σ 174)) (c_9 : (gE σ 174 (((xs (n + 1))).toNatClampNeg)) ≤ (xs (n + 2))) (k : vz_ev P0 (d + 5) 0 615 [(4, .int (nI n)), (3, .ref 187), (2, .ref 66), (1, .ref 1), (0, .ref 0)] [] (hp (st_i (σ) 66 0 0)) q) : vz_ev P0 (d + 5) 0 554 [(4, .int (nI n)), (3, .ref 187), (2, .ref 66), (1, .ref 1), (0, .ref 0)] [] (hp σ) q := by
  refine ev_x (i := .aload_n 1) (len := 1) (p' := 555) (s' := [.ref 1]) rfl rfl rfl ?_
  refine ev_x (i := .aload_n 0) (len := 1) (p' := 556) (s' := [.ref 0, .ref 1]) rfl rfl rfl ?_
  refine ev_x (i := .iload 4) (len := 2) (p' := 558) (s' := [.int (nI n), .ref 0, .ref 1]) rfl rfl rfl ?_
  refine ev_x (i := .iconst 1) (len := 1) (p' := 559) (s' := [.int 1, .int (nI n), .ref 0, .ref 1]) rfl rfl rfl ?_
  refine ev_x (i := .iadd) (len := 1) (p' := 560) (s' := [.int ((nI n) + 1), .ref 0, .ref 1]) rfl rfl rfl ?_
  refine ev_st (st' := [.int (nI (n + 1)), .ref 0, .ref 1]) (congrArg (fun z => Value.int z :: [.ref 0, .ref 1]) (nI_add n 1)) ?_
  refine ev_sg (p' := 561) rfl rfl hs (vp_in_nI (by omega) (by omega)) rfl ?_
  refine ev_st (st' := [.int (xs (n + 1)), .ref 1]) (congrArg (fun z => Value.int (xs z) :: [.ref 1]) (nI_clamp (n := n + 1) (by omega))) ?_
  refine ev_x (i := .aload_n 0) (len := 1) (p' := 562) (s' := [.ref 0, .int (xs (n + 1)), .ref 1]) rfl rfl rfl ?_
  refine ev_x (i := .iload 4) (len := 2) (p' := 564) (s' := [.int (nI n), .ref 0, .int (xs (n + 1)), .ref 1]) rfl rfl rfl ?_
  refine ev_x (i := .iconst 2) (len := 1) (p' := 565) (s' := [.int 2, .int (nI n), .ref 0, .int (xs (n + 1)), .ref 1]) rfl rfl rfl ?_
  refine ev_x (i := .iadd) (len := 1) (p' := 566) (s' := [.int ((nI n) + 2), .ref 0, .int (xs (n + 1)), .ref 1]) rfl rfl rfl ?_
  refine ev_st (st' := [.int (nI (n + 2)), .ref 0, .int (xs (n + 1)), .ref 1]) (congrArg (fun z => Value.int z :: [.ref 0, .int (xs (n + 1)), .ref 1]) (nI_add n 2)) ?_
  refine ev_sg (p' := 567) rfl rfl hs (vp_in_nI (by omega) (by omega)) rfl ?_
  refine ev_st (st' := [.int (xs (n + 2)), .int (xs (n + 1)), .ref 1]) (congrArg (fun z => Value.int (xs z) :: [.int (xs (n + 1)), .ref 1]) (nI_clamp (n := n + 2) (by omega))) ?_
  refine ev_x (i := .aload_n 0) (len := 1) (p' := 568) (s' := [.ref 0, .int (xs (n + 2)), .int (xs (n + 1)), .ref 1]) rfl rfl rfl ?_
  refine ev_x (i := .iload 4) (len := 2) (p' := 570) (s' := [.int (nI n), .ref 0, .int (xs (n + 2)), .int (xs (n + 1)), .ref 1]) rfl rfl rfl ?_
  refine ev_x (i := .iconst 3) (len := 1) (p' := 571) (s' := [.int 3, .int (nI n), .ref 0, .int (xs (n + 2)), .int (xs (n + 1)), .ref 1]) rfl rfl rfl ?_
  refine ev_x (i := .iadd) (len := 1) (p' := 572) (s' := [.int ((nI n) + 3), .ref 0, .int (xs (n + 2)), .int (xs (n + 1)), .ref 1]) rfl rfl rfl ?_
  refine ev_st (st' := [.int (nI (n + 3)), .ref 0, .int (xs (n + 2)), .int (xs (n + 1)), .ref 1]) (congrArg (fun z => Value.int z :: [.ref 0, .int (xs (n + 2)), .int (xs (n + 1)), .ref 1]) (nI_add n 3)) ?_
  refine ev_sg (p' := 573) rfl rfl hs (vp_in_nI (by omega) (by omega)) rfl ?_
  refine ev_st (st' := [.int (xs (n + 3)), .int (xs (n + 2)), .int (xs (n + 1)), .ref 1]) (congrArg (fun z => Value.int (xs z) :: [.int (xs (n + 2)), .int (xs (n + 1)), .ref 1]) (nI_clamp (n := n + 3) (by omega))) ?_
  refine ev_x (i := .aload_n 0) (len := 1) (p' := 574) (s' := [.ref 0, .int (xs (n + 3)), .int (xs (n + 2)), .int (xs (n + 1)), .ref 1]) rfl rfl rfl ?_
  refine ev_x (i := .iload 4) (len := 2) (p' := 576) (s' := [.int (nI n), .ref 0, .int (xs (n + 3)), .int (xs (n + 2)), .int (xs (n + 1)), .ref 1]) rfl rfl rfl ?_
  refine ev_x (i := .iconst 4) (len := 1) (p' := 577) (s' := [.int 4, .int (nI n), .ref 0, .int (xs (n + 3)), .int (xs (n + 2)), .int (xs (n + 1)), .ref 1]) rfl rfl rfl ?_
  refine ev_x (i := .iadd) (len := 1) (p' := 578) (s' := [.int ((nI n) + 4), .ref 0, .int (xs (n + 3)), .int (xs (n + 2)), .int (xs (n + 1)), .ref 1]) rfl rfl rfl ?_
  refine ev_st (st' := [.int (nI (n + 4)), .ref 0, .int (xs (n + 3)), .int (xs (n + 2)), .int (xs (n + 1)), .ref 1]) (congrArg (fun z => Value.int z :: [.ref 0, .int (xs (n + 3)), .int (xs (n + 2)), .int (xs (n + 1)), .ref 1]) (nI_add n 4)) ?_
  refine ev_sg (p' := 579) rfl rfl hs (vp_in_nI (by omega) (by omega)) rfl ?_
  refine ev_st (st' := [.int (xs (n + 4)), .int (xs (n + 3)), .int (xs (n + 2)), .int (xs (n + 1)), .ref 1]) (congrArg (fun z => Value.int (xs z) :: [.int (xs (n + 3)), .int (xs (n + 2)), .int (xs (n + 1)), .ref 1]) (nI_clamp (n := n + 4) (by omega))) ?_
  refine ev_cv (d := d + 4) (As := [.int (xs (n + 1)), .int (xs (n + 2)), .int (xs (n + 3)), .int (xs (n + 4))]) (a := 1) (p' := 582) rfl rfl rfl ly_1 rfl rfl rfl rfl rfl rfl rfl (lz_172 (d := d + 0) (c_1 := c_1) (c_2 := c_2) (c_3 := c_3) (c_4 := c_4) (c_5 := c_5) (c_6 := c_6)) ?_
  refine ev_st (st' := [.int (-1)]) rfl ?_
  refine ev_x (i := .aload_n 2) (len := 1) (p' := 583) (s' := [.ref 66, .int (-1)]) rfl rfl rfl ?_
  refine ev_x (i := .aload_n 0) (len := 1) (p' := 584) (s' := [.ref 0, .ref 66, .int (-1)]) rfl rfl rfl ?_
  refine ev_x (i := .iload 4) (len := 2) (p' := 586) (s' := [.int (nI n), .ref 0, .ref 66, .int (-1)]) rfl rfl rfl ?_
  refine ev_x (i := .iconst 1) (len := 1) (p' := 587) (s' := [.int 1, .int (nI n), .ref 0, .ref 66, .int (-1)]) rfl rfl rfl ?_
  refine ev_x (i := .iadd) (len := 1) (p' := 588) (s' := [.int ((nI n) + 1), .ref 0, .ref 66, .int (-1)]) rfl rfl rfl ?_
  refine ev_st (st' := [.int (nI (n + 1)), .ref 0, .ref 66, .int (-1)]) (congrArg (fun z => Value.int z :: [.ref 0, .ref 66, .int (-1)]) (nI_add n 1)) ?_
  refine ev_sg (p' := 589) rfl rfl hs (vp_in_nI (by omega) (by omega)) rfl ?_
  refine ev_st (st' := [.int (xs (n + 1)), .ref 66, .int (-1)]) (congrArg (fun z => Value.int (xs z) :: [.ref 66, .int (-1)]) (nI_clamp (n := n + 1) (by omega))) ?_
  refine ev_x (i := .aload_n 0) (len := 1) (p' := 590) (s' := [.ref 0, .int (xs (n + 1)), .ref 66, .int (-1)]) rfl rfl rfl ?_
  refine ev_x (i := .iload 4) (len := 2) (p' := 592) (s' := [.int (nI n), .ref 0, .int (xs (n + 1)), .ref 66, .int (-1)]) rfl rfl rfl ?_
  refine ev_x (i := .iconst 2) (len := 1) (p' := 593) (s' := [.int 2, .int (nI n), .ref 0, .int (xs (n + 1)), .ref 66, .int (-1)]) rfl rfl rfl ?_
  refine ev_x (i := .iadd) (len := 1) (p' := 594) (s' := [.int ((nI n) + 2), .ref 0, .int (xs (n + 1)), .ref 66, .int (-1)]) rfl rfl rfl ?_
  refine ev_st (st' := [.int (nI (n + 2)), .ref 0, .int (xs (n + 1)), .ref 66, .int (-1)]) (congrArg (fun z => Value.int z :: [.ref 0, .int (xs (n + 1)), .ref 66, .int (-1)]) (nI_add n 2)) ?_
  refine ev_sg (p' := 595) rfl rfl hs (vp_in_nI (by omega) (by omega)) rfl ?_
  refine ev_st (st' := [.int (xs (n + 2)), .int (xs (n + 1)), .ref 66, .int (-1)]) (congrArg (fun z => Value.int (xs z) :: [.int (xs (n + 1)), .ref 66, .int (-1)]) (nI_clamp (n := n + 2) (by omega))) ?_
  refine ev_x (i := .aload_n 0) (len := 1) (p' := 596) (s' := [.ref 0, .int (xs (n + 2)), .int (xs (n + 1)), .ref 66, .int (-1)]) rfl rfl rfl ?_
  refine ev_x (i := .iload 4) (len := 2) (p' := 598) (s' := [.int (nI n), .ref 0, .int (xs (n + 2)), .int (xs (n + 1)), .ref 66, .int (-1)]) rfl rfl rfl ?_
  refine ev_x (i := .iconst 3) (len := 1) (p' := 599) (s' := [.int 3, .int (nI n), .ref 0, .int (xs (n + 2)), .int (xs (n + 1)), .ref 66, .int (-1)]) rfl rfl rfl ?_
  refine ev_x (i := .iadd) (len := 1) (p' := 600) (s' := [.int ((nI n) + 3), .ref 0, .int (xs (n + 2)), .int (xs (n + 1)), .ref 66, .int (-1)]) rfl rfl rfl ?_
  refine ev_st (st' := [.int (nI (n + 3)), .ref 0, .int (xs (n + 2)), .int (xs (n + 1)), .ref 66, .int (-1)]) (congrArg (fun z => Value.int z :: [.ref 0, .int (xs (n + 2)), .int (xs (n + 1)), .ref 66, .int (-1)]) (nI_add n 3)) ?_
  refine ev_sg (p' := 601) rfl rfl hs (vp_in_nI (by omega) (by omega)) rfl ?_
  refine ev_st (st' := [.int (xs (n + 3)), .int (xs (n + 2)), .int (xs (n + 1)), .ref 66, .int (-1)]) (congrArg (fun z => Value.int (xs z) :: [.int (xs (n + 2)), .int (xs (n + 1)), .ref 66, .int (-1)]) (nI_clamp (n := n + 3) (by omega))) ?_
  refine ev_x (i := .aload_n 0) (len := 1) (p' := 602) (s' := [.ref 0, .int (xs (n + 3)), .int (xs (n + 2)), .int (xs (n + 1)), .ref 66, .int (-1)]) rfl rfl rfl ?_
  refine ev_x (i := .iload 4) (len := 2) (p' := 604) (s' := [.int (nI n), .ref 0, .int (xs (n + 3)), .int (xs (n + 2)), .int (xs (n + 1)), .ref 66, .int (-1)]) rfl rfl rfl ?_
  refine ev_x (i := .iconst 4) (len := 1) (p' := 605) (s' := [.int 4, .int (nI n), .ref 0, .int (xs (n + 3)), .int (xs (n + 2)), .int (xs (n + 1)), .ref 66, .int (-1)]) rfl rfl rfl ?_
  refine ev_x (i := .iadd) (len := 1) (p' := 606) (s' := [.int ((nI n) + 4), .ref 0, .int (xs (n + 3)), .int (xs (n + 2)), .int (xs (n + 1)), .ref 66, .int (-1)]) rfl rfl rfl ?_
  refine ev_st (st' := [.int (nI (n + 4)), .ref 0, .int (xs (n + 3)), .int (xs (n + 2)), .int (xs (n + 1)), .ref 66, .int (-1)]) (congrArg (fun z => Value.int z :: [.ref 0, .int (xs (n + 3)), .int (xs (n + 2)), .int (xs (n + 1)), .ref 66, .int (-1)]) (nI_add n 4)) ?_
  refine ev_sg (p' := 607) rfl rfl hs (vp_in_nI (by omega) (by omega)) rfl ?_
  refine ev_st (st' := [.int (xs (n + 4)), .int (xs (n + 3)), .int (xs (n + 2)), .int (xs (n + 1)), .ref 66, .int (-1)]) (congrArg (fun z => Value.int (xs z) :: [.int (xs (n + 3)), .int (xs (n + 2)), .int (xs (n + 1)), .ref 66, .int (-1)]) (nI_clamp (n := n + 4) (by omega))) ?_
  refine ev_cv (d := d + 4) (As := [.int (xs (n + 1)), .int (xs (n + 2)), .int (xs (n + 3)), .int (xs (n + 4))]) (a := 66) (p' := 610) rfl rfl rfl ly_66 rfl rfl rfl rfl rfl rfl rfl (lz_175 (d := d + 1) (c_1 := c_1) (c_2 := c_7) (c_3 := c_3) (c_4 := c_8) (c_5 := c_9)) ?_
  refine ev_st (st' := [.int (-1), .int (-1)]) rfl ?_
  refine ev_b2 (t := 615) (p' := 615) rfl rfl rfl (by decide) ?_
  exact k
set_option maxHeartbeats 4000000 in
set_option maxRecDepth 100000 in
/-- GameText$Graph.branchAt(III)I -/
theorem lz_179 {d : Nat} {σ : st_S} {y_1 y_2 y_3 : Int32} (c_1 : ¬ (y_1 < 0)) (c_2 : ¬ ((σ.1 52 10) ≤ y_1)) (c_3 : ¬ (y_2 < 0)) (c_4 : vp_in (y_1 + 1) (gN σ 56)) (c_5 : vp_in y_1 (gN σ 56)) (c_6 : y_2 < ((gE σ 56 (((y_1 + 1)).toNatClampNeg)) - (gE σ 56 ((y_1).toNatClampNeg)))) (c_7 : ¬ (((gE σ 56 ((y_1).toNatClampNeg)) + y_2) < 0)) (c_8 : y_3 < 0) : vz_ev P0 (d + 3) 103 0 (lv_args 0 [.ref 52, .int y_1, .int y_2, .int y_3]) [] (hp σ) (.inl (some (.int (-1))), hp (σ)) := by
  refine ev_x (i := .aload_n 0) (len := 1) (p' := 1) (s' := [.ref 52]) rfl rfl rfl ?_
  refine ev_x (i := .iload_n 1) (len := 1) (p' := 2) (s' := [.int y_1, .ref 52]) rfl rfl rfl ?_
  refine ev_x (i := .iload_n 2) (len := 1) (p' := 3) (s' := [.int y_2, .int y_1, .ref 52]) rfl rfl rfl ?_
  refine ev_cv (d := d + 2) (As := [.int y_1, .int y_2]) (a := 52) (p' := 6) rfl rfl rfl ly_52 rfl rfl rfl rfl rfl rfl rfl (lz_102 (d := d + 0) (c_1 := c_1) (c_2 := c_2) (c_3 := c_3) (c_4 := c_4) (c_5 := c_5) (c_6 := c_6)) ?_
  refine ev_st (st' := [.int ((gE σ 56 ((y_1).toNatClampNeg)) + y_2)]) rfl ?_
  refine ev_x (i := .istore 4) (len := 2) (p' := 8) (s' := []) (l' := [(4, .int ((gE σ 56 ((y_1).toNatClampNeg)) + y_2)), (0, .ref 52), (1, .int y_1), (2, .int y_2), (3, .int y_3)]) rfl rfl rfl ?_
  refine ev_x (i := .iload 4) (len := 2) (p' := 10) (s' := [.int ((gE σ 56 ((y_1).toNatClampNeg)) + y_2)]) rfl rfl rfl ?_
  refine ev_b0 (t := 38) (p' := 13) rfl rfl rfl (if_neg c_7) ?_
  refine ev_x (i := .iload_n 3) (len := 1) (p' := 14) (s' := [.int y_3]) rfl rfl rfl ?_
  refine ev_b0 (t := 38) (p' := 38) rfl rfl rfl (if_pos c_8) ?_
  refine ev_x (i := .iconst (-1)) (len := 1) (p' := 39) (s' := [.int (-1)]) rfl rfl rfl ?_
  exact ev_iret rfl rfl rfl rfl
set_option maxHeartbeats 4000000 in
set_option maxRecDepth 100000 in
/-- GameText.branch(IIII)I -/
theorem lz_180 {d : Nat} {σ : st_S} {y_1 y_2 y_3 y_4 : Int32} (c_1 : ¬ (y_1 < 0)) (c_2 : ¬ ((σ.1 52 10) ≤ y_1)) (c_3 : ¬ (y_2 < 0)) (c_4 : vp_in (y_1 + 1) (gN σ 56)) (c_5 : vp_in y_1 (gN σ 56)) (c_6 : y_2 < ((gE σ 56 (((y_1 + 1)).toNatClampNeg)) - (gE σ 56 ((y_1).toNatClampNeg)))) (c_7 : ¬ (((gE σ 56 ((y_1).toNatClampNeg)) + y_2) < 0)) (c_8 : y_3 < 0) : vz_ev P0 (d + 4) 102 0 (lv_args 0 [.ref 1, .int y_1, .int y_2, .int y_3, .int y_4]) [] (hp σ) (.inl (some (.int (-1))), hp (σ)) := by
  refine ev_x (i := .aload_n 0) (len := 1) (p' := 1) (s' := [.ref 1]) rfl rfl rfl ?_
  refine ev_gc (p' := 4) (v := 52) rfl rfl rfl ly_1 rfl rfl ?_
  refine ev_x (i := .iload_n 1) (len := 1) (p' := 5) (s' := [.int y_1, .ref 52]) rfl rfl rfl ?_
  refine ev_x (i := .iload_n 2) (len := 1) (p' := 6) (s' := [.int y_2, .int y_1, .ref 52]) rfl rfl rfl ?_
  refine ev_x (i := .iload_n 3) (len := 1) (p' := 7) (s' := [.int y_3, .int y_2, .int y_1, .ref 52]) rfl rfl rfl ?_
  refine ev_cv (d := d + 3) (As := [.int y_1, .int y_2, .int y_3]) (a := 52) (p' := 10) rfl rfl rfl ly_52 rfl rfl rfl rfl rfl rfl rfl (lz_179 (d := d + 0) (c_1 := c_1) (c_2 := c_2) (c_3 := c_3) (c_4 := c_4) (c_5 := c_5) (c_6 := c_6) (c_7 := c_7) (c_8 := c_8)) ?_
  refine ev_st (st' := [.int (-1)]) rfl ?_
  refine ev_x (i := .istore 5) (len := 2) (p' := 12) (s' := []) (l' := [(5, .int (-1)), (0, .ref 1), (1, .int y_1), (2, .int y_2), (3, .int y_3), (4, .int y_4)]) rfl rfl rfl ?_
  refine ev_x (i := .iload 5) (len := 2) (p' := 14) (s' := [.int (-1)]) rfl rfl rfl ?_
  refine ev_b0 (t := 19) (p' := 17) rfl rfl rfl (by decide) ?_
  refine ev_x (i := .iconst (-1)) (len := 1) (p' := 18) (s' := [.int (-1)]) rfl rfl rfl ?_
  exact ev_iret rfl rfl rfl rfl
set_option maxHeartbeats 4000000 in
set_option maxRecDepth 100000 in
/-- GameTextModel.branch(IIII)I -/
theorem lz_183 {d : Nat} {σ : st_S} {y_1 y_2 y_3 y_4 : Int32} (c_1 : ¬ (y_1 < 0)) (c_2 : ¬ ((σ.1 66 29) ≤ y_1)) (c_3 : ¬ (y_2 < 0)) (c_4 : vp_in y_1 (gN σ 174)) (c_5 : ¬ ((gE σ 174 ((y_1).toNatClampNeg)) ≤ y_2)) (c_6 : y_3 < 0) : vz_ev P0 (d + 3) 229 0 (lv_args 0 [.ref 66, .int y_1, .int y_2, .int y_3, .int y_4]) [] (hp σ) (.inl (some (.int (-1))), hp (st_i (σ) 66 0 0)) := by
  refine ev_x (i := .aload_n 0) (len := 1) (p' := 1) (s' := [.ref 66]) rfl rfl rfl ?_
  refine ev_x (i := .iload_n 1) (len := 1) (p' := 2) (s' := [.int y_1, .ref 66]) rfl rfl rfl ?_
  refine ev_x (i := .iload_n 2) (len := 1) (p' := 3) (s' := [.int y_2, .int y_1, .ref 66]) rfl rfl rfl ?_
  refine ev_cv (d := d + 2) (As := [.int y_1, .int y_2]) (a := 66) (p' := 6) rfl rfl rfl ly_66 rfl rfl rfl rfl rfl rfl rfl (lz_105 (d := d + 0) (c_1 := c_1) (c_2 := c_2) (c_3 := c_3) (c_4 := c_4) (c_5 := c_5)) ?_
  refine ev_st (st' := [.int 1]) rfl ?_
  refine ev_b0 (t := 43) (p' := 9) rfl rfl rfl (by decide) ?_
  refine ev_x (i := .iload_n 3) (len := 1) (p' := 10) (s' := [.int y_3]) rfl rfl rfl ?_
  refine ev_b0 (t := 43) (p' := 43) rfl rfl rfl (if_pos c_6) ?_
  refine ev_x (i := .iconst (-1)) (len := 1) (p' := 44) (s' := [.int (-1)]) rfl rfl rfl ?_
  exact ev_iret rfl rfl rfl rfl
set_option maxHeartbeats 4000000 in
set_option maxRecDepth 100000 in
/-- GameTextLaw.law([I)Z -/
theorem lw_13j_a0 {d : Nat} {σ : st_S} {q : vz_O × vz_H} {n L : Nat} {xs : Nat → Int32} (hs : gF σ 0 = .inl (0, L, .inl xs)) (hn : n + 6 ≤ L) (hL : L ≤ 3072) (c_1 : ¬ ((xs (n + 1)) < 0)) (c_2 : ¬ ((σ.1 52 10) ≤ (xs (n + 1)))) (c_3 : ¬ ((xs (n + 2)) < 0)) (c_4 : vp_in ((xs (n + 1)) + 1) (gN σ 56)) (c_5 : vp_in (xs (n + 1)) (gN σ 56)) (c_6 : (xs (n + 2)) < ((gE σ 56 ((((xs (n + 1)) + 1)).toNatClampNeg)) - (gE σ 56 (((xs (n + 1))).toNatClampNeg)))) (c_7 : ¬ (((gE σ 56 (((xs (n + 1))).toNatClampNeg)) + (xs (n + 2))) < 0)) (c_8 : (xs (n + 3)) < 0) (c_9 : ¬ ((σ.1 66 29) ≤ (xs (n + 1)))) (c_10 : vp_in (xs (n + 1)) (gN σ 174)) (c_11 : ¬ ((gE σ 174 (((xs (n + 1))).toNatClampNeg)) ≤ (xs (n + 2)))) (k : vz_ev P0 (d + 5) 0 615 [(4, .int (nI n)), (3, .ref 187), (2, .ref 66), (1, .ref 1), (0, .ref 0)] [] (hp (st_i (σ) 66 0 0)) q) : vz_ev P0 (d + 5) 0 554 [(4, .int (nI n)), (3, .ref 187), (2, .ref 66), (1, .ref 1), (0, .ref 0)] [] (hp σ) q := by
  refine ev_x (i := .aload_n 1) (len := 1) (p' := 555) (s' := [.ref 1]) rfl rfl rfl ?_
  refine ev_x (i := .aload_n 0) (len := 1) (p' := 556) (s' := [.ref 0, .ref 1]) rfl rfl rfl ?_
  refine ev_x (i := .iload 4) (len := 2) (p' := 558) (s' := [.int (nI n), .ref 0, .ref 1]) rfl rfl rfl ?_
  refine ev_x (i := .iconst 1) (len := 1) (p' := 559) (s' := [.int 1, .int (nI n), .ref 0, .ref 1]) rfl rfl rfl ?_
  refine ev_x (i := .iadd) (len := 1) (p' := 560) (s' := [.int ((nI n) + 1), .ref 0, .ref 1]) rfl rfl rfl ?_
  refine ev_st (st' := [.int (nI (n + 1)), .ref 0, .ref 1]) (congrArg (fun z => Value.int z :: [.ref 0, .ref 1]) (nI_add n 1)) ?_
  refine ev_sg (p' := 561) rfl rfl hs (vp_in_nI (by omega) (by omega)) rfl ?_
  refine ev_st (st' := [.int (xs (n + 1)), .ref 1]) (congrArg (fun z => Value.int (xs z) :: [.ref 1]) (nI_clamp (n := n + 1) (by omega))) ?_
  refine ev_x (i := .aload_n 0) (len := 1) (p' := 562) (s' := [.ref 0, .int (xs (n + 1)), .ref 1]) rfl rfl rfl ?_
  refine ev_x (i := .iload 4) (len := 2) (p' := 564) (s' := [.int (nI n), .ref 0, .int (xs (n + 1)), .ref 1]) rfl rfl rfl ?_
  refine ev_x (i := .iconst 2) (len := 1) (p' := 565) (s' := [.int 2, .int (nI n), .ref 0, .int (xs (n + 1)), .ref 1]) rfl rfl rfl ?_
  refine ev_x (i := .iadd) (len := 1) (p' := 566) (s' := [.int ((nI n) + 2), .ref 0, .int (xs (n + 1)), .ref 1]) rfl rfl rfl ?_
  refine ev_st (st' := [.int (nI (n + 2)), .ref 0, .int (xs (n + 1)), .ref 1]) (congrArg (fun z => Value.int z :: [.ref 0, .int (xs (n + 1)), .ref 1]) (nI_add n 2)) ?_
  refine ev_sg (p' := 567) rfl rfl hs (vp_in_nI (by omega) (by omega)) rfl ?_
  refine ev_st (st' := [.int (xs (n + 2)), .int (xs (n + 1)), .ref 1]) (congrArg (fun z => Value.int (xs z) :: [.int (xs (n + 1)), .ref 1]) (nI_clamp (n := n + 2) (by omega))) ?_
  refine ev_x (i := .aload_n 0) (len := 1) (p' := 568) (s' := [.ref 0, .int (xs (n + 2)), .int (xs (n + 1)), .ref 1]) rfl rfl rfl ?_
  refine ev_x (i := .iload 4) (len := 2) (p' := 570) (s' := [.int (nI n), .ref 0, .int (xs (n + 2)), .int (xs (n + 1)), .ref 1]) rfl rfl rfl ?_
  refine ev_x (i := .iconst 3) (len := 1) (p' := 571) (s' := [.int 3, .int (nI n), .ref 0, .int (xs (n + 2)), .int (xs (n + 1)), .ref 1]) rfl rfl rfl ?_
  refine ev_x (i := .iadd) (len := 1) (p' := 572) (s' := [.int ((nI n) + 3), .ref 0, .int (xs (n + 2)), .int (xs (n + 1)), .ref 1]) rfl rfl rfl ?_
  refine ev_st (st' := [.int (nI (n + 3)), .ref 0, .int (xs (n + 2)), .int (xs (n + 1)), .ref 1]) (congrArg (fun z => Value.int z :: [.ref 0, .int (xs (n + 2)), .int (xs (n + 1)), .ref 1]) (nI_add n 3)) ?_
  refine ev_sg (p' := 573) rfl rfl hs (vp_in_nI (by omega) (by omega)) rfl ?_
  refine ev_st (st' := [.int (xs (n + 3)), .int (xs (n + 2)), .int (xs (n + 1)), .ref 1]) (congrArg (fun z => Value.int (xs z) :: [.int (xs (n + 2)), .int (xs (n + 1)), .ref 1]) (nI_clamp (n := n + 3) (by omega))) ?_
  refine ev_x (i := .aload_n 0) (len := 1) (p' := 574) (s' := [.ref 0, .int (xs (n + 3)), .int (xs (n + 2)), .int (xs (n + 1)), .ref 1]) rfl rfl rfl ?_
  refine ev_x (i := .iload 4) (len := 2) (p' := 576) (s' := [.int (nI n), .ref 0, .int (xs (n + 3)), .int (xs (n + 2)), .int (xs (n + 1)), .ref 1]) rfl rfl rfl ?_
  refine ev_x (i := .iconst 4) (len := 1) (p' := 577) (s' := [.int 4, .int (nI n), .ref 0, .int (xs (n + 3)), .int (xs (n + 2)), .int (xs (n + 1)), .ref 1]) rfl rfl rfl ?_
  refine ev_x (i := .iadd) (len := 1) (p' := 578) (s' := [.int ((nI n) + 4), .ref 0, .int (xs (n + 3)), .int (xs (n + 2)), .int (xs (n + 1)), .ref 1]) rfl rfl rfl ?_
  refine ev_st (st' := [.int (nI (n + 4)), .ref 0, .int (xs (n + 3)), .int (xs (n + 2)), .int (xs (n + 1)), .ref 1]) (congrArg (fun z => Value.int z :: [.ref 0, .int (xs (n + 3)), .int (xs (n + 2)), .int (xs (n + 1)), .ref 1]) (nI_add n 4)) ?_
  refine ev_sg (p' := 579) rfl rfl hs (vp_in_nI (by omega) (by omega)) rfl ?_
  refine ev_st (st' := [.int (xs (n + 4)), .int (xs (n + 3)), .int (xs (n + 2)), .int (xs (n + 1)), .ref 1]) (congrArg (fun z => Value.int (xs z) :: [.int (xs (n + 3)), .int (xs (n + 2)), .int (xs (n + 1)), .ref 1]) (nI_clamp (n := n + 4) (by omega))) ?_
  refine ev_cv (d := d + 4) (As := [.int (xs (n + 1)), .int (xs (n + 2)), .int (xs (n + 3)), .int (xs (n + 4))]) (a := 1) (p' := 582) rfl rfl rfl ly_1 rfl rfl rfl rfl rfl rfl rfl (lz_180 (d := d + 0) (c_1 := c_1) (c_2 := c_2) (c_3 := c_3) (c_4 := c_4) (c_5 := c_5) (c_6 := c_6) (c_7 := c_7) (c_8 := c_8)) ?_
  refine ev_st (st' := [.int (-1)]) rfl ?_
  refine ev_x (i := .aload_n 2) (len := 1) (p' := 583) (s' := [.ref 66, .int (-1)]) rfl rfl rfl ?_
  refine ev_x (i := .aload_n 0) (len := 1) (p' := 584) (s' := [.ref 0, .ref 66, .int (-1)]) rfl rfl rfl ?_
  refine ev_x (i := .iload 4) (len := 2) (p' := 586) (s' := [.int (nI n), .ref 0, .ref 66, .int (-1)]) rfl rfl rfl ?_
  refine ev_x (i := .iconst 1) (len := 1) (p' := 587) (s' := [.int 1, .int (nI n), .ref 0, .ref 66, .int (-1)]) rfl rfl rfl ?_
  refine ev_x (i := .iadd) (len := 1) (p' := 588) (s' := [.int ((nI n) + 1), .ref 0, .ref 66, .int (-1)]) rfl rfl rfl ?_
  refine ev_st (st' := [.int (nI (n + 1)), .ref 0, .ref 66, .int (-1)]) (congrArg (fun z => Value.int z :: [.ref 0, .ref 66, .int (-1)]) (nI_add n 1)) ?_
  refine ev_sg (p' := 589) rfl rfl hs (vp_in_nI (by omega) (by omega)) rfl ?_
  refine ev_st (st' := [.int (xs (n + 1)), .ref 66, .int (-1)]) (congrArg (fun z => Value.int (xs z) :: [.ref 66, .int (-1)]) (nI_clamp (n := n + 1) (by omega))) ?_
  refine ev_x (i := .aload_n 0) (len := 1) (p' := 590) (s' := [.ref 0, .int (xs (n + 1)), .ref 66, .int (-1)]) rfl rfl rfl ?_
  refine ev_x (i := .iload 4) (len := 2) (p' := 592) (s' := [.int (nI n), .ref 0, .int (xs (n + 1)), .ref 66, .int (-1)]) rfl rfl rfl ?_
  refine ev_x (i := .iconst 2) (len := 1) (p' := 593) (s' := [.int 2, .int (nI n), .ref 0, .int (xs (n + 1)), .ref 66, .int (-1)]) rfl rfl rfl ?_
  refine ev_x (i := .iadd) (len := 1) (p' := 594) (s' := [.int ((nI n) + 2), .ref 0, .int (xs (n + 1)), .ref 66, .int (-1)]) rfl rfl rfl ?_
  refine ev_st (st' := [.int (nI (n + 2)), .ref 0, .int (xs (n + 1)), .ref 66, .int (-1)]) (congrArg (fun z => Value.int z :: [.ref 0, .int (xs (n + 1)), .ref 66, .int (-1)]) (nI_add n 2)) ?_
  refine ev_sg (p' := 595) rfl rfl hs (vp_in_nI (by omega) (by omega)) rfl ?_
  refine ev_st (st' := [.int (xs (n + 2)), .int (xs (n + 1)), .ref 66, .int (-1)]) (congrArg (fun z => Value.int (xs z) :: [.int (xs (n + 1)), .ref 66, .int (-1)]) (nI_clamp (n := n + 2) (by omega))) ?_
  refine ev_x (i := .aload_n 0) (len := 1) (p' := 596) (s' := [.ref 0, .int (xs (n + 2)), .int (xs (n + 1)), .ref 66, .int (-1)]) rfl rfl rfl ?_
  refine ev_x (i := .iload 4) (len := 2) (p' := 598) (s' := [.int (nI n), .ref 0, .int (xs (n + 2)), .int (xs (n + 1)), .ref 66, .int (-1)]) rfl rfl rfl ?_
  refine ev_x (i := .iconst 3) (len := 1) (p' := 599) (s' := [.int 3, .int (nI n), .ref 0, .int (xs (n + 2)), .int (xs (n + 1)), .ref 66, .int (-1)]) rfl rfl rfl ?_
  refine ev_x (i := .iadd) (len := 1) (p' := 600) (s' := [.int ((nI n) + 3), .ref 0, .int (xs (n + 2)), .int (xs (n + 1)), .ref 66, .int (-1)]) rfl rfl rfl ?_
  refine ev_st (st' := [.int (nI (n + 3)), .ref 0, .int (xs (n + 2)), .int (xs (n + 1)), .ref 66, .int (-1)]) (congrArg (fun z => Value.int z :: [.ref 0, .int (xs (n + 2)), .int (xs (n + 1)), .ref 66, .int (-1)]) (nI_add n 3)) ?_
  refine ev_sg (p' := 601) rfl rfl hs (vp_in_nI (by omega) (by omega)) rfl ?_
  refine ev_st (st' := [.int (xs (n + 3)), .int (xs (n + 2)), .int (xs (n + 1)), .ref 66, .int (-1)]) (congrArg (fun z => Value.int (xs z) :: [.int (xs (n + 2)), .int (xs (n + 1)), .ref 66, .int (-1)]) (nI_clamp (n := n + 3) (by omega))) ?_
  refine ev_x (i := .aload_n 0) (len := 1) (p' := 602) (s' := [.ref 0, .int (xs (n + 3)), .int (xs (n + 2)), .int (xs (n + 1)), .ref 66, .int (-1)]) rfl rfl rfl ?_
  refine ev_x (i := .iload 4) (len := 2) (p' := 604) (s' := [.int (nI n), .ref 0, .int (xs (n + 3)), .int (xs (n + 2)), .int (xs (n + 1)), .ref 66, .int (-1)]) rfl rfl rfl ?_
  refine ev_x (i := .iconst 4) (len := 1) (p' := 605) (s' := [.int 4, .int (nI n), .ref 0, .int (xs (n + 3)), .int (xs (n + 2)), .int (xs (n + 1)), .ref 66, .int (-1)]) rfl rfl rfl ?_
  refine ev_x (i := .iadd) (len := 1) (p' := 606) (s' := [.int ((nI n) + 4), .ref 0, .int (xs (n + 3)), .int (xs (n + 2)), .int (xs (n + 1)), .ref 66, .int (-1)]) rfl rfl rfl ?_
  refine ev_st (st' := [.int (nI (n + 4)), .ref 0, .int (xs (n + 3)), .int (xs (n + 2)), .int (xs (n + 1)), .ref 66, .int (-1)]) (congrArg (fun z => Value.int z :: [.ref 0, .int (xs (n + 3)), .int (xs (n + 2)), .int (xs (n + 1)), .ref 66, .int (-1)]) (nI_add n 4)) ?_
  refine ev_sg (p' := 607) rfl rfl hs (vp_in_nI (by omega) (by omega)) rfl ?_
  refine ev_st (st' := [.int (xs (n + 4)), .int (xs (n + 3)), .int (xs (n + 2)), .int (xs (n + 1)), .ref 66, .int (-1)]) (congrArg (fun z => Value.int (xs z) :: [.int (xs (n + 3)), .int (xs (n + 2)), .int (xs (n + 1)), .ref 66, .int (-1)]) (nI_clamp (n := n + 4) (by omega))) ?_
  refine ev_cv (d := d + 4) (As := [.int (xs (n + 1)), .int (xs (n + 2)), .int (xs (n + 3)), .int (xs (n + 4))]) (a := 66) (p' := 610) rfl rfl rfl ly_66 rfl rfl rfl rfl rfl rfl rfl (lz_183 (d := d + 1) (c_1 := c_1) (c_2 := c_9) (c_3 := c_3) (c_4 := c_10) (c_5 := c_11) (c_6 := c_8)) ?_
  refine ev_st (st' := [.int (-1), .int (-1)]) rfl ?_
  refine ev_b2 (t := 615) (p' := 615) rfl rfl rfl (by decide) ?_
  exact k
set_option maxHeartbeats 4000000 in
set_option maxRecDepth 100000 in
/-- GameText$Graph.branchAt(III)I -/
theorem lz_187 {d : Nat} {σ : st_S} {y_1 y_2 y_3 : Int32} (c_1 : ¬ (y_1 < 0)) (c_2 : ¬ ((σ.1 52 10) ≤ y_1)) (c_3 : ¬ (y_2 < 0)) (c_4 : vp_in (y_1 + 1) (gN σ 56)) (c_5 : vp_in y_1 (gN σ 56)) (c_6 : y_2 < ((gE σ 56 (((y_1 + 1)).toNatClampNeg)) - (gE σ 56 ((y_1).toNatClampNeg)))) (c_7 : ¬ (((gE σ 56 ((y_1).toNatClampNeg)) + y_2) < 0)) (c_8 : ¬ (y_3 < 0)) (c_9 : vp_in (((gE σ 56 ((y_1).toNatClampNeg)) + y_2) + 1) (gN σ 58)) (c_10 : vp_in ((gE σ 56 ((y_1).toNatClampNeg)) + y_2) (gN σ 58)) (c_11 : ¬ (y_3 < ((gE σ 58 (((((gE σ 56 ((y_1).toNatClampNeg)) + y_2) + 1)).toNatClampNeg)) - (gE σ 58 ((((gE σ 56 ((y_1).toNatClampNeg)) + y_2)).toNatClampNeg))))) : vz_ev P0 (d + 3) 103 0 (lv_args 0 [.ref 52, .int y_1, .int y_2, .int y_3]) [] (hp σ) (.inl (some (.int (-1))), hp (σ)) := by
  refine ev_x (i := .aload_n 0) (len := 1) (p' := 1) (s' := [.ref 52]) rfl rfl rfl ?_
  refine ev_x (i := .iload_n 1) (len := 1) (p' := 2) (s' := [.int y_1, .ref 52]) rfl rfl rfl ?_
  refine ev_x (i := .iload_n 2) (len := 1) (p' := 3) (s' := [.int y_2, .int y_1, .ref 52]) rfl rfl rfl ?_
  refine ev_cv (d := d + 2) (As := [.int y_1, .int y_2]) (a := 52) (p' := 6) rfl rfl rfl ly_52 rfl rfl rfl rfl rfl rfl rfl (lz_102 (d := d + 0) (c_1 := c_1) (c_2 := c_2) (c_3 := c_3) (c_4 := c_4) (c_5 := c_5) (c_6 := c_6)) ?_
  refine ev_st (st' := [.int ((gE σ 56 ((y_1).toNatClampNeg)) + y_2)]) rfl ?_
  refine ev_x (i := .istore 4) (len := 2) (p' := 8) (s' := []) (l' := [(4, .int ((gE σ 56 ((y_1).toNatClampNeg)) + y_2)), (0, .ref 52), (1, .int y_1), (2, .int y_2), (3, .int y_3)]) rfl rfl rfl ?_
  refine ev_x (i := .iload 4) (len := 2) (p' := 10) (s' := [.int ((gE σ 56 ((y_1).toNatClampNeg)) + y_2)]) rfl rfl rfl ?_
  refine ev_b0 (t := 38) (p' := 13) rfl rfl rfl (if_neg c_7) ?_
  refine ev_x (i := .iload_n 3) (len := 1) (p' := 14) (s' := [.int y_3]) rfl rfl rfl ?_
  refine ev_b0 (t := 38) (p' := 17) rfl rfl rfl (if_neg c_8) ?_
  refine ev_x (i := .iload_n 3) (len := 1) (p' := 18) (s' := [.int y_3]) rfl rfl rfl ?_
  refine ev_x (i := .aload_n 0) (len := 1) (p' := 19) (s' := [.ref 52, .int y_3]) rfl rfl rfl ?_
  refine ev_gc (p' := 22) (v := 58) rfl rfl rfl ly_52 rfl rfl ?_
  refine ev_x (i := .iload 4) (len := 2) (p' := 24) (s' := [.int ((gE σ 56 ((y_1).toNatClampNeg)) + y_2), .ref 58, .int y_3]) rfl rfl rfl ?_
  refine ev_x (i := .iconst 1) (len := 1) (p' := 25) (s' := [.int 1, .int ((gE σ 56 ((y_1).toNatClampNeg)) + y_2), .ref 58, .int y_3]) rfl rfl rfl ?_
  refine ev_x (i := .iadd) (len := 1) (p' := 26) (s' := [.int (((gE σ 56 ((y_1).toNatClampNeg)) + y_2) + 1), .ref 58, .int y_3]) rfl rfl rfl ?_
  refine ev_ga (p' := 27) (v := (gE σ 58 (((((gE σ 56 ((y_1).toNatClampNeg)) + y_2) + 1)).toNatClampNeg))) rfl rfl ly_58 rfl c_9 rfl ?_
  refine ev_x (i := .aload_n 0) (len := 1) (p' := 28) (s' := [.ref 52, .int (gE σ 58 (((((gE σ 56 ((y_1).toNatClampNeg)) + y_2) + 1)).toNatClampNeg)), .int y_3]) rfl rfl rfl ?_
  refine ev_gc (p' := 31) (v := 58) rfl rfl rfl ly_52 rfl rfl ?_
  refine ev_x (i := .iload 4) (len := 2) (p' := 33) (s' := [.int ((gE σ 56 ((y_1).toNatClampNeg)) + y_2), .ref 58, .int (gE σ 58 (((((gE σ 56 ((y_1).toNatClampNeg)) + y_2) + 1)).toNatClampNeg)), .int y_3]) rfl rfl rfl ?_
  refine ev_ga (p' := 34) (v := (gE σ 58 ((((gE σ 56 ((y_1).toNatClampNeg)) + y_2)).toNatClampNeg))) rfl rfl ly_58 rfl c_10 rfl ?_
  refine ev_x (i := .isub) (len := 1) (p' := 35) (s' := [.int ((gE σ 58 (((((gE σ 56 ((y_1).toNatClampNeg)) + y_2) + 1)).toNatClampNeg)) - (gE σ 58 ((((gE σ 56 ((y_1).toNatClampNeg)) + y_2)).toNatClampNeg))), .int y_3]) rfl rfl rfl ?_
  refine ev_b2 (t := 40) (p' := 38) rfl rfl rfl (if_neg c_11) ?_
  refine ev_x (i := .iconst (-1)) (len := 1) (p' := 39) (s' := [.int (-1)]) rfl rfl rfl ?_
  exact ev_iret rfl rfl rfl rfl
set_option maxHeartbeats 4000000 in
set_option maxRecDepth 100000 in
/-- GameText.branch(IIII)I -/
theorem lz_188 {d : Nat} {σ : st_S} {y_1 y_2 y_3 y_4 : Int32} (c_1 : ¬ (y_1 < 0)) (c_2 : ¬ ((σ.1 52 10) ≤ y_1)) (c_3 : ¬ (y_2 < 0)) (c_4 : vp_in (y_1 + 1) (gN σ 56)) (c_5 : vp_in y_1 (gN σ 56)) (c_6 : y_2 < ((gE σ 56 (((y_1 + 1)).toNatClampNeg)) - (gE σ 56 ((y_1).toNatClampNeg)))) (c_7 : ¬ (((gE σ 56 ((y_1).toNatClampNeg)) + y_2) < 0)) (c_8 : ¬ (y_3 < 0)) (c_9 : vp_in (((gE σ 56 ((y_1).toNatClampNeg)) + y_2) + 1) (gN σ 58)) (c_10 : vp_in ((gE σ 56 ((y_1).toNatClampNeg)) + y_2) (gN σ 58)) (c_11 : ¬ (y_3 < ((gE σ 58 (((((gE σ 56 ((y_1).toNatClampNeg)) + y_2) + 1)).toNatClampNeg)) - (gE σ 58 ((((gE σ 56 ((y_1).toNatClampNeg)) + y_2)).toNatClampNeg))))) : vz_ev P0 (d + 4) 102 0 (lv_args 0 [.ref 1, .int y_1, .int y_2, .int y_3, .int y_4]) [] (hp σ) (.inl (some (.int (-1))), hp (σ)) := by
  refine ev_x (i := .aload_n 0) (len := 1) (p' := 1) (s' := [.ref 1]) rfl rfl rfl ?_
  refine ev_gc (p' := 4) (v := 52) rfl rfl rfl ly_1 rfl rfl ?_
  refine ev_x (i := .iload_n 1) (len := 1) (p' := 5) (s' := [.int y_1, .ref 52]) rfl rfl rfl ?_
  refine ev_x (i := .iload_n 2) (len := 1) (p' := 6) (s' := [.int y_2, .int y_1, .ref 52]) rfl rfl rfl ?_
  refine ev_x (i := .iload_n 3) (len := 1) (p' := 7) (s' := [.int y_3, .int y_2, .int y_1, .ref 52]) rfl rfl rfl ?_
  refine ev_cv (d := d + 3) (As := [.int y_1, .int y_2, .int y_3]) (a := 52) (p' := 10) rfl rfl rfl ly_52 rfl rfl rfl rfl rfl rfl rfl (lz_187 (d := d + 0) (c_1 := c_1) (c_2 := c_2) (c_3 := c_3) (c_4 := c_4) (c_5 := c_5) (c_6 := c_6) (c_7 := c_7) (c_8 := c_8) (c_9 := c_9) (c_10 := c_10) (c_11 := c_11)) ?_
  refine ev_st (st' := [.int (-1)]) rfl ?_
  refine ev_x (i := .istore 5) (len := 2) (p' := 12) (s' := []) (l' := [(5, .int (-1)), (0, .ref 1), (1, .int y_1), (2, .int y_2), (3, .int y_3), (4, .int y_4)]) rfl rfl rfl ?_
  refine ev_x (i := .iload 5) (len := 2) (p' := 14) (s' := [.int (-1)]) rfl rfl rfl ?_
  refine ev_b0 (t := 19) (p' := 17) rfl rfl rfl (by decide) ?_
  refine ev_x (i := .iconst (-1)) (len := 1) (p' := 18) (s' := [.int (-1)]) rfl rfl rfl ?_
  exact ev_iret rfl rfl rfl rfl
set_option maxHeartbeats 4000000 in
set_option maxRecDepth 100000 in
/-- GameTextModel.branch(IIII)I -/
theorem lz_192 {d : Nat} {σ : st_S} {y_1 y_2 y_3 y_4 : Int32} (c_1 : ¬ (y_1 < 0)) (c_2 : ¬ ((σ.1 66 29) ≤ y_1)) (c_3 : ¬ (y_2 < 0)) (c_4 : vp_in y_1 (gN σ 174)) (c_5 : ¬ ((gE σ 174 ((y_1).toNatClampNeg)) ≤ y_2)) (c_6 : ¬ (y_3 < 0)) (c_7 : vp_in y_1 (gN σ 173)) (c_8 : vp_in ((gE σ 173 ((y_1).toNatClampNeg)) + y_2) (gN σ 180)) (c_9 : (gE σ 180 ((((gE σ 173 ((y_1).toNatClampNeg)) + y_2)).toNatClampNeg)) ≤ y_3) : vz_ev P0 (d + 3) 229 0 (lv_args 0 [.ref 66, .int y_1, .int y_2, .int y_3, .int y_4]) [] (hp σ) (.inl (some (.int (-1))), hp (st_i (σ) 66 0 0)) := by
  refine ev_x (i := .aload_n 0) (len := 1) (p' := 1) (s' := [.ref 66]) rfl rfl rfl ?_
  refine ev_x (i := .iload_n 1) (len := 1) (p' := 2) (s' := [.int y_1, .ref 66]) rfl rfl rfl ?_
  refine ev_x (i := .iload_n 2) (len := 1) (p' := 3) (s' := [.int y_2, .int y_1, .ref 66]) rfl rfl rfl ?_
  refine ev_cv (d := d + 2) (As := [.int y_1, .int y_2]) (a := 66) (p' := 6) rfl rfl rfl ly_66 rfl rfl rfl rfl rfl rfl rfl (lz_105 (d := d + 0) (c_1 := c_1) (c_2 := c_2) (c_3 := c_3) (c_4 := c_4) (c_5 := c_5)) ?_
  refine ev_st (st' := [.int 1]) rfl ?_
  refine ev_b0 (t := 43) (p' := 9) rfl rfl rfl (by decide) ?_
  refine ev_x (i := .iload_n 3) (len := 1) (p' := 10) (s' := [.int y_3]) rfl rfl rfl ?_
  refine ev_b0 (t := 43) (p' := 13) rfl rfl rfl (if_neg c_6) ?_
  refine ev_x (i := .iload_n 3) (len := 1) (p' := 14) (s' := [.int y_3]) rfl rfl rfl ?_
  refine ev_x (i := .aload_n 0) (len := 1) (p' := 15) (s' := [.ref 66, .int y_3]) rfl rfl rfl ?_
  refine ev_gc (p' := 18) (v := 179) rfl rfl rfl ly_66 rfl rfl ?_
  refine ev_x (i := .aload_n 0) (len := 1) (p' := 19) (s' := [.ref 66, .ref 179, .int y_3]) rfl rfl rfl ?_
  refine ev_gc (p' := 22) (v := 173) rfl rfl rfl ly_66 rfl rfl ?_
  refine ev_x (i := .iload_n 1) (len := 1) (p' := 23) (s' := [.int y_1, .ref 173, .ref 179, .int y_3]) rfl rfl rfl ?_
  refine ev_ga (p' := 24) (v := (gE σ 173 ((y_1).toNatClampNeg))) rfl rfl ly_173 rfl c_7 rfl ?_
  refine ev_x (i := .iload_n 2) (len := 1) (p' := 25) (s' := [.int y_2, .int (gE σ 173 ((y_1).toNatClampNeg)), .ref 179, .int y_3]) rfl rfl rfl ?_
  refine ev_x (i := .iadd) (len := 1) (p' := 26) (s' := [.int ((gE σ 173 ((y_1).toNatClampNeg)) + y_2), .ref 179, .int y_3]) rfl rfl rfl ?_
  refine ev_cv (d := d + 2) (As := [.int ((gE σ 173 ((y_1).toNatClampNeg)) + y_2)]) (a := 179) (p' := 29) rfl rfl rfl ly_179 rfl rfl rfl rfl rfl rfl rfl (lz_142 (d := d + 1) (c_1 := c_8)) ?_
  refine ev_st (st' := [.int (gE σ 180 ((((gE σ 173 ((y_1).toNatClampNeg)) + y_2)).toNatClampNeg)), .int y_3]) rfl ?_
  refine ev_b2 (t := 43) (p' := 43) rfl rfl rfl (if_pos c_9) ?_
  refine ev_x (i := .iconst (-1)) (len := 1) (p' := 44) (s' := [.int (-1)]) rfl rfl rfl ?_
  exact ev_iret rfl rfl rfl rfl
set_option maxHeartbeats 4000000 in
set_option maxRecDepth 100000 in
/-- GameTextLaw.law([I)Z -/
theorem lw_13k_a0 {d : Nat} {σ : st_S} {q : vz_O × vz_H} {n L : Nat} {xs : Nat → Int32} (hs : gF σ 0 = .inl (0, L, .inl xs)) (hn : n + 6 ≤ L) (hL : L ≤ 3072) (c_1 : ¬ ((xs (n + 1)) < 0)) (c_2 : ¬ ((σ.1 52 10) ≤ (xs (n + 1)))) (c_3 : ¬ ((xs (n + 2)) < 0)) (c_4 : vp_in ((xs (n + 1)) + 1) (gN σ 56)) (c_5 : vp_in (xs (n + 1)) (gN σ 56)) (c_6 : (xs (n + 2)) < ((gE σ 56 ((((xs (n + 1)) + 1)).toNatClampNeg)) - (gE σ 56 (((xs (n + 1))).toNatClampNeg)))) (c_7 : ¬ (((gE σ 56 (((xs (n + 1))).toNatClampNeg)) + (xs (n + 2))) < 0)) (c_8 : ¬ ((xs (n + 3)) < 0)) (c_9 : vp_in (((gE σ 56 (((xs (n + 1))).toNatClampNeg)) + (xs (n + 2))) + 1) (gN σ 58)) (c_10 : vp_in ((gE σ 56 (((xs (n + 1))).toNatClampNeg)) + (xs (n + 2))) (gN σ 58)) (c_11 : ¬ ((xs (n + 3)) < ((gE σ 58 (((((gE σ 56 (((xs (n + 1))).toNatClampNeg)) + (xs (n + 2))) + 1)).toNatClampNeg)) - (gE σ 58 ((((gE σ 56 (((xs (n + 1))).toNatClampNeg)) + (xs (n + 2)))).toNatClampNeg))))) (c_12 : ¬ ((σ.1 66 29) ≤ (xs (n + 1)))) (c_13 : vp_in (xs (n + 1)) (gN σ 174)) (c_14 : ¬ ((gE σ 174 (((xs (n + 1))).toNatClampNeg)) ≤ (xs (n + 2)))) (c_15 : vp_in (xs (n + 1)) (gN σ 173)) (c_16 : vp_in ((gE σ 173 (((xs (n + 1))).toNatClampNeg)) + (xs (n + 2))) (gN σ 180)) (c_17 : (gE σ 180 ((((gE σ 173 (((xs (n + 1))).toNatClampNeg)) + (xs (n + 2)))).toNatClampNeg)) ≤ (xs (n + 3))) (k : vz_ev P0 (d + 5) 0 615 [(4, .int (nI n)), (3, .ref 187), (2, .ref 66), (1, .ref 1), (0, .ref 0)] [] (hp (st_i (σ) 66 0 0)) q) : vz_ev P0 (d + 5) 0 554 [(4, .int (nI n)), (3, .ref 187), (2, .ref 66), (1, .ref 1), (0, .ref 0)] [] (hp σ) q := by
  refine ev_x (i := .aload_n 1) (len := 1) (p' := 555) (s' := [.ref 1]) rfl rfl rfl ?_
  refine ev_x (i := .aload_n 0) (len := 1) (p' := 556) (s' := [.ref 0, .ref 1]) rfl rfl rfl ?_
  refine ev_x (i := .iload 4) (len := 2) (p' := 558) (s' := [.int (nI n), .ref 0, .ref 1]) rfl rfl rfl ?_
  refine ev_x (i := .iconst 1) (len := 1) (p' := 559) (s' := [.int 1, .int (nI n), .ref 0, .ref 1]) rfl rfl rfl ?_
  refine ev_x (i := .iadd) (len := 1) (p' := 560) (s' := [.int ((nI n) + 1), .ref 0, .ref 1]) rfl rfl rfl ?_
  refine ev_st (st' := [.int (nI (n + 1)), .ref 0, .ref 1]) (congrArg (fun z => Value.int z :: [.ref 0, .ref 1]) (nI_add n 1)) ?_
  refine ev_sg (p' := 561) rfl rfl hs (vp_in_nI (by omega) (by omega)) rfl ?_
  refine ev_st (st' := [.int (xs (n + 1)), .ref 1]) (congrArg (fun z => Value.int (xs z) :: [.ref 1]) (nI_clamp (n := n + 1) (by omega))) ?_
  refine ev_x (i := .aload_n 0) (len := 1) (p' := 562) (s' := [.ref 0, .int (xs (n + 1)), .ref 1]) rfl rfl rfl ?_
  refine ev_x (i := .iload 4) (len := 2) (p' := 564) (s' := [.int (nI n), .ref 0, .int (xs (n + 1)), .ref 1]) rfl rfl rfl ?_
  refine ev_x (i := .iconst 2) (len := 1) (p' := 565) (s' := [.int 2, .int (nI n), .ref 0, .int (xs (n + 1)), .ref 1]) rfl rfl rfl ?_
  refine ev_x (i := .iadd) (len := 1) (p' := 566) (s' := [.int ((nI n) + 2), .ref 0, .int (xs (n + 1)), .ref 1]) rfl rfl rfl ?_
  refine ev_st (st' := [.int (nI (n + 2)), .ref 0, .int (xs (n + 1)), .ref 1]) (congrArg (fun z => Value.int z :: [.ref 0, .int (xs (n + 1)), .ref 1]) (nI_add n 2)) ?_
  refine ev_sg (p' := 567) rfl rfl hs (vp_in_nI (by omega) (by omega)) rfl ?_
  refine ev_st (st' := [.int (xs (n + 2)), .int (xs (n + 1)), .ref 1]) (congrArg (fun z => Value.int (xs z) :: [.int (xs (n + 1)), .ref 1]) (nI_clamp (n := n + 2) (by omega))) ?_
  refine ev_x (i := .aload_n 0) (len := 1) (p' := 568) (s' := [.ref 0, .int (xs (n + 2)), .int (xs (n + 1)), .ref 1]) rfl rfl rfl ?_
  refine ev_x (i := .iload 4) (len := 2) (p' := 570) (s' := [.int (nI n), .ref 0, .int (xs (n + 2)), .int (xs (n + 1)), .ref 1]) rfl rfl rfl ?_
  refine ev_x (i := .iconst 3) (len := 1) (p' := 571) (s' := [.int 3, .int (nI n), .ref 0, .int (xs (n + 2)), .int (xs (n + 1)), .ref 1]) rfl rfl rfl ?_
  refine ev_x (i := .iadd) (len := 1) (p' := 572) (s' := [.int ((nI n) + 3), .ref 0, .int (xs (n + 2)), .int (xs (n + 1)), .ref 1]) rfl rfl rfl ?_
  refine ev_st (st' := [.int (nI (n + 3)), .ref 0, .int (xs (n + 2)), .int (xs (n + 1)), .ref 1]) (congrArg (fun z => Value.int z :: [.ref 0, .int (xs (n + 2)), .int (xs (n + 1)), .ref 1]) (nI_add n 3)) ?_
  refine ev_sg (p' := 573) rfl rfl hs (vp_in_nI (by omega) (by omega)) rfl ?_
  refine ev_st (st' := [.int (xs (n + 3)), .int (xs (n + 2)), .int (xs (n + 1)), .ref 1]) (congrArg (fun z => Value.int (xs z) :: [.int (xs (n + 2)), .int (xs (n + 1)), .ref 1]) (nI_clamp (n := n + 3) (by omega))) ?_
  refine ev_x (i := .aload_n 0) (len := 1) (p' := 574) (s' := [.ref 0, .int (xs (n + 3)), .int (xs (n + 2)), .int (xs (n + 1)), .ref 1]) rfl rfl rfl ?_
  refine ev_x (i := .iload 4) (len := 2) (p' := 576) (s' := [.int (nI n), .ref 0, .int (xs (n + 3)), .int (xs (n + 2)), .int (xs (n + 1)), .ref 1]) rfl rfl rfl ?_
  refine ev_x (i := .iconst 4) (len := 1) (p' := 577) (s' := [.int 4, .int (nI n), .ref 0, .int (xs (n + 3)), .int (xs (n + 2)), .int (xs (n + 1)), .ref 1]) rfl rfl rfl ?_
  refine ev_x (i := .iadd) (len := 1) (p' := 578) (s' := [.int ((nI n) + 4), .ref 0, .int (xs (n + 3)), .int (xs (n + 2)), .int (xs (n + 1)), .ref 1]) rfl rfl rfl ?_
  refine ev_st (st' := [.int (nI (n + 4)), .ref 0, .int (xs (n + 3)), .int (xs (n + 2)), .int (xs (n + 1)), .ref 1]) (congrArg (fun z => Value.int z :: [.ref 0, .int (xs (n + 3)), .int (xs (n + 2)), .int (xs (n + 1)), .ref 1]) (nI_add n 4)) ?_
  refine ev_sg (p' := 579) rfl rfl hs (vp_in_nI (by omega) (by omega)) rfl ?_
  refine ev_st (st' := [.int (xs (n + 4)), .int (xs (n + 3)), .int (xs (n + 2)), .int (xs (n + 1)), .ref 1]) (congrArg (fun z => Value.int (xs z) :: [.int (xs (n + 3)), .int (xs (n + 2)), .int (xs (n + 1)), .ref 1]) (nI_clamp (n := n + 4) (by omega))) ?_
  refine ev_cv (d := d + 4) (As := [.int (xs (n + 1)), .int (xs (n + 2)), .int (xs (n + 3)), .int (xs (n + 4))]) (a := 1) (p' := 582) rfl rfl rfl ly_1 rfl rfl rfl rfl rfl rfl rfl (lz_188 (d := d + 0) (c_1 := c_1) (c_2 := c_2) (c_3 := c_3) (c_4 := c_4) (c_5 := c_5) (c_6 := c_6) (c_7 := c_7) (c_8 := c_8) (c_9 := c_9) (c_10 := c_10) (c_11 := c_11)) ?_
  refine ev_st (st' := [.int (-1)]) rfl ?_
  refine ev_x (i := .aload_n 2) (len := 1) (p' := 583) (s' := [.ref 66, .int (-1)]) rfl rfl rfl ?_
  refine ev_x (i := .aload_n 0) (len := 1) (p' := 584) (s' := [.ref 0, .ref 66, .int (-1)]) rfl rfl rfl ?_
  refine ev_x (i := .iload 4) (len := 2) (p' := 586) (s' := [.int (nI n), .ref 0, .ref 66, .int (-1)]) rfl rfl rfl ?_
  refine ev_x (i := .iconst 1) (len := 1) (p' := 587) (s' := [.int 1, .int (nI n), .ref 0, .ref 66, .int (-1)]) rfl rfl rfl ?_
  refine ev_x (i := .iadd) (len := 1) (p' := 588) (s' := [.int ((nI n) + 1), .ref 0, .ref 66, .int (-1)]) rfl rfl rfl ?_
  refine ev_st (st' := [.int (nI (n + 1)), .ref 0, .ref 66, .int (-1)]) (congrArg (fun z => Value.int z :: [.ref 0, .ref 66, .int (-1)]) (nI_add n 1)) ?_
  refine ev_sg (p' := 589) rfl rfl hs (vp_in_nI (by omega) (by omega)) rfl ?_
  refine ev_st (st' := [.int (xs (n + 1)), .ref 66, .int (-1)]) (congrArg (fun z => Value.int (xs z) :: [.ref 66, .int (-1)]) (nI_clamp (n := n + 1) (by omega))) ?_
  refine ev_x (i := .aload_n 0) (len := 1) (p' := 590) (s' := [.ref 0, .int (xs (n + 1)), .ref 66, .int (-1)]) rfl rfl rfl ?_
  refine ev_x (i := .iload 4) (len := 2) (p' := 592) (s' := [.int (nI n), .ref 0, .int (xs (n + 1)), .ref 66, .int (-1)]) rfl rfl rfl ?_
  refine ev_x (i := .iconst 2) (len := 1) (p' := 593) (s' := [.int 2, .int (nI n), .ref 0, .int (xs (n + 1)), .ref 66, .int (-1)]) rfl rfl rfl ?_
  refine ev_x (i := .iadd) (len := 1) (p' := 594) (s' := [.int ((nI n) + 2), .ref 0, .int (xs (n + 1)), .ref 66, .int (-1)]) rfl rfl rfl ?_
  refine ev_st (st' := [.int (nI (n + 2)), .ref 0, .int (xs (n + 1)), .ref 66, .int (-1)]) (congrArg (fun z => Value.int z :: [.ref 0, .int (xs (n + 1)), .ref 66, .int (-1)]) (nI_add n 2)) ?_
  refine ev_sg (p' := 595) rfl rfl hs (vp_in_nI (by omega) (by omega)) rfl ?_
  refine ev_st (st' := [.int (xs (n + 2)), .int (xs (n + 1)), .ref 66, .int (-1)]) (congrArg (fun z => Value.int (xs z) :: [.int (xs (n + 1)), .ref 66, .int (-1)]) (nI_clamp (n := n + 2) (by omega))) ?_
  refine ev_x (i := .aload_n 0) (len := 1) (p' := 596) (s' := [.ref 0, .int (xs (n + 2)), .int (xs (n + 1)), .ref 66, .int (-1)]) rfl rfl rfl ?_
  refine ev_x (i := .iload 4) (len := 2) (p' := 598) (s' := [.int (nI n), .ref 0, .int (xs (n + 2)), .int (xs (n + 1)), .ref 66, .int (-1)]) rfl rfl rfl ?_
  refine ev_x (i := .iconst 3) (len := 1) (p' := 599) (s' := [.int 3, .int (nI n), .ref 0, .int (xs (n + 2)), .int (xs (n + 1)), .ref 66, .int (-1)]) rfl rfl rfl ?_
  refine ev_x (i := .iadd) (len := 1) (p' := 600) (s' := [.int ((nI n) + 3), .ref 0, .int (xs (n + 2)), .int (xs (n + 1)), .ref 66, .int (-1)]) rfl rfl rfl ?_
  refine ev_st (st' := [.int (nI (n + 3)), .ref 0, .int (xs (n + 2)), .int (xs (n + 1)), .ref 66, .int (-1)]) (congrArg (fun z => Value.int z :: [.ref 0, .int (xs (n + 2)), .int (xs (n + 1)), .ref 66, .int (-1)]) (nI_add n 3)) ?_
  refine ev_sg (p' := 601) rfl rfl hs (vp_in_nI (by omega) (by omega)) rfl ?_
  refine ev_st (st' := [.int (xs (n + 3)), .int (xs (n + 2)), .int (xs (n + 1)), .ref 66, .int (-1)]) (congrArg (fun z => Value.int (xs z) :: [.int (xs (n + 2)), .int (xs (n + 1)), .ref 66, .int (-1)]) (nI_clamp (n := n + 3) (by omega))) ?_
  refine ev_x (i := .aload_n 0) (len := 1) (p' := 602) (s' := [.ref 0, .int (xs (n + 3)), .int (xs (n + 2)), .int (xs (n + 1)), .ref 66, .int (-1)]) rfl rfl rfl ?_
  refine ev_x (i := .iload 4) (len := 2) (p' := 604) (s' := [.int (nI n), .ref 0, .int (xs (n + 3)), .int (xs (n + 2)), .int (xs (n + 1)), .ref 66, .int (-1)]) rfl rfl rfl ?_
  refine ev_x (i := .iconst 4) (len := 1) (p' := 605) (s' := [.int 4, .int (nI n), .ref 0, .int (xs (n + 3)), .int (xs (n + 2)), .int (xs (n + 1)), .ref 66, .int (-1)]) rfl rfl rfl ?_
  refine ev_x (i := .iadd) (len := 1) (p' := 606) (s' := [.int ((nI n) + 4), .ref 0, .int (xs (n + 3)), .int (xs (n + 2)), .int (xs (n + 1)), .ref 66, .int (-1)]) rfl rfl rfl ?_
  refine ev_st (st' := [.int (nI (n + 4)), .ref 0, .int (xs (n + 3)), .int (xs (n + 2)), .int (xs (n + 1)), .ref 66, .int (-1)]) (congrArg (fun z => Value.int z :: [.ref 0, .int (xs (n + 3)), .int (xs (n + 2)), .int (xs (n + 1)), .ref 66, .int (-1)]) (nI_add n 4)) ?_
  refine ev_sg (p' := 607) rfl rfl hs (vp_in_nI (by omega) (by omega)) rfl ?_
  refine ev_st (st' := [.int (xs (n + 4)), .int (xs (n + 3)), .int (xs (n + 2)), .int (xs (n + 1)), .ref 66, .int (-1)]) (congrArg (fun z => Value.int (xs z) :: [.int (xs (n + 3)), .int (xs (n + 2)), .int (xs (n + 1)), .ref 66, .int (-1)]) (nI_clamp (n := n + 4) (by omega))) ?_
  refine ev_cv (d := d + 4) (As := [.int (xs (n + 1)), .int (xs (n + 2)), .int (xs (n + 3)), .int (xs (n + 4))]) (a := 66) (p' := 610) rfl rfl rfl ly_66 rfl rfl rfl rfl rfl rfl rfl (lz_192 (d := d + 1) (c_1 := c_1) (c_2 := c_12) (c_3 := c_3) (c_4 := c_13) (c_5 := c_14) (c_6 := c_8) (c_7 := c_15) (c_8 := c_16) (c_9 := c_17)) ?_
  refine ev_st (st' := [.int (-1), .int (-1)]) rfl ?_
  refine ev_b2 (t := 615) (p' := 615) rfl rfl rfl (by decide) ?_
  exact k
set_option maxHeartbeats 4000000 in
set_option maxRecDepth 100000 in
/-- GameText$Graph.branchAt(III)I -/
theorem lz_196 {d : Nat} {σ : st_S} {y_1 y_2 y_3 : Int32} (c_1 : ¬ (y_1 < 0)) (c_2 : ¬ ((σ.1 52 10) ≤ y_1)) (c_3 : ¬ (y_2 < 0)) (c_4 : vp_in (y_1 + 1) (gN σ 56)) (c_5 : vp_in y_1 (gN σ 56)) (c_6 : y_2 < ((gE σ 56 (((y_1 + 1)).toNatClampNeg)) - (gE σ 56 ((y_1).toNatClampNeg)))) (c_7 : ¬ (((gE σ 56 ((y_1).toNatClampNeg)) + y_2) < 0)) (c_8 : ¬ (y_3 < 0)) (c_9 : vp_in (((gE σ 56 ((y_1).toNatClampNeg)) + y_2) + 1) (gN σ 58)) (c_10 : vp_in ((gE σ 56 ((y_1).toNatClampNeg)) + y_2) (gN σ 58)) (c_11 : y_3 < ((gE σ 58 (((((gE σ 56 ((y_1).toNatClampNeg)) + y_2) + 1)).toNatClampNeg)) - (gE σ 58 ((((gE σ 56 ((y_1).toNatClampNeg)) + y_2)).toNatClampNeg)))) : vz_ev P0 (d + 3) 103 0 (lv_args 0 [.ref 52, .int y_1, .int y_2, .int y_3]) [] (hp σ) (.inl (some (.int ((gE σ 58 ((((gE σ 56 ((y_1).toNatClampNeg)) + y_2)).toNatClampNeg)) + y_3))), hp (σ)) := by
  refine ev_x (i := .aload_n 0) (len := 1) (p' := 1) (s' := [.ref 52]) rfl rfl rfl ?_
  refine ev_x (i := .iload_n 1) (len := 1) (p' := 2) (s' := [.int y_1, .ref 52]) rfl rfl rfl ?_
  refine ev_x (i := .iload_n 2) (len := 1) (p' := 3) (s' := [.int y_2, .int y_1, .ref 52]) rfl rfl rfl ?_
  refine ev_cv (d := d + 2) (As := [.int y_1, .int y_2]) (a := 52) (p' := 6) rfl rfl rfl ly_52 rfl rfl rfl rfl rfl rfl rfl (lz_102 (d := d + 0) (c_1 := c_1) (c_2 := c_2) (c_3 := c_3) (c_4 := c_4) (c_5 := c_5) (c_6 := c_6)) ?_
  refine ev_st (st' := [.int ((gE σ 56 ((y_1).toNatClampNeg)) + y_2)]) rfl ?_
  refine ev_x (i := .istore 4) (len := 2) (p' := 8) (s' := []) (l' := [(4, .int ((gE σ 56 ((y_1).toNatClampNeg)) + y_2)), (0, .ref 52), (1, .int y_1), (2, .int y_2), (3, .int y_3)]) rfl rfl rfl ?_
  refine ev_x (i := .iload 4) (len := 2) (p' := 10) (s' := [.int ((gE σ 56 ((y_1).toNatClampNeg)) + y_2)]) rfl rfl rfl ?_
  refine ev_b0 (t := 38) (p' := 13) rfl rfl rfl (if_neg c_7) ?_
  refine ev_x (i := .iload_n 3) (len := 1) (p' := 14) (s' := [.int y_3]) rfl rfl rfl ?_
  refine ev_b0 (t := 38) (p' := 17) rfl rfl rfl (if_neg c_8) ?_
  refine ev_x (i := .iload_n 3) (len := 1) (p' := 18) (s' := [.int y_3]) rfl rfl rfl ?_
  refine ev_x (i := .aload_n 0) (len := 1) (p' := 19) (s' := [.ref 52, .int y_3]) rfl rfl rfl ?_
  refine ev_gc (p' := 22) (v := 58) rfl rfl rfl ly_52 rfl rfl ?_
  refine ev_x (i := .iload 4) (len := 2) (p' := 24) (s' := [.int ((gE σ 56 ((y_1).toNatClampNeg)) + y_2), .ref 58, .int y_3]) rfl rfl rfl ?_
  refine ev_x (i := .iconst 1) (len := 1) (p' := 25) (s' := [.int 1, .int ((gE σ 56 ((y_1).toNatClampNeg)) + y_2), .ref 58, .int y_3]) rfl rfl rfl ?_
  refine ev_x (i := .iadd) (len := 1) (p' := 26) (s' := [.int (((gE σ 56 ((y_1).toNatClampNeg)) + y_2) + 1), .ref 58, .int y_3]) rfl rfl rfl ?_
  refine ev_ga (p' := 27) (v := (gE σ 58 (((((gE σ 56 ((y_1).toNatClampNeg)) + y_2) + 1)).toNatClampNeg))) rfl rfl ly_58 rfl c_9 rfl ?_
  refine ev_x (i := .aload_n 0) (len := 1) (p' := 28) (s' := [.ref 52, .int (gE σ 58 (((((gE σ 56 ((y_1).toNatClampNeg)) + y_2) + 1)).toNatClampNeg)), .int y_3]) rfl rfl rfl ?_
  refine ev_gc (p' := 31) (v := 58) rfl rfl rfl ly_52 rfl rfl ?_
  refine ev_x (i := .iload 4) (len := 2) (p' := 33) (s' := [.int ((gE σ 56 ((y_1).toNatClampNeg)) + y_2), .ref 58, .int (gE σ 58 (((((gE σ 56 ((y_1).toNatClampNeg)) + y_2) + 1)).toNatClampNeg)), .int y_3]) rfl rfl rfl ?_
  refine ev_ga (p' := 34) (v := (gE σ 58 ((((gE σ 56 ((y_1).toNatClampNeg)) + y_2)).toNatClampNeg))) rfl rfl ly_58 rfl c_10 rfl ?_
  refine ev_x (i := .isub) (len := 1) (p' := 35) (s' := [.int ((gE σ 58 (((((gE σ 56 ((y_1).toNatClampNeg)) + y_2) + 1)).toNatClampNeg)) - (gE σ 58 ((((gE σ 56 ((y_1).toNatClampNeg)) + y_2)).toNatClampNeg))), .int y_3]) rfl rfl rfl ?_
  refine ev_b2 (t := 40) (p' := 40) rfl rfl rfl (if_pos c_11) ?_
  refine ev_x (i := .aload_n 0) (len := 1) (p' := 41) (s' := [.ref 52]) rfl rfl rfl ?_
  refine ev_gc (p' := 44) (v := 58) rfl rfl rfl ly_52 rfl rfl ?_
  refine ev_x (i := .iload 4) (len := 2) (p' := 46) (s' := [.int ((gE σ 56 ((y_1).toNatClampNeg)) + y_2), .ref 58]) rfl rfl rfl ?_
  refine ev_ga (p' := 47) (v := (gE σ 58 ((((gE σ 56 ((y_1).toNatClampNeg)) + y_2)).toNatClampNeg))) rfl rfl ly_58 rfl c_10 rfl ?_
  refine ev_x (i := .iload_n 3) (len := 1) (p' := 48) (s' := [.int y_3, .int (gE σ 58 ((((gE σ 56 ((y_1).toNatClampNeg)) + y_2)).toNatClampNeg))]) rfl rfl rfl ?_
  refine ev_x (i := .iadd) (len := 1) (p' := 49) (s' := [.int ((gE σ 58 ((((gE σ 56 ((y_1).toNatClampNeg)) + y_2)).toNatClampNeg)) + y_3)]) rfl rfl rfl ?_
  exact ev_iret rfl rfl rfl rfl
set_option maxHeartbeats 4000000 in
set_option maxRecDepth 100000 in
/-- GameText.branch(IIII)I -/
theorem lz_197 {d : Nat} {σ : st_S} {y_1 y_2 y_3 y_4 : Int32} (c_1 : ¬ (y_1 < 0)) (c_2 : ¬ ((σ.1 52 10) ≤ y_1)) (c_3 : ¬ (y_2 < 0)) (c_4 : vp_in (y_1 + 1) (gN σ 56)) (c_5 : vp_in y_1 (gN σ 56)) (c_6 : y_2 < ((gE σ 56 (((y_1 + 1)).toNatClampNeg)) - (gE σ 56 ((y_1).toNatClampNeg)))) (c_7 : ¬ (((gE σ 56 ((y_1).toNatClampNeg)) + y_2) < 0)) (c_8 : ¬ (y_3 < 0)) (c_9 : vp_in (((gE σ 56 ((y_1).toNatClampNeg)) + y_2) + 1) (gN σ 58)) (c_10 : vp_in ((gE σ 56 ((y_1).toNatClampNeg)) + y_2) (gN σ 58)) (c_11 : y_3 < ((gE σ 58 (((((gE σ 56 ((y_1).toNatClampNeg)) + y_2) + 1)).toNatClampNeg)) - (gE σ 58 ((((gE σ 56 ((y_1).toNatClampNeg)) + y_2)).toNatClampNeg)))) (c_12 : 0 ≤ ((gE σ 58 ((((gE σ 56 ((y_1).toNatClampNeg)) + y_2)).toNatClampNeg)) + y_3)) (c_13 : y_4 = 0) (c_14 : vp_in ((gE σ 58 ((((gE σ 56 ((y_1).toNatClampNeg)) + y_2)).toNatClampNeg)) + y_3) (gN σ 59)) : vz_ev P0 (d + 4) 102 0 (lv_args 0 [.ref 1, .int y_1, .int y_2, .int y_3, .int y_4]) [] (hp σ) (.inl (some (.int (gE σ 59 ((((gE σ 58 ((((gE σ 56 ((y_1).toNatClampNeg)) + y_2)).toNatClampNeg)) + y_3)).toNatClampNeg)))), hp (σ)) := by
  refine ev_x (i := .aload_n 0) (len := 1) (p' := 1) (s' := [.ref 1]) rfl rfl rfl ?_
  refine ev_gc (p' := 4) (v := 52) rfl rfl rfl ly_1 rfl rfl ?_
  refine ev_x (i := .iload_n 1) (len := 1) (p' := 5) (s' := [.int y_1, .ref 52]) rfl rfl rfl ?_
  refine ev_x (i := .iload_n 2) (len := 1) (p' := 6) (s' := [.int y_2, .int y_1, .ref 52]) rfl rfl rfl ?_
  refine ev_x (i := .iload_n 3) (len := 1) (p' := 7) (s' := [.int y_3, .int y_2, .int y_1, .ref 52]) rfl rfl rfl ?_
  refine ev_cv (d := d + 3) (As := [.int y_1, .int y_2, .int y_3]) (a := 52) (p' := 10) rfl rfl rfl ly_52 rfl rfl rfl rfl rfl rfl rfl (lz_196 (d := d + 0) (c_1 := c_1) (c_2 := c_2) (c_3 := c_3) (c_4 := c_4) (c_5 := c_5) (c_6 := c_6) (c_7 := c_7) (c_8 := c_8) (c_9 := c_9) (c_10 := c_10) (c_11 := c_11)) ?_
  refine ev_st (st' := [.int ((gE σ 58 ((((gE σ 56 ((y_1).toNatClampNeg)) + y_2)).toNatClampNeg)) + y_3)]) rfl ?_
  refine ev_x (i := .istore 5) (len := 2) (p' := 12) (s' := []) (l' := [(5, .int ((gE σ 58 ((((gE σ 56 ((y_1).toNatClampNeg)) + y_2)).toNatClampNeg)) + y_3)), (0, .ref 1), (1, .int y_1), (2, .int y_2), (3, .int y_3), (4, .int y_4)]) rfl rfl rfl ?_
  refine ev_x (i := .iload 5) (len := 2) (p' := 14) (s' := [.int ((gE σ 58 ((((gE σ 56 ((y_1).toNatClampNeg)) + y_2)).toNatClampNeg)) + y_3)]) rfl rfl rfl ?_
  refine ev_b0 (t := 19) (p' := 19) rfl rfl rfl (if_pos c_12) ?_
  refine ev_x (i := .iload 4) (len := 2) (p' := 21) (s' := [.int y_4]) rfl rfl rfl ?_
  refine ev_st (st' := [.int 0]) (congrArg (fun z => Value.int z :: []) c_13) ?_
  refine ev_ts (off := 27) (t := 48) rfl rfl (by decide) rfl ?_
  refine ev_x (i := .aload_n 0) (len := 1) (p' := 49) (s' := [.ref 1]) rfl rfl rfl ?_
  refine ev_gc (p' := 52) (v := 52) rfl rfl rfl ly_1 rfl rfl ?_
  refine ev_gc (p' := 55) (v := 59) rfl rfl rfl ly_52 rfl rfl ?_
  refine ev_x (i := .iload 5) (len := 2) (p' := 57) (s' := [.int ((gE σ 58 ((((gE σ 56 ((y_1).toNatClampNeg)) + y_2)).toNatClampNeg)) + y_3), .ref 59]) rfl rfl rfl ?_
  refine ev_ga (p' := 58) (v := (gE σ 59 ((((gE σ 58 ((((gE σ 56 ((y_1).toNatClampNeg)) + y_2)).toNatClampNeg)) + y_3)).toNatClampNeg))) rfl rfl ly_59 rfl c_14 rfl ?_
  exact ev_iret rfl rfl rfl rfl
set_option maxHeartbeats 4000000 in
set_option maxRecDepth 100000 in
/-- GameTextModel$Numbers.at(I)I -/
theorem lz_201 {d : Nat} {σ : st_S} {y_1 : Int32} (c_1 : vp_in y_1 (gN σ 178)) : vz_ev P0 (d + 1) 139 0 (lv_args 0 [.ref 177, .int y_1]) [] (hp σ) (.inl (some (.int (gE σ 178 ((y_1).toNatClampNeg)))), hp (σ)) := by
  refine ev_x (i := .aload_n 0) (len := 1) (p' := 1) (s' := [.ref 177]) rfl rfl rfl ?_
  refine ev_gc (p' := 4) (v := 178) rfl rfl rfl ly_177 rfl rfl ?_
  refine ev_x (i := .iload_n 1) (len := 1) (p' := 5) (s' := [.int y_1, .ref 178]) rfl rfl rfl ?_
  refine ev_ga (p' := 6) (v := (gE σ 178 ((y_1).toNatClampNeg))) rfl rfl ly_178 rfl c_1 rfl ?_
  exact ev_iret rfl rfl rfl rfl
set_option maxHeartbeats 4000000 in
set_option maxRecDepth 100000 in
/-- GameTextModel.branch(IIII)I -/
theorem lz_202 {d : Nat} {σ : st_S} {y_1 y_2 y_3 y_4 : Int32} (c_1 : ¬ (y_1 < 0)) (c_2 : ¬ ((σ.1 66 29) ≤ y_1)) (c_3 : ¬ (y_2 < 0)) (c_4 : vp_in y_1 (gN σ 174)) (c_5 : ¬ ((gE σ 174 ((y_1).toNatClampNeg)) ≤ y_2)) (c_6 : ¬ (y_3 < 0)) (c_7 : vp_in y_1 (gN σ 173)) (c_8 : vp_in ((gE σ 173 ((y_1).toNatClampNeg)) + y_2) (gN σ 180)) (c_9 : ¬ ((gE σ 180 ((((gE σ 173 ((y_1).toNatClampNeg)) + y_2)).toNatClampNeg)) ≤ y_3)) (c_10 : ¬ (y_4 < 0)) (c_11 : y_4 ≤ 2) (c_12 : vp_in ((gE σ 173 ((y_1).toNatClampNeg)) + y_2) (gN σ 178)) (c_13 : ¬ (¬ y_4 = 0)) (c_14 : vp_in ((gE σ 178 ((((gE σ 173 ((y_1).toNatClampNeg)) + y_2)).toNatClampNeg)) + y_3) (gN σ 181)) : vz_ev P0 (d + 3) 229 0 (lv_args 0 [.ref 66, .int y_1, .int y_2, .int y_3, .int y_4]) [] (hp σ) (.inl (some (.int (gE σ 181 ((((gE σ 178 ((((gE σ 173 ((y_1).toNatClampNeg)) + y_2)).toNatClampNeg)) + y_3)).toNatClampNeg)))), hp (st_i (σ) 66 0 0)) := by
  refine ev_x (i := .aload_n 0) (len := 1) (p' := 1) (s' := [.ref 66]) rfl rfl rfl ?_
  refine ev_x (i := .iload_n 1) (len := 1) (p' := 2) (s' := [.int y_1, .ref 66]) rfl rfl rfl ?_
  refine ev_x (i := .iload_n 2) (len := 1) (p' := 3) (s' := [.int y_2, .int y_1, .ref 66]) rfl rfl rfl ?_
  refine ev_cv (d := d + 2) (As := [.int y_1, .int y_2]) (a := 66) (p' := 6) rfl rfl rfl ly_66 rfl rfl rfl rfl rfl rfl rfl (lz_105 (d := d + 0) (c_1 := c_1) (c_2 := c_2) (c_3 := c_3) (c_4 := c_4) (c_5 := c_5)) ?_
  refine ev_st (st' := [.int 1]) rfl ?_
  refine ev_b0 (t := 43) (p' := 9) rfl rfl rfl (by decide) ?_
  refine ev_x (i := .iload_n 3) (len := 1) (p' := 10) (s' := [.int y_3]) rfl rfl rfl ?_
  refine ev_b0 (t := 43) (p' := 13) rfl rfl rfl (if_neg c_6) ?_
  refine ev_x (i := .iload_n 3) (len := 1) (p' := 14) (s' := [.int y_3]) rfl rfl rfl ?_
  refine ev_x (i := .aload_n 0) (len := 1) (p' := 15) (s' := [.ref 66, .int y_3]) rfl rfl rfl ?_
  refine ev_gc (p' := 18) (v := 179) rfl rfl rfl ly_66 rfl rfl ?_
  refine ev_x (i := .aload_n 0) (len := 1) (p' := 19) (s' := [.ref 66, .ref 179, .int y_3]) rfl rfl rfl ?_
  refine ev_gc (p' := 22) (v := 173) rfl rfl rfl ly_66 rfl rfl ?_
  refine ev_x (i := .iload_n 1) (len := 1) (p' := 23) (s' := [.int y_1, .ref 173, .ref 179, .int y_3]) rfl rfl rfl ?_
  refine ev_ga (p' := 24) (v := (gE σ 173 ((y_1).toNatClampNeg))) rfl rfl ly_173 rfl c_7 rfl ?_
  refine ev_x (i := .iload_n 2) (len := 1) (p' := 25) (s' := [.int y_2, .int (gE σ 173 ((y_1).toNatClampNeg)), .ref 179, .int y_3]) rfl rfl rfl ?_
  refine ev_x (i := .iadd) (len := 1) (p' := 26) (s' := [.int ((gE σ 173 ((y_1).toNatClampNeg)) + y_2), .ref 179, .int y_3]) rfl rfl rfl ?_
  refine ev_cv (d := d + 2) (As := [.int ((gE σ 173 ((y_1).toNatClampNeg)) + y_2)]) (a := 179) (p' := 29) rfl rfl rfl ly_179 rfl rfl rfl rfl rfl rfl rfl (lz_142 (d := d + 1) (c_1 := c_8)) ?_
  refine ev_st (st' := [.int (gE σ 180 ((((gE σ 173 ((y_1).toNatClampNeg)) + y_2)).toNatClampNeg)), .int y_3]) rfl ?_
  refine ev_b2 (t := 43) (p' := 32) rfl rfl rfl (if_neg c_9) ?_
  refine ev_x (i := .iload 4) (len := 2) (p' := 34) (s' := [.int y_4]) rfl rfl rfl ?_
  refine ev_b0 (t := 43) (p' := 37) rfl rfl rfl (if_neg c_10) ?_
  refine ev_x (i := .iload 4) (len := 2) (p' := 39) (s' := [.int y_4]) rfl rfl rfl ?_
  refine ev_x (i := .iconst 2) (len := 1) (p' := 40) (s' := [.int 2, .int y_4]) rfl rfl rfl ?_
  refine ev_b2 (t := 45) (p' := 45) rfl rfl rfl (if_pos c_11) ?_
  refine ev_x (i := .aload_n 0) (len := 1) (p' := 46) (s' := [.ref 66]) rfl rfl rfl ?_
  refine ev_gc (p' := 49) (v := 177) rfl rfl rfl ly_66 rfl rfl ?_
  refine ev_x (i := .aload_n 0) (len := 1) (p' := 50) (s' := [.ref 66, .ref 177]) rfl rfl rfl ?_
  refine ev_gc (p' := 53) (v := 173) rfl rfl rfl ly_66 rfl rfl ?_
  refine ev_x (i := .iload_n 1) (len := 1) (p' := 54) (s' := [.int y_1, .ref 173, .ref 177]) rfl rfl rfl ?_
  refine ev_ga (p' := 55) (v := (gE σ 173 ((y_1).toNatClampNeg))) rfl rfl ly_173 rfl c_7 rfl ?_
  refine ev_x (i := .iload_n 2) (len := 1) (p' := 56) (s' := [.int y_2, .int (gE σ 173 ((y_1).toNatClampNeg)), .ref 177]) rfl rfl rfl ?_
  refine ev_x (i := .iadd) (len := 1) (p' := 57) (s' := [.int ((gE σ 173 ((y_1).toNatClampNeg)) + y_2), .ref 177]) rfl rfl rfl ?_
  refine ev_cv (d := d + 2) (As := [.int ((gE σ 173 ((y_1).toNatClampNeg)) + y_2)]) (a := 177) (p' := 60) rfl rfl rfl ly_177 rfl rfl rfl rfl rfl rfl rfl (lz_201 (d := d + 1) (c_1 := c_12)) ?_
  refine ev_st (st' := [.int (gE σ 178 ((((gE σ 173 ((y_1).toNatClampNeg)) + y_2)).toNatClampNeg))]) rfl ?_
  refine ev_x (i := .iload_n 3) (len := 1) (p' := 61) (s' := [.int y_3, .int (gE σ 178 ((((gE σ 173 ((y_1).toNatClampNeg)) + y_2)).toNatClampNeg))]) rfl rfl rfl ?_
  refine ev_x (i := .iadd) (len := 1) (p' := 62) (s' := [.int ((gE σ 178 ((((gE σ 173 ((y_1).toNatClampNeg)) + y_2)).toNatClampNeg)) + y_3)]) rfl rfl rfl ?_
  refine ev_x (i := .istore 5) (len := 2) (p' := 64) (s' := []) (l' := [(5, .int ((gE σ 178 ((((gE σ 173 ((y_1).toNatClampNeg)) + y_2)).toNatClampNeg)) + y_3)), (0, .ref 66), (1, .int y_1), (2, .int y_2), (3, .int y_3), (4, .int y_4)]) rfl rfl rfl ?_
  refine ev_x (i := .iload 4) (len := 2) (p' := 66) (s' := [.int y_4]) rfl rfl rfl ?_
  refine ev_b0 (t := 79) (p' := 69) rfl rfl rfl (if_neg c_13) ?_
  refine ev_x (i := .aload_n 0) (len := 1) (p' := 70) (s' := [.ref 66]) rfl rfl rfl ?_
  refine ev_gc (p' := 73) (v := 181) rfl rfl rfl ly_66 rfl rfl ?_
  refine ev_x (i := .iload 5) (len := 2) (p' := 75) (s' := [.int ((gE σ 178 ((((gE σ 173 ((y_1).toNatClampNeg)) + y_2)).toNatClampNeg)) + y_3), .ref 181]) rfl rfl rfl ?_
  refine ev_ga (p' := 76) (v := (gE σ 181 ((((gE σ 178 ((((gE σ 173 ((y_1).toNatClampNeg)) + y_2)).toNatClampNeg)) + y_3)).toNatClampNeg))) rfl rfl ly_181 rfl c_14 rfl ?_
  refine ev_x (i := .goto 27) (len := 3) (p' := 103) (s' := [.int (gE σ 181 ((((gE σ 178 ((((gE σ 173 ((y_1).toNatClampNeg)) + y_2)).toNatClampNeg)) + y_3)).toNatClampNeg))]) rfl rfl rfl ?_
  exact ev_iret rfl rfl rfl rfl
set_option maxHeartbeats 4000000 in
set_option maxRecDepth 100000 in
/-- GameTextLaw.law([I)Z -/
theorem lw_130_a0 {d : Nat} {σ : st_S} {q : vz_O × vz_H} {n L : Nat} {xs : Nat → Int32} (hs : gF σ 0 = .inl (0, L, .inl xs)) (hn : n + 6 ≤ L) (hL : L ≤ 3072) (c_1 : ¬ ((xs (n + 1)) < 0)) (c_2 : ¬ ((σ.1 52 10) ≤ (xs (n + 1)))) (c_3 : ¬ ((xs (n + 2)) < 0)) (c_4 : vp_in ((xs (n + 1)) + 1) (gN σ 56)) (c_5 : vp_in (xs (n + 1)) (gN σ 56)) (c_6 : (xs (n + 2)) < ((gE σ 56 ((((xs (n + 1)) + 1)).toNatClampNeg)) - (gE σ 56 (((xs (n + 1))).toNatClampNeg)))) (c_7 : ¬ (((gE σ 56 (((xs (n + 1))).toNatClampNeg)) + (xs (n + 2))) < 0)) (c_8 : ¬ ((xs (n + 3)) < 0)) (c_9 : vp_in (((gE σ 56 (((xs (n + 1))).toNatClampNeg)) + (xs (n + 2))) + 1) (gN σ 58)) (c_10 : vp_in ((gE σ 56 (((xs (n + 1))).toNatClampNeg)) + (xs (n + 2))) (gN σ 58)) (c_11 : (xs (n + 3)) < ((gE σ 58 (((((gE σ 56 (((xs (n + 1))).toNatClampNeg)) + (xs (n + 2))) + 1)).toNatClampNeg)) - (gE σ 58 ((((gE σ 56 (((xs (n + 1))).toNatClampNeg)) + (xs (n + 2)))).toNatClampNeg)))) (c_12 : 0 ≤ ((gE σ 58 ((((gE σ 56 (((xs (n + 1))).toNatClampNeg)) + (xs (n + 2)))).toNatClampNeg)) + (xs (n + 3)))) (c_13 : (xs (n + 4)) = 0) (c_14 : vp_in ((gE σ 58 ((((gE σ 56 (((xs (n + 1))).toNatClampNeg)) + (xs (n + 2)))).toNatClampNeg)) + (xs (n + 3))) (gN σ 59)) (c_15 : ¬ ((σ.1 66 29) ≤ (xs (n + 1)))) (c_16 : vp_in (xs (n + 1)) (gN σ 174)) (c_17 : ¬ ((gE σ 174 (((xs (n + 1))).toNatClampNeg)) ≤ (xs (n + 2)))) (c_18 : vp_in (xs (n + 1)) (gN σ 173)) (c_19 : vp_in ((gE σ 173 (((xs (n + 1))).toNatClampNeg)) + (xs (n + 2))) (gN σ 180)) (c_20 : ¬ ((gE σ 180 ((((gE σ 173 (((xs (n + 1))).toNatClampNeg)) + (xs (n + 2)))).toNatClampNeg)) ≤ (xs (n + 3)))) (c_21 : ¬ ((xs (n + 4)) < 0)) (c_22 : (xs (n + 4)) ≤ 2) (c_23 : vp_in ((gE σ 173 (((xs (n + 1))).toNatClampNeg)) + (xs (n + 2))) (gN σ 178)) (c_24 : ¬ (¬ (xs (n + 4)) = 0)) (c_25 : vp_in ((gE σ 178 ((((gE σ 173 (((xs (n + 1))).toNatClampNeg)) + (xs (n + 2)))).toNatClampNeg)) + (xs (n + 3))) (gN σ 181)) (c_26 : (gE σ 59 ((((gE σ 58 ((((gE σ 56 (((xs (n + 1))).toNatClampNeg)) + (xs (n + 2)))).toNatClampNeg)) + (xs (n + 3)))).toNatClampNeg)) = (gE σ 181 ((((gE σ 178 ((((gE σ 173 (((xs (n + 1))).toNatClampNeg)) + (xs (n + 2)))).toNatClampNeg)) + (xs (n + 3)))).toNatClampNeg))) (k : vz_ev P0 (d + 5) 0 615 [(4, .int (nI n)), (3, .ref 187), (2, .ref 66), (1, .ref 1), (0, .ref 0)] [] (hp (st_i (σ) 66 0 0)) q) : vz_ev P0 (d + 5) 0 554 [(4, .int (nI n)), (3, .ref 187), (2, .ref 66), (1, .ref 1), (0, .ref 0)] [] (hp σ) q := by
  refine ev_x (i := .aload_n 1) (len := 1) (p' := 555) (s' := [.ref 1]) rfl rfl rfl ?_
  refine ev_x (i := .aload_n 0) (len := 1) (p' := 556) (s' := [.ref 0, .ref 1]) rfl rfl rfl ?_
  refine ev_x (i := .iload 4) (len := 2) (p' := 558) (s' := [.int (nI n), .ref 0, .ref 1]) rfl rfl rfl ?_
  refine ev_x (i := .iconst 1) (len := 1) (p' := 559) (s' := [.int 1, .int (nI n), .ref 0, .ref 1]) rfl rfl rfl ?_
  refine ev_x (i := .iadd) (len := 1) (p' := 560) (s' := [.int ((nI n) + 1), .ref 0, .ref 1]) rfl rfl rfl ?_
  refine ev_st (st' := [.int (nI (n + 1)), .ref 0, .ref 1]) (congrArg (fun z => Value.int z :: [.ref 0, .ref 1]) (nI_add n 1)) ?_
  refine ev_sg (p' := 561) rfl rfl hs (vp_in_nI (by omega) (by omega)) rfl ?_
  refine ev_st (st' := [.int (xs (n + 1)), .ref 1]) (congrArg (fun z => Value.int (xs z) :: [.ref 1]) (nI_clamp (n := n + 1) (by omega))) ?_
  refine ev_x (i := .aload_n 0) (len := 1) (p' := 562) (s' := [.ref 0, .int (xs (n + 1)), .ref 1]) rfl rfl rfl ?_
  refine ev_x (i := .iload 4) (len := 2) (p' := 564) (s' := [.int (nI n), .ref 0, .int (xs (n + 1)), .ref 1]) rfl rfl rfl ?_
  refine ev_x (i := .iconst 2) (len := 1) (p' := 565) (s' := [.int 2, .int (nI n), .ref 0, .int (xs (n + 1)), .ref 1]) rfl rfl rfl ?_
  refine ev_x (i := .iadd) (len := 1) (p' := 566) (s' := [.int ((nI n) + 2), .ref 0, .int (xs (n + 1)), .ref 1]) rfl rfl rfl ?_
  refine ev_st (st' := [.int (nI (n + 2)), .ref 0, .int (xs (n + 1)), .ref 1]) (congrArg (fun z => Value.int z :: [.ref 0, .int (xs (n + 1)), .ref 1]) (nI_add n 2)) ?_
  refine ev_sg (p' := 567) rfl rfl hs (vp_in_nI (by omega) (by omega)) rfl ?_
  refine ev_st (st' := [.int (xs (n + 2)), .int (xs (n + 1)), .ref 1]) (congrArg (fun z => Value.int (xs z) :: [.int (xs (n + 1)), .ref 1]) (nI_clamp (n := n + 2) (by omega))) ?_
  refine ev_x (i := .aload_n 0) (len := 1) (p' := 568) (s' := [.ref 0, .int (xs (n + 2)), .int (xs (n + 1)), .ref 1]) rfl rfl rfl ?_
  refine ev_x (i := .iload 4) (len := 2) (p' := 570) (s' := [.int (nI n), .ref 0, .int (xs (n + 2)), .int (xs (n + 1)), .ref 1]) rfl rfl rfl ?_
  refine ev_x (i := .iconst 3) (len := 1) (p' := 571) (s' := [.int 3, .int (nI n), .ref 0, .int (xs (n + 2)), .int (xs (n + 1)), .ref 1]) rfl rfl rfl ?_
  refine ev_x (i := .iadd) (len := 1) (p' := 572) (s' := [.int ((nI n) + 3), .ref 0, .int (xs (n + 2)), .int (xs (n + 1)), .ref 1]) rfl rfl rfl ?_
  refine ev_st (st' := [.int (nI (n + 3)), .ref 0, .int (xs (n + 2)), .int (xs (n + 1)), .ref 1]) (congrArg (fun z => Value.int z :: [.ref 0, .int (xs (n + 2)), .int (xs (n + 1)), .ref 1]) (nI_add n 3)) ?_
  refine ev_sg (p' := 573) rfl rfl hs (vp_in_nI (by omega) (by omega)) rfl ?_
  refine ev_st (st' := [.int (xs (n + 3)), .int (xs (n + 2)), .int (xs (n + 1)), .ref 1]) (congrArg (fun z => Value.int (xs z) :: [.int (xs (n + 2)), .int (xs (n + 1)), .ref 1]) (nI_clamp (n := n + 3) (by omega))) ?_
  refine ev_x (i := .aload_n 0) (len := 1) (p' := 574) (s' := [.ref 0, .int (xs (n + 3)), .int (xs (n + 2)), .int (xs (n + 1)), .ref 1]) rfl rfl rfl ?_
  refine ev_x (i := .iload 4) (len := 2) (p' := 576) (s' := [.int (nI n), .ref 0, .int (xs (n + 3)), .int (xs (n + 2)), .int (xs (n + 1)), .ref 1]) rfl rfl rfl ?_
  refine ev_x (i := .iconst 4) (len := 1) (p' := 577) (s' := [.int 4, .int (nI n), .ref 0, .int (xs (n + 3)), .int (xs (n + 2)), .int (xs (n + 1)), .ref 1]) rfl rfl rfl ?_
  refine ev_x (i := .iadd) (len := 1) (p' := 578) (s' := [.int ((nI n) + 4), .ref 0, .int (xs (n + 3)), .int (xs (n + 2)), .int (xs (n + 1)), .ref 1]) rfl rfl rfl ?_
  refine ev_st (st' := [.int (nI (n + 4)), .ref 0, .int (xs (n + 3)), .int (xs (n + 2)), .int (xs (n + 1)), .ref 1]) (congrArg (fun z => Value.int z :: [.ref 0, .int (xs (n + 3)), .int (xs (n + 2)), .int (xs (n + 1)), .ref 1]) (nI_add n 4)) ?_
  refine ev_sg (p' := 579) rfl rfl hs (vp_in_nI (by omega) (by omega)) rfl ?_
  refine ev_st (st' := [.int (xs (n + 4)), .int (xs (n + 3)), .int (xs (n + 2)), .int (xs (n + 1)), .ref 1]) (congrArg (fun z => Value.int (xs z) :: [.int (xs (n + 3)), .int (xs (n + 2)), .int (xs (n + 1)), .ref 1]) (nI_clamp (n := n + 4) (by omega))) ?_
  refine ev_cv (d := d + 4) (As := [.int (xs (n + 1)), .int (xs (n + 2)), .int (xs (n + 3)), .int (xs (n + 4))]) (a := 1) (p' := 582) rfl rfl rfl ly_1 rfl rfl rfl rfl rfl rfl rfl (lz_197 (d := d + 0) (c_1 := c_1) (c_2 := c_2) (c_3 := c_3) (c_4 := c_4) (c_5 := c_5) (c_6 := c_6) (c_7 := c_7) (c_8 := c_8) (c_9 := c_9) (c_10 := c_10) (c_11 := c_11) (c_12 := c_12) (c_13 := c_13) (c_14 := c_14)) ?_
  refine ev_st (st' := [.int (gE σ 59 ((((gE σ 58 ((((gE σ 56 (((xs (n + 1))).toNatClampNeg)) + (xs (n + 2)))).toNatClampNeg)) + (xs (n + 3)))).toNatClampNeg))]) rfl ?_
  refine ev_x (i := .aload_n 2) (len := 1) (p' := 583) (s' := [.ref 66, .int (gE σ 59 ((((gE σ 58 ((((gE σ 56 (((xs (n + 1))).toNatClampNeg)) + (xs (n + 2)))).toNatClampNeg)) + (xs (n + 3)))).toNatClampNeg))]) rfl rfl rfl ?_
  refine ev_x (i := .aload_n 0) (len := 1) (p' := 584) (s' := [.ref 0, .ref 66, .int (gE σ 59 ((((gE σ 58 ((((gE σ 56 (((xs (n + 1))).toNatClampNeg)) + (xs (n + 2)))).toNatClampNeg)) + (xs (n + 3)))).toNatClampNeg))]) rfl rfl rfl ?_
  refine ev_x (i := .iload 4) (len := 2) (p' := 586) (s' := [.int (nI n), .ref 0, .ref 66, .int (gE σ 59 ((((gE σ 58 ((((gE σ 56 (((xs (n + 1))).toNatClampNeg)) + (xs (n + 2)))).toNatClampNeg)) + (xs (n + 3)))).toNatClampNeg))]) rfl rfl rfl ?_
  refine ev_x (i := .iconst 1) (len := 1) (p' := 587) (s' := [.int 1, .int (nI n), .ref 0, .ref 66, .int (gE σ 59 ((((gE σ 58 ((((gE σ 56 (((xs (n + 1))).toNatClampNeg)) + (xs (n + 2)))).toNatClampNeg)) + (xs (n + 3)))).toNatClampNeg))]) rfl rfl rfl ?_
  refine ev_x (i := .iadd) (len := 1) (p' := 588) (s' := [.int ((nI n) + 1), .ref 0, .ref 66, .int (gE σ 59 ((((gE σ 58 ((((gE σ 56 (((xs (n + 1))).toNatClampNeg)) + (xs (n + 2)))).toNatClampNeg)) + (xs (n + 3)))).toNatClampNeg))]) rfl rfl rfl ?_
  refine ev_st (st' := [.int (nI (n + 1)), .ref 0, .ref 66, .int (gE σ 59 ((((gE σ 58 ((((gE σ 56 (((xs (n + 1))).toNatClampNeg)) + (xs (n + 2)))).toNatClampNeg)) + (xs (n + 3)))).toNatClampNeg))]) (congrArg (fun z => Value.int z :: [.ref 0, .ref 66, .int (gE σ 59 ((((gE σ 58 ((((gE σ 56 (((xs (n + 1))).toNatClampNeg)) + (xs (n + 2)))).toNatClampNeg)) + (xs (n + 3)))).toNatClampNeg))]) (nI_add n 1)) ?_
  refine ev_sg (p' := 589) rfl rfl hs (vp_in_nI (by omega) (by omega)) rfl ?_
  refine ev_st (st' := [.int (xs (n + 1)), .ref 66, .int (gE σ 59 ((((gE σ 58 ((((gE σ 56 (((xs (n + 1))).toNatClampNeg)) + (xs (n + 2)))).toNatClampNeg)) + (xs (n + 3)))).toNatClampNeg))]) (congrArg (fun z => Value.int (xs z) :: [.ref 66, .int (gE σ 59 ((((gE σ 58 ((((gE σ 56 (((xs (n + 1))).toNatClampNeg)) + (xs (n + 2)))).toNatClampNeg)) + (xs (n + 3)))).toNatClampNeg))]) (nI_clamp (n := n + 1) (by omega))) ?_
  refine ev_x (i := .aload_n 0) (len := 1) (p' := 590) (s' := [.ref 0, .int (xs (n + 1)), .ref 66, .int (gE σ 59 ((((gE σ 58 ((((gE σ 56 (((xs (n + 1))).toNatClampNeg)) + (xs (n + 2)))).toNatClampNeg)) + (xs (n + 3)))).toNatClampNeg))]) rfl rfl rfl ?_
  refine ev_x (i := .iload 4) (len := 2) (p' := 592) (s' := [.int (nI n), .ref 0, .int (xs (n + 1)), .ref 66, .int (gE σ 59 ((((gE σ 58 ((((gE σ 56 (((xs (n + 1))).toNatClampNeg)) + (xs (n + 2)))).toNatClampNeg)) + (xs (n + 3)))).toNatClampNeg))]) rfl rfl rfl ?_
  refine ev_x (i := .iconst 2) (len := 1) (p' := 593) (s' := [.int 2, .int (nI n), .ref 0, .int (xs (n + 1)), .ref 66, .int (gE σ 59 ((((gE σ 58 ((((gE σ 56 (((xs (n + 1))).toNatClampNeg)) + (xs (n + 2)))).toNatClampNeg)) + (xs (n + 3)))).toNatClampNeg))]) rfl rfl rfl ?_
  refine ev_x (i := .iadd) (len := 1) (p' := 594) (s' := [.int ((nI n) + 2), .ref 0, .int (xs (n + 1)), .ref 66, .int (gE σ 59 ((((gE σ 58 ((((gE σ 56 (((xs (n + 1))).toNatClampNeg)) + (xs (n + 2)))).toNatClampNeg)) + (xs (n + 3)))).toNatClampNeg))]) rfl rfl rfl ?_
  refine ev_st (st' := [.int (nI (n + 2)), .ref 0, .int (xs (n + 1)), .ref 66, .int (gE σ 59 ((((gE σ 58 ((((gE σ 56 (((xs (n + 1))).toNatClampNeg)) + (xs (n + 2)))).toNatClampNeg)) + (xs (n + 3)))).toNatClampNeg))]) (congrArg (fun z => Value.int z :: [.ref 0, .int (xs (n + 1)), .ref 66, .int (gE σ 59 ((((gE σ 58 ((((gE σ 56 (((xs (n + 1))).toNatClampNeg)) + (xs (n + 2)))).toNatClampNeg)) + (xs (n + 3)))).toNatClampNeg))]) (nI_add n 2)) ?_
  refine ev_sg (p' := 595) rfl rfl hs (vp_in_nI (by omega) (by omega)) rfl ?_
  refine ev_st (st' := [.int (xs (n + 2)), .int (xs (n + 1)), .ref 66, .int (gE σ 59 ((((gE σ 58 ((((gE σ 56 (((xs (n + 1))).toNatClampNeg)) + (xs (n + 2)))).toNatClampNeg)) + (xs (n + 3)))).toNatClampNeg))]) (congrArg (fun z => Value.int (xs z) :: [.int (xs (n + 1)), .ref 66, .int (gE σ 59 ((((gE σ 58 ((((gE σ 56 (((xs (n + 1))).toNatClampNeg)) + (xs (n + 2)))).toNatClampNeg)) + (xs (n + 3)))).toNatClampNeg))]) (nI_clamp (n := n + 2) (by omega))) ?_
  refine ev_x (i := .aload_n 0) (len := 1) (p' := 596) (s' := [.ref 0, .int (xs (n + 2)), .int (xs (n + 1)), .ref 66, .int (gE σ 59 ((((gE σ 58 ((((gE σ 56 (((xs (n + 1))).toNatClampNeg)) + (xs (n + 2)))).toNatClampNeg)) + (xs (n + 3)))).toNatClampNeg))]) rfl rfl rfl ?_
  refine ev_x (i := .iload 4) (len := 2) (p' := 598) (s' := [.int (nI n), .ref 0, .int (xs (n + 2)), .int (xs (n + 1)), .ref 66, .int (gE σ 59 ((((gE σ 58 ((((gE σ 56 (((xs (n + 1))).toNatClampNeg)) + (xs (n + 2)))).toNatClampNeg)) + (xs (n + 3)))).toNatClampNeg))]) rfl rfl rfl ?_
  refine ev_x (i := .iconst 3) (len := 1) (p' := 599) (s' := [.int 3, .int (nI n), .ref 0, .int (xs (n + 2)), .int (xs (n + 1)), .ref 66, .int (gE σ 59 ((((gE σ 58 ((((gE σ 56 (((xs (n + 1))).toNatClampNeg)) + (xs (n + 2)))).toNatClampNeg)) + (xs (n + 3)))).toNatClampNeg))]) rfl rfl rfl ?_
  refine ev_x (i := .iadd) (len := 1) (p' := 600) (s' := [.int ((nI n) + 3), .ref 0, .int (xs (n + 2)), .int (xs (n + 1)), .ref 66, .int (gE σ 59 ((((gE σ 58 ((((gE σ 56 (((xs (n + 1))).toNatClampNeg)) + (xs (n + 2)))).toNatClampNeg)) + (xs (n + 3)))).toNatClampNeg))]) rfl rfl rfl ?_
  refine ev_st (st' := [.int (nI (n + 3)), .ref 0, .int (xs (n + 2)), .int (xs (n + 1)), .ref 66, .int (gE σ 59 ((((gE σ 58 ((((gE σ 56 (((xs (n + 1))).toNatClampNeg)) + (xs (n + 2)))).toNatClampNeg)) + (xs (n + 3)))).toNatClampNeg))]) (congrArg (fun z => Value.int z :: [.ref 0, .int (xs (n + 2)), .int (xs (n + 1)), .ref 66, .int (gE σ 59 ((((gE σ 58 ((((gE σ 56 (((xs (n + 1))).toNatClampNeg)) + (xs (n + 2)))).toNatClampNeg)) + (xs (n + 3)))).toNatClampNeg))]) (nI_add n 3)) ?_
  refine ev_sg (p' := 601) rfl rfl hs (vp_in_nI (by omega) (by omega)) rfl ?_
  refine ev_st (st' := [.int (xs (n + 3)), .int (xs (n + 2)), .int (xs (n + 1)), .ref 66, .int (gE σ 59 ((((gE σ 58 ((((gE σ 56 (((xs (n + 1))).toNatClampNeg)) + (xs (n + 2)))).toNatClampNeg)) + (xs (n + 3)))).toNatClampNeg))]) (congrArg (fun z => Value.int (xs z) :: [.int (xs (n + 2)), .int (xs (n + 1)), .ref 66, .int (gE σ 59 ((((gE σ 58 ((((gE σ 56 (((xs (n + 1))).toNatClampNeg)) + (xs (n + 2)))).toNatClampNeg)) + (xs (n + 3)))).toNatClampNeg))]) (nI_clamp (n := n + 3) (by omega))) ?_
  refine ev_x (i := .aload_n 0) (len := 1) (p' := 602) (s' := [.ref 0, .int (xs (n + 3)), .int (xs (n + 2)), .int (xs (n + 1)), .ref 66, .int (gE σ 59 ((((gE σ 58 ((((gE σ 56 (((xs (n + 1))).toNatClampNeg)) + (xs (n + 2)))).toNatClampNeg)) + (xs (n + 3)))).toNatClampNeg))]) rfl rfl rfl ?_
  refine ev_x (i := .iload 4) (len := 2) (p' := 604) (s' := [.int (nI n), .ref 0, .int (xs (n + 3)), .int (xs (n + 2)), .int (xs (n + 1)), .ref 66, .int (gE σ 59 ((((gE σ 58 ((((gE σ 56 (((xs (n + 1))).toNatClampNeg)) + (xs (n + 2)))).toNatClampNeg)) + (xs (n + 3)))).toNatClampNeg))]) rfl rfl rfl ?_
  refine ev_x (i := .iconst 4) (len := 1) (p' := 605) (s' := [.int 4, .int (nI n), .ref 0, .int (xs (n + 3)), .int (xs (n + 2)), .int (xs (n + 1)), .ref 66, .int (gE σ 59 ((((gE σ 58 ((((gE σ 56 (((xs (n + 1))).toNatClampNeg)) + (xs (n + 2)))).toNatClampNeg)) + (xs (n + 3)))).toNatClampNeg))]) rfl rfl rfl ?_
  refine ev_x (i := .iadd) (len := 1) (p' := 606) (s' := [.int ((nI n) + 4), .ref 0, .int (xs (n + 3)), .int (xs (n + 2)), .int (xs (n + 1)), .ref 66, .int (gE σ 59 ((((gE σ 58 ((((gE σ 56 (((xs (n + 1))).toNatClampNeg)) + (xs (n + 2)))).toNatClampNeg)) + (xs (n + 3)))).toNatClampNeg))]) rfl rfl rfl ?_
  refine ev_st (st' := [.int (nI (n + 4)), .ref 0, .int (xs (n + 3)), .int (xs (n + 2)), .int (xs (n + 1)), .ref 66, .int (gE σ 59 ((((gE σ 58 ((((gE σ 56 (((xs (n + 1))).toNatClampNeg)) + (xs (n + 2)))).toNatClampNeg)) + (xs (n + 3)))).toNatClampNeg))]) (congrArg (fun z => Value.int z :: [.ref 0, .int (xs (n + 3)), .int (xs (n + 2)), .int (xs (n + 1)), .ref 66, .int (gE σ 59 ((((gE σ 58 ((((gE σ 56 (((xs (n + 1))).toNatClampNeg)) + (xs (n + 2)))).toNatClampNeg)) + (xs (n + 3)))).toNatClampNeg))]) (nI_add n 4)) ?_
  refine ev_sg (p' := 607) rfl rfl hs (vp_in_nI (by omega) (by omega)) rfl ?_
  refine ev_st (st' := [.int (xs (n + 4)), .int (xs (n + 3)), .int (xs (n + 2)), .int (xs (n + 1)), .ref 66, .int (gE σ 59 ((((gE σ 58 ((((gE σ 56 (((xs (n + 1))).toNatClampNeg)) + (xs (n + 2)))).toNatClampNeg)) + (xs (n + 3)))).toNatClampNeg))]) (congrArg (fun z => Value.int (xs z) :: [.int (xs (n + 3)), .int (xs (n + 2)), .int (xs (n + 1)), .ref 66, .int (gE σ 59 ((((gE σ 58 ((((gE σ 56 (((xs (n + 1))).toNatClampNeg)) + (xs (n + 2)))).toNatClampNeg)) + (xs (n + 3)))).toNatClampNeg))]) (nI_clamp (n := n + 4) (by omega))) ?_
  refine ev_cv (d := d + 4) (As := [.int (xs (n + 1)), .int (xs (n + 2)), .int (xs (n + 3)), .int (xs (n + 4))]) (a := 66) (p' := 610) rfl rfl rfl ly_66 rfl rfl rfl rfl rfl rfl rfl (lz_202 (d := d + 1) (c_1 := c_1) (c_2 := c_15) (c_3 := c_3) (c_4 := c_16) (c_5 := c_17) (c_6 := c_8) (c_7 := c_18) (c_8 := c_19) (c_9 := c_20) (c_10 := c_21) (c_11 := c_22) (c_12 := c_23) (c_13 := c_24) (c_14 := c_25)) ?_
  refine ev_st (st' := [.int (gE σ 181 ((((gE σ 178 ((((gE σ 173 (((xs (n + 1))).toNatClampNeg)) + (xs (n + 2)))).toNatClampNeg)) + (xs (n + 3)))).toNatClampNeg)), .int (gE σ 59 ((((gE σ 58 ((((gE σ 56 (((xs (n + 1))).toNatClampNeg)) + (xs (n + 2)))).toNatClampNeg)) + (xs (n + 3)))).toNatClampNeg))]) rfl ?_
  refine ev_b2 (t := 615) (p' := 615) rfl rfl rfl (if_pos c_26) ?_
  exact k
set_option maxHeartbeats 4000000 in
set_option maxRecDepth 100000 in
/-- GameText.branch(IIII)I -/
theorem lz_207 {d : Nat} {σ : st_S} {y_1 y_2 y_3 y_4 : Int32} (c_1 : ¬ (y_1 < 0)) (c_2 : ¬ ((σ.1 52 10) ≤ y_1)) (c_3 : ¬ (y_2 < 0)) (c_4 : vp_in (y_1 + 1) (gN σ 56)) (c_5 : vp_in y_1 (gN σ 56)) (c_6 : y_2 < ((gE σ 56 (((y_1 + 1)).toNatClampNeg)) - (gE σ 56 ((y_1).toNatClampNeg)))) (c_7 : ¬ (((gE σ 56 ((y_1).toNatClampNeg)) + y_2) < 0)) (c_8 : ¬ (y_3 < 0)) (c_9 : vp_in (((gE σ 56 ((y_1).toNatClampNeg)) + y_2) + 1) (gN σ 58)) (c_10 : vp_in ((gE σ 56 ((y_1).toNatClampNeg)) + y_2) (gN σ 58)) (c_11 : y_3 < ((gE σ 58 (((((gE σ 56 ((y_1).toNatClampNeg)) + y_2) + 1)).toNatClampNeg)) - (gE σ 58 ((((gE σ 56 ((y_1).toNatClampNeg)) + y_2)).toNatClampNeg)))) (c_12 : 0 ≤ ((gE σ 58 ((((gE σ 56 ((y_1).toNatClampNeg)) + y_2)).toNatClampNeg)) + y_3)) (c_13 : y_4 = 1) (c_14 : vp_in ((gE σ 58 ((((gE σ 56 ((y_1).toNatClampNeg)) + y_2)).toNatClampNeg)) + y_3) (gN σ 60)) : vz_ev P0 (d + 4) 102 0 (lv_args 0 [.ref 1, .int y_1, .int y_2, .int y_3, .int y_4]) [] (hp σ) (.inl (some (.int (gE σ 60 ((((gE σ 58 ((((gE σ 56 ((y_1).toNatClampNeg)) + y_2)).toNatClampNeg)) + y_3)).toNatClampNeg)))), hp (σ)) := by
  refine ev_x (i := .aload_n 0) (len := 1) (p' := 1) (s' := [.ref 1]) rfl rfl rfl ?_
  refine ev_gc (p' := 4) (v := 52) rfl rfl rfl ly_1 rfl rfl ?_
  refine ev_x (i := .iload_n 1) (len := 1) (p' := 5) (s' := [.int y_1, .ref 52]) rfl rfl rfl ?_
  refine ev_x (i := .iload_n 2) (len := 1) (p' := 6) (s' := [.int y_2, .int y_1, .ref 52]) rfl rfl rfl ?_
  refine ev_x (i := .iload_n 3) (len := 1) (p' := 7) (s' := [.int y_3, .int y_2, .int y_1, .ref 52]) rfl rfl rfl ?_
  refine ev_cv (d := d + 3) (As := [.int y_1, .int y_2, .int y_3]) (a := 52) (p' := 10) rfl rfl rfl ly_52 rfl rfl rfl rfl rfl rfl rfl (lz_196 (d := d + 0) (c_1 := c_1) (c_2 := c_2) (c_3 := c_3) (c_4 := c_4) (c_5 := c_5) (c_6 := c_6) (c_7 := c_7) (c_8 := c_8) (c_9 := c_9) (c_10 := c_10) (c_11 := c_11)) ?_
  refine ev_st (st' := [.int ((gE σ 58 ((((gE σ 56 ((y_1).toNatClampNeg)) + y_2)).toNatClampNeg)) + y_3)]) rfl ?_
  refine ev_x (i := .istore 5) (len := 2) (p' := 12) (s' := []) (l' := [(5, .int ((gE σ 58 ((((gE σ 56 ((y_1).toNatClampNeg)) + y_2)).toNatClampNeg)) + y_3)), (0, .ref 1), (1, .int y_1), (2, .int y_2), (3, .int y_3), (4, .int y_4)]) rfl rfl rfl ?_
  refine ev_x (i := .iload 5) (len := 2) (p' := 14) (s' := [.int ((gE σ 58 ((((gE σ 56 ((y_1).toNatClampNeg)) + y_2)).toNatClampNeg)) + y_3)]) rfl rfl rfl ?_
  refine ev_b0 (t := 19) (p' := 19) rfl rfl rfl (if_pos c_12) ?_
  refine ev_x (i := .iload 4) (len := 2) (p' := 21) (s' := [.int y_4]) rfl rfl rfl ?_
  refine ev_st (st' := [.int 1]) (congrArg (fun z => Value.int z :: []) c_13) ?_
  refine ev_ts (off := 38) (t := 59) rfl rfl (by decide) rfl ?_
  refine ev_x (i := .aload_n 0) (len := 1) (p' := 60) (s' := [.ref 1]) rfl rfl rfl ?_
  refine ev_gc (p' := 63) (v := 52) rfl rfl rfl ly_1 rfl rfl ?_
  refine ev_gc (p' := 66) (v := 60) rfl rfl rfl ly_52 rfl rfl ?_
  refine ev_x (i := .iload 5) (len := 2) (p' := 68) (s' := [.int ((gE σ 58 ((((gE σ 56 ((y_1).toNatClampNeg)) + y_2)).toNatClampNeg)) + y_3), .ref 60]) rfl rfl rfl ?_
  refine ev_ga (p' := 69) (v := (gE σ 60 ((((gE σ 58 ((((gE σ 56 ((y_1).toNatClampNeg)) + y_2)).toNatClampNeg)) + y_3)).toNatClampNeg))) rfl rfl ly_60 rfl c_14 rfl ?_
  exact ev_iret rfl rfl rfl rfl
set_option maxHeartbeats 4000000 in
set_option maxRecDepth 100000 in
/-- GameTextModel.branch(IIII)I -/
theorem lz_212 {d : Nat} {σ : st_S} {y_1 y_2 y_3 y_4 : Int32} (c_1 : ¬ (y_1 < 0)) (c_2 : ¬ ((σ.1 66 29) ≤ y_1)) (c_3 : ¬ (y_2 < 0)) (c_4 : vp_in y_1 (gN σ 174)) (c_5 : ¬ ((gE σ 174 ((y_1).toNatClampNeg)) ≤ y_2)) (c_6 : ¬ (y_3 < 0)) (c_7 : vp_in y_1 (gN σ 173)) (c_8 : vp_in ((gE σ 173 ((y_1).toNatClampNeg)) + y_2) (gN σ 180)) (c_9 : ¬ ((gE σ 180 ((((gE σ 173 ((y_1).toNatClampNeg)) + y_2)).toNatClampNeg)) ≤ y_3)) (c_10 : ¬ (y_4 < 0)) (c_11 : y_4 ≤ 2) (c_12 : vp_in ((gE σ 173 ((y_1).toNatClampNeg)) + y_2) (gN σ 178)) (c_13 : ¬ y_4 = 0) (c_14 : ¬ (¬ y_4 = 1)) (c_15 : vp_in ((gE σ 178 ((((gE σ 173 ((y_1).toNatClampNeg)) + y_2)).toNatClampNeg)) + y_3) (gN σ 182)) : vz_ev P0 (d + 3) 229 0 (lv_args 0 [.ref 66, .int y_1, .int y_2, .int y_3, .int y_4]) [] (hp σ) (.inl (some (.int ((gL σ 182 ((((gE σ 178 ((((gE σ 173 ((y_1).toNatClampNeg)) + y_2)).toNatClampNeg)) + y_3)).toNatClampNeg)) : Int64).toInt32)), hp (st_i (σ) 66 0 0)) := by
  refine ev_x (i := .aload_n 0) (len := 1) (p' := 1) (s' := [.ref 66]) rfl rfl rfl ?_
  refine ev_x (i := .iload_n 1) (len := 1) (p' := 2) (s' := [.int y_1, .ref 66]) rfl rfl rfl ?_
  refine ev_x (i := .iload_n 2) (len := 1) (p' := 3) (s' := [.int y_2, .int y_1, .ref 66]) rfl rfl rfl ?_
  refine ev_cv (d := d + 2) (As := [.int y_1, .int y_2]) (a := 66) (p' := 6) rfl rfl rfl ly_66 rfl rfl rfl rfl rfl rfl rfl (lz_105 (d := d + 0) (c_1 := c_1) (c_2 := c_2) (c_3 := c_3) (c_4 := c_4) (c_5 := c_5)) ?_
  refine ev_st (st' := [.int 1]) rfl ?_
  refine ev_b0 (t := 43) (p' := 9) rfl rfl rfl (by decide) ?_
  refine ev_x (i := .iload_n 3) (len := 1) (p' := 10) (s' := [.int y_3]) rfl rfl rfl ?_
  refine ev_b0 (t := 43) (p' := 13) rfl rfl rfl (if_neg c_6) ?_
  refine ev_x (i := .iload_n 3) (len := 1) (p' := 14) (s' := [.int y_3]) rfl rfl rfl ?_
  refine ev_x (i := .aload_n 0) (len := 1) (p' := 15) (s' := [.ref 66, .int y_3]) rfl rfl rfl ?_
  refine ev_gc (p' := 18) (v := 179) rfl rfl rfl ly_66 rfl rfl ?_
  refine ev_x (i := .aload_n 0) (len := 1) (p' := 19) (s' := [.ref 66, .ref 179, .int y_3]) rfl rfl rfl ?_
  refine ev_gc (p' := 22) (v := 173) rfl rfl rfl ly_66 rfl rfl ?_
  refine ev_x (i := .iload_n 1) (len := 1) (p' := 23) (s' := [.int y_1, .ref 173, .ref 179, .int y_3]) rfl rfl rfl ?_
  refine ev_ga (p' := 24) (v := (gE σ 173 ((y_1).toNatClampNeg))) rfl rfl ly_173 rfl c_7 rfl ?_
  refine ev_x (i := .iload_n 2) (len := 1) (p' := 25) (s' := [.int y_2, .int (gE σ 173 ((y_1).toNatClampNeg)), .ref 179, .int y_3]) rfl rfl rfl ?_
  refine ev_x (i := .iadd) (len := 1) (p' := 26) (s' := [.int ((gE σ 173 ((y_1).toNatClampNeg)) + y_2), .ref 179, .int y_3]) rfl rfl rfl ?_
  refine ev_cv (d := d + 2) (As := [.int ((gE σ 173 ((y_1).toNatClampNeg)) + y_2)]) (a := 179) (p' := 29) rfl rfl rfl ly_179 rfl rfl rfl rfl rfl rfl rfl (lz_142 (d := d + 1) (c_1 := c_8)) ?_
  refine ev_st (st' := [.int (gE σ 180 ((((gE σ 173 ((y_1).toNatClampNeg)) + y_2)).toNatClampNeg)), .int y_3]) rfl ?_
  refine ev_b2 (t := 43) (p' := 32) rfl rfl rfl (if_neg c_9) ?_
  refine ev_x (i := .iload 4) (len := 2) (p' := 34) (s' := [.int y_4]) rfl rfl rfl ?_
  refine ev_b0 (t := 43) (p' := 37) rfl rfl rfl (if_neg c_10) ?_
  refine ev_x (i := .iload 4) (len := 2) (p' := 39) (s' := [.int y_4]) rfl rfl rfl ?_
  refine ev_x (i := .iconst 2) (len := 1) (p' := 40) (s' := [.int 2, .int y_4]) rfl rfl rfl ?_
  refine ev_b2 (t := 45) (p' := 45) rfl rfl rfl (if_pos c_11) ?_
  refine ev_x (i := .aload_n 0) (len := 1) (p' := 46) (s' := [.ref 66]) rfl rfl rfl ?_
  refine ev_gc (p' := 49) (v := 177) rfl rfl rfl ly_66 rfl rfl ?_
  refine ev_x (i := .aload_n 0) (len := 1) (p' := 50) (s' := [.ref 66, .ref 177]) rfl rfl rfl ?_
  refine ev_gc (p' := 53) (v := 173) rfl rfl rfl ly_66 rfl rfl ?_
  refine ev_x (i := .iload_n 1) (len := 1) (p' := 54) (s' := [.int y_1, .ref 173, .ref 177]) rfl rfl rfl ?_
  refine ev_ga (p' := 55) (v := (gE σ 173 ((y_1).toNatClampNeg))) rfl rfl ly_173 rfl c_7 rfl ?_
  refine ev_x (i := .iload_n 2) (len := 1) (p' := 56) (s' := [.int y_2, .int (gE σ 173 ((y_1).toNatClampNeg)), .ref 177]) rfl rfl rfl ?_
  refine ev_x (i := .iadd) (len := 1) (p' := 57) (s' := [.int ((gE σ 173 ((y_1).toNatClampNeg)) + y_2), .ref 177]) rfl rfl rfl ?_
  refine ev_cv (d := d + 2) (As := [.int ((gE σ 173 ((y_1).toNatClampNeg)) + y_2)]) (a := 177) (p' := 60) rfl rfl rfl ly_177 rfl rfl rfl rfl rfl rfl rfl (lz_201 (d := d + 1) (c_1 := c_12)) ?_
  refine ev_st (st' := [.int (gE σ 178 ((((gE σ 173 ((y_1).toNatClampNeg)) + y_2)).toNatClampNeg))]) rfl ?_
  refine ev_x (i := .iload_n 3) (len := 1) (p' := 61) (s' := [.int y_3, .int (gE σ 178 ((((gE σ 173 ((y_1).toNatClampNeg)) + y_2)).toNatClampNeg))]) rfl rfl rfl ?_
  refine ev_x (i := .iadd) (len := 1) (p' := 62) (s' := [.int ((gE σ 178 ((((gE σ 173 ((y_1).toNatClampNeg)) + y_2)).toNatClampNeg)) + y_3)]) rfl rfl rfl ?_
  refine ev_x (i := .istore 5) (len := 2) (p' := 64) (s' := []) (l' := [(5, .int ((gE σ 178 ((((gE σ 173 ((y_1).toNatClampNeg)) + y_2)).toNatClampNeg)) + y_3)), (0, .ref 66), (1, .int y_1), (2, .int y_2), (3, .int y_3), (4, .int y_4)]) rfl rfl rfl ?_
  refine ev_x (i := .iload 4) (len := 2) (p' := 66) (s' := [.int y_4]) rfl rfl rfl ?_
  refine ev_b0 (t := 79) (p' := 79) rfl rfl rfl (if_pos c_13) ?_
  refine ev_x (i := .iload 4) (len := 2) (p' := 81) (s' := [.int y_4]) rfl rfl rfl ?_
  refine ev_x (i := .iconst 1) (len := 1) (p' := 82) (s' := [.int 1, .int y_4]) rfl rfl rfl ?_
  refine ev_b2 (t := 95) (p' := 85) rfl rfl rfl (if_neg c_14) ?_
  refine ev_x (i := .aload_n 0) (len := 1) (p' := 86) (s' := [.ref 66]) rfl rfl rfl ?_
  refine ev_gc (p' := 89) (v := 182) rfl rfl rfl ly_66 rfl rfl ?_
  refine ev_x (i := .iload 5) (len := 2) (p' := 91) (s' := [.int ((gE σ 178 ((((gE σ 173 ((y_1).toNatClampNeg)) + y_2)).toNatClampNeg)) + y_3), .ref 182]) rfl rfl rfl ?_
  refine ev_gL (p' := 92) (v := (gL σ 182 ((((gE σ 178 ((((gE σ 173 ((y_1).toNatClampNeg)) + y_2)).toNatClampNeg)) + y_3)).toNatClampNeg))) rfl rfl ly_182 rfl c_15 rfl ?_
  refine ev_x (i := .goto 10) (len := 3) (p' := 102) (s' := [.long (gL σ 182 ((((gE σ 178 ((((gE σ 173 ((y_1).toNatClampNeg)) + y_2)).toNatClampNeg)) + y_3)).toNatClampNeg))]) rfl rfl rfl ?_
  refine ev_x (i := .l2i) (len := 1) (p' := 103) (s' := [.int ((gL σ 182 ((((gE σ 178 ((((gE σ 173 ((y_1).toNatClampNeg)) + y_2)).toNatClampNeg)) + y_3)).toNatClampNeg)) : Int64).toInt32]) rfl rfl rfl ?_
  exact ev_iret rfl rfl rfl rfl
set_option maxHeartbeats 4000000 in
set_option maxRecDepth 100000 in
/-- GameTextLaw.law([I)Z -/
theorem lw_131_a0 {d : Nat} {σ : st_S} {q : vz_O × vz_H} {n L : Nat} {xs : Nat → Int32} (hs : gF σ 0 = .inl (0, L, .inl xs)) (hn : n + 6 ≤ L) (hL : L ≤ 3072) (c_1 : ¬ ((xs (n + 1)) < 0)) (c_2 : ¬ ((σ.1 52 10) ≤ (xs (n + 1)))) (c_3 : ¬ ((xs (n + 2)) < 0)) (c_4 : vp_in ((xs (n + 1)) + 1) (gN σ 56)) (c_5 : vp_in (xs (n + 1)) (gN σ 56)) (c_6 : (xs (n + 2)) < ((gE σ 56 ((((xs (n + 1)) + 1)).toNatClampNeg)) - (gE σ 56 (((xs (n + 1))).toNatClampNeg)))) (c_7 : ¬ (((gE σ 56 (((xs (n + 1))).toNatClampNeg)) + (xs (n + 2))) < 0)) (c_8 : ¬ ((xs (n + 3)) < 0)) (c_9 : vp_in (((gE σ 56 (((xs (n + 1))).toNatClampNeg)) + (xs (n + 2))) + 1) (gN σ 58)) (c_10 : vp_in ((gE σ 56 (((xs (n + 1))).toNatClampNeg)) + (xs (n + 2))) (gN σ 58)) (c_11 : (xs (n + 3)) < ((gE σ 58 (((((gE σ 56 (((xs (n + 1))).toNatClampNeg)) + (xs (n + 2))) + 1)).toNatClampNeg)) - (gE σ 58 ((((gE σ 56 (((xs (n + 1))).toNatClampNeg)) + (xs (n + 2)))).toNatClampNeg)))) (c_12 : 0 ≤ ((gE σ 58 ((((gE σ 56 (((xs (n + 1))).toNatClampNeg)) + (xs (n + 2)))).toNatClampNeg)) + (xs (n + 3)))) (c_13 : (xs (n + 4)) = 1) (c_14 : vp_in ((gE σ 58 ((((gE σ 56 (((xs (n + 1))).toNatClampNeg)) + (xs (n + 2)))).toNatClampNeg)) + (xs (n + 3))) (gN σ 60)) (c_15 : ¬ ((σ.1 66 29) ≤ (xs (n + 1)))) (c_16 : vp_in (xs (n + 1)) (gN σ 174)) (c_17 : ¬ ((gE σ 174 (((xs (n + 1))).toNatClampNeg)) ≤ (xs (n + 2)))) (c_18 : vp_in (xs (n + 1)) (gN σ 173)) (c_19 : vp_in ((gE σ 173 (((xs (n + 1))).toNatClampNeg)) + (xs (n + 2))) (gN σ 180)) (c_20 : ¬ ((gE σ 180 ((((gE σ 173 (((xs (n + 1))).toNatClampNeg)) + (xs (n + 2)))).toNatClampNeg)) ≤ (xs (n + 3)))) (c_21 : ¬ ((xs (n + 4)) < 0)) (c_22 : (xs (n + 4)) ≤ 2) (c_23 : vp_in ((gE σ 173 (((xs (n + 1))).toNatClampNeg)) + (xs (n + 2))) (gN σ 178)) (c_24 : ¬ (xs (n + 4)) = 0) (c_25 : ¬ (¬ (xs (n + 4)) = 1)) (c_26 : vp_in ((gE σ 178 ((((gE σ 173 (((xs (n + 1))).toNatClampNeg)) + (xs (n + 2)))).toNatClampNeg)) + (xs (n + 3))) (gN σ 182)) (c_27 : (gE σ 60 ((((gE σ 58 ((((gE σ 56 (((xs (n + 1))).toNatClampNeg)) + (xs (n + 2)))).toNatClampNeg)) + (xs (n + 3)))).toNatClampNeg)) = ((gL σ 182 ((((gE σ 178 ((((gE σ 173 (((xs (n + 1))).toNatClampNeg)) + (xs (n + 2)))).toNatClampNeg)) + (xs (n + 3)))).toNatClampNeg)) : Int64).toInt32) (k : vz_ev P0 (d + 5) 0 615 [(4, .int (nI n)), (3, .ref 187), (2, .ref 66), (1, .ref 1), (0, .ref 0)] [] (hp (st_i (σ) 66 0 0)) q) : vz_ev P0 (d + 5) 0 554 [(4, .int (nI n)), (3, .ref 187), (2, .ref 66), (1, .ref 1), (0, .ref 0)] [] (hp σ) q := by
  refine ev_x (i := .aload_n 1) (len := 1) (p' := 555) (s' := [.ref 1]) rfl rfl rfl ?_
  refine ev_x (i := .aload_n 0) (len := 1) (p' := 556) (s' := [.ref 0, .ref 1]) rfl rfl rfl ?_
  refine ev_x (i := .iload 4) (len := 2) (p' := 558) (s' := [.int (nI n), .ref 0, .ref 1]) rfl rfl rfl ?_
  refine ev_x (i := .iconst 1) (len := 1) (p' := 559) (s' := [.int 1, .int (nI n), .ref 0, .ref 1]) rfl rfl rfl ?_
  refine ev_x (i := .iadd) (len := 1) (p' := 560) (s' := [.int ((nI n) + 1), .ref 0, .ref 1]) rfl rfl rfl ?_
  refine ev_st (st' := [.int (nI (n + 1)), .ref 0, .ref 1]) (congrArg (fun z => Value.int z :: [.ref 0, .ref 1]) (nI_add n 1)) ?_
  refine ev_sg (p' := 561) rfl rfl hs (vp_in_nI (by omega) (by omega)) rfl ?_
  refine ev_st (st' := [.int (xs (n + 1)), .ref 1]) (congrArg (fun z => Value.int (xs z) :: [.ref 1]) (nI_clamp (n := n + 1) (by omega))) ?_
  refine ev_x (i := .aload_n 0) (len := 1) (p' := 562) (s' := [.ref 0, .int (xs (n + 1)), .ref 1]) rfl rfl rfl ?_
  refine ev_x (i := .iload 4) (len := 2) (p' := 564) (s' := [.int (nI n), .ref 0, .int (xs (n + 1)), .ref 1]) rfl rfl rfl ?_
  refine ev_x (i := .iconst 2) (len := 1) (p' := 565) (s' := [.int 2, .int (nI n), .ref 0, .int (xs (n + 1)), .ref 1]) rfl rfl rfl ?_
  refine ev_x (i := .iadd) (len := 1) (p' := 566) (s' := [.int ((nI n) + 2), .ref 0, .int (xs (n + 1)), .ref 1]) rfl rfl rfl ?_
  refine ev_st (st' := [.int (nI (n + 2)), .ref 0, .int (xs (n + 1)), .ref 1]) (congrArg (fun z => Value.int z :: [.ref 0, .int (xs (n + 1)), .ref 1]) (nI_add n 2)) ?_
  refine ev_sg (p' := 567) rfl rfl hs (vp_in_nI (by omega) (by omega)) rfl ?_
  refine ev_st (st' := [.int (xs (n + 2)), .int (xs (n + 1)), .ref 1]) (congrArg (fun z => Value.int (xs z) :: [.int (xs (n + 1)), .ref 1]) (nI_clamp (n := n + 2) (by omega))) ?_
  refine ev_x (i := .aload_n 0) (len := 1) (p' := 568) (s' := [.ref 0, .int (xs (n + 2)), .int (xs (n + 1)), .ref 1]) rfl rfl rfl ?_
  refine ev_x (i := .iload 4) (len := 2) (p' := 570) (s' := [.int (nI n), .ref 0, .int (xs (n + 2)), .int (xs (n + 1)), .ref 1]) rfl rfl rfl ?_
  refine ev_x (i := .iconst 3) (len := 1) (p' := 571) (s' := [.int 3, .int (nI n), .ref 0, .int (xs (n + 2)), .int (xs (n + 1)), .ref 1]) rfl rfl rfl ?_
  refine ev_x (i := .iadd) (len := 1) (p' := 572) (s' := [.int ((nI n) + 3), .ref 0, .int (xs (n + 2)), .int (xs (n + 1)), .ref 1]) rfl rfl rfl ?_
  refine ev_st (st' := [.int (nI (n + 3)), .ref 0, .int (xs (n + 2)), .int (xs (n + 1)), .ref 1]) (congrArg (fun z => Value.int z :: [.ref 0, .int (xs (n + 2)), .int (xs (n + 1)), .ref 1]) (nI_add n 3)) ?_
  refine ev_sg (p' := 573) rfl rfl hs (vp_in_nI (by omega) (by omega)) rfl ?_
  refine ev_st (st' := [.int (xs (n + 3)), .int (xs (n + 2)), .int (xs (n + 1)), .ref 1]) (congrArg (fun z => Value.int (xs z) :: [.int (xs (n + 2)), .int (xs (n + 1)), .ref 1]) (nI_clamp (n := n + 3) (by omega))) ?_
  refine ev_x (i := .aload_n 0) (len := 1) (p' := 574) (s' := [.ref 0, .int (xs (n + 3)), .int (xs (n + 2)), .int (xs (n + 1)), .ref 1]) rfl rfl rfl ?_
  refine ev_x (i := .iload 4) (len := 2) (p' := 576) (s' := [.int (nI n), .ref 0, .int (xs (n + 3)), .int (xs (n + 2)), .int (xs (n + 1)), .ref 1]) rfl rfl rfl ?_
  refine ev_x (i := .iconst 4) (len := 1) (p' := 577) (s' := [.int 4, .int (nI n), .ref 0, .int (xs (n + 3)), .int (xs (n + 2)), .int (xs (n + 1)), .ref 1]) rfl rfl rfl ?_
  refine ev_x (i := .iadd) (len := 1) (p' := 578) (s' := [.int ((nI n) + 4), .ref 0, .int (xs (n + 3)), .int (xs (n + 2)), .int (xs (n + 1)), .ref 1]) rfl rfl rfl ?_
  refine ev_st (st' := [.int (nI (n + 4)), .ref 0, .int (xs (n + 3)), .int (xs (n + 2)), .int (xs (n + 1)), .ref 1]) (congrArg (fun z => Value.int z :: [.ref 0, .int (xs (n + 3)), .int (xs (n + 2)), .int (xs (n + 1)), .ref 1]) (nI_add n 4)) ?_
  refine ev_sg (p' := 579) rfl rfl hs (vp_in_nI (by omega) (by omega)) rfl ?_
  refine ev_st (st' := [.int (xs (n + 4)), .int (xs (n + 3)), .int (xs (n + 2)), .int (xs (n + 1)), .ref 1]) (congrArg (fun z => Value.int (xs z) :: [.int (xs (n + 3)), .int (xs (n + 2)), .int (xs (n + 1)), .ref 1]) (nI_clamp (n := n + 4) (by omega))) ?_
  refine ev_cv (d := d + 4) (As := [.int (xs (n + 1)), .int (xs (n + 2)), .int (xs (n + 3)), .int (xs (n + 4))]) (a := 1) (p' := 582) rfl rfl rfl ly_1 rfl rfl rfl rfl rfl rfl rfl (lz_207 (d := d + 0) (c_1 := c_1) (c_2 := c_2) (c_3 := c_3) (c_4 := c_4) (c_5 := c_5) (c_6 := c_6) (c_7 := c_7) (c_8 := c_8) (c_9 := c_9) (c_10 := c_10) (c_11 := c_11) (c_12 := c_12) (c_13 := c_13) (c_14 := c_14)) ?_
  refine ev_st (st' := [.int (gE σ 60 ((((gE σ 58 ((((gE σ 56 (((xs (n + 1))).toNatClampNeg)) + (xs (n + 2)))).toNatClampNeg)) + (xs (n + 3)))).toNatClampNeg))]) rfl ?_
  refine ev_x (i := .aload_n 2) (len := 1) (p' := 583) (s' := [.ref 66, .int (gE σ 60 ((((gE σ 58 ((((gE σ 56 (((xs (n + 1))).toNatClampNeg)) + (xs (n + 2)))).toNatClampNeg)) + (xs (n + 3)))).toNatClampNeg))]) rfl rfl rfl ?_
  refine ev_x (i := .aload_n 0) (len := 1) (p' := 584) (s' := [.ref 0, .ref 66, .int (gE σ 60 ((((gE σ 58 ((((gE σ 56 (((xs (n + 1))).toNatClampNeg)) + (xs (n + 2)))).toNatClampNeg)) + (xs (n + 3)))).toNatClampNeg))]) rfl rfl rfl ?_
  refine ev_x (i := .iload 4) (len := 2) (p' := 586) (s' := [.int (nI n), .ref 0, .ref 66, .int (gE σ 60 ((((gE σ 58 ((((gE σ 56 (((xs (n + 1))).toNatClampNeg)) + (xs (n + 2)))).toNatClampNeg)) + (xs (n + 3)))).toNatClampNeg))]) rfl rfl rfl ?_
  refine ev_x (i := .iconst 1) (len := 1) (p' := 587) (s' := [.int 1, .int (nI n), .ref 0, .ref 66, .int (gE σ 60 ((((gE σ 58 ((((gE σ 56 (((xs (n + 1))).toNatClampNeg)) + (xs (n + 2)))).toNatClampNeg)) + (xs (n + 3)))).toNatClampNeg))]) rfl rfl rfl ?_
  refine ev_x (i := .iadd) (len := 1) (p' := 588) (s' := [.int ((nI n) + 1), .ref 0, .ref 66, .int (gE σ 60 ((((gE σ 58 ((((gE σ 56 (((xs (n + 1))).toNatClampNeg)) + (xs (n + 2)))).toNatClampNeg)) + (xs (n + 3)))).toNatClampNeg))]) rfl rfl rfl ?_
  refine ev_st (st' := [.int (nI (n + 1)), .ref 0, .ref 66, .int (gE σ 60 ((((gE σ 58 ((((gE σ 56 (((xs (n + 1))).toNatClampNeg)) + (xs (n + 2)))).toNatClampNeg)) + (xs (n + 3)))).toNatClampNeg))]) (congrArg (fun z => Value.int z :: [.ref 0, .ref 66, .int (gE σ 60 ((((gE σ 58 ((((gE σ 56 (((xs (n + 1))).toNatClampNeg)) + (xs (n + 2)))).toNatClampNeg)) + (xs (n + 3)))).toNatClampNeg))]) (nI_add n 1)) ?_
  refine ev_sg (p' := 589) rfl rfl hs (vp_in_nI (by omega) (by omega)) rfl ?_
  refine ev_st (st' := [.int (xs (n + 1)), .ref 66, .int (gE σ 60 ((((gE σ 58 ((((gE σ 56 (((xs (n + 1))).toNatClampNeg)) + (xs (n + 2)))).toNatClampNeg)) + (xs (n + 3)))).toNatClampNeg))]) (congrArg (fun z => Value.int (xs z) :: [.ref 66, .int (gE σ 60 ((((gE σ 58 ((((gE σ 56 (((xs (n + 1))).toNatClampNeg)) + (xs (n + 2)))).toNatClampNeg)) + (xs (n + 3)))).toNatClampNeg))]) (nI_clamp (n := n + 1) (by omega))) ?_
  refine ev_x (i := .aload_n 0) (len := 1) (p' := 590) (s' := [.ref 0, .int (xs (n + 1)), .ref 66, .int (gE σ 60 ((((gE σ 58 ((((gE σ 56 (((xs (n + 1))).toNatClampNeg)) + (xs (n + 2)))).toNatClampNeg)) + (xs (n + 3)))).toNatClampNeg))]) rfl rfl rfl ?_
  refine ev_x (i := .iload 4) (len := 2) (p' := 592) (s' := [.int (nI n), .ref 0, .int (xs (n + 1)), .ref 66, .int (gE σ 60 ((((gE σ 58 ((((gE σ 56 (((xs (n + 1))).toNatClampNeg)) + (xs (n + 2)))).toNatClampNeg)) + (xs (n + 3)))).toNatClampNeg))]) rfl rfl rfl ?_
  refine ev_x (i := .iconst 2) (len := 1) (p' := 593) (s' := [.int 2, .int (nI n), .ref 0, .int (xs (n + 1)), .ref 66, .int (gE σ 60 ((((gE σ 58 ((((gE σ 56 (((xs (n + 1))).toNatClampNeg)) + (xs (n + 2)))).toNatClampNeg)) + (xs (n + 3)))).toNatClampNeg))]) rfl rfl rfl ?_
  refine ev_x (i := .iadd) (len := 1) (p' := 594) (s' := [.int ((nI n) + 2), .ref 0, .int (xs (n + 1)), .ref 66, .int (gE σ 60 ((((gE σ 58 ((((gE σ 56 (((xs (n + 1))).toNatClampNeg)) + (xs (n + 2)))).toNatClampNeg)) + (xs (n + 3)))).toNatClampNeg))]) rfl rfl rfl ?_
  refine ev_st (st' := [.int (nI (n + 2)), .ref 0, .int (xs (n + 1)), .ref 66, .int (gE σ 60 ((((gE σ 58 ((((gE σ 56 (((xs (n + 1))).toNatClampNeg)) + (xs (n + 2)))).toNatClampNeg)) + (xs (n + 3)))).toNatClampNeg))]) (congrArg (fun z => Value.int z :: [.ref 0, .int (xs (n + 1)), .ref 66, .int (gE σ 60 ((((gE σ 58 ((((gE σ 56 (((xs (n + 1))).toNatClampNeg)) + (xs (n + 2)))).toNatClampNeg)) + (xs (n + 3)))).toNatClampNeg))]) (nI_add n 2)) ?_
  refine ev_sg (p' := 595) rfl rfl hs (vp_in_nI (by omega) (by omega)) rfl ?_
  refine ev_st (st' := [.int (xs (n + 2)), .int (xs (n + 1)), .ref 66, .int (gE σ 60 ((((gE σ 58 ((((gE σ 56 (((xs (n + 1))).toNatClampNeg)) + (xs (n + 2)))).toNatClampNeg)) + (xs (n + 3)))).toNatClampNeg))]) (congrArg (fun z => Value.int (xs z) :: [.int (xs (n + 1)), .ref 66, .int (gE σ 60 ((((gE σ 58 ((((gE σ 56 (((xs (n + 1))).toNatClampNeg)) + (xs (n + 2)))).toNatClampNeg)) + (xs (n + 3)))).toNatClampNeg))]) (nI_clamp (n := n + 2) (by omega))) ?_
  refine ev_x (i := .aload_n 0) (len := 1) (p' := 596) (s' := [.ref 0, .int (xs (n + 2)), .int (xs (n + 1)), .ref 66, .int (gE σ 60 ((((gE σ 58 ((((gE σ 56 (((xs (n + 1))).toNatClampNeg)) + (xs (n + 2)))).toNatClampNeg)) + (xs (n + 3)))).toNatClampNeg))]) rfl rfl rfl ?_
  refine ev_x (i := .iload 4) (len := 2) (p' := 598) (s' := [.int (nI n), .ref 0, .int (xs (n + 2)), .int (xs (n + 1)), .ref 66, .int (gE σ 60 ((((gE σ 58 ((((gE σ 56 (((xs (n + 1))).toNatClampNeg)) + (xs (n + 2)))).toNatClampNeg)) + (xs (n + 3)))).toNatClampNeg))]) rfl rfl rfl ?_
  refine ev_x (i := .iconst 3) (len := 1) (p' := 599) (s' := [.int 3, .int (nI n), .ref 0, .int (xs (n + 2)), .int (xs (n + 1)), .ref 66, .int (gE σ 60 ((((gE σ 58 ((((gE σ 56 (((xs (n + 1))).toNatClampNeg)) + (xs (n + 2)))).toNatClampNeg)) + (xs (n + 3)))).toNatClampNeg))]) rfl rfl rfl ?_
  refine ev_x (i := .iadd) (len := 1) (p' := 600) (s' := [.int ((nI n) + 3), .ref 0, .int (xs (n + 2)), .int (xs (n + 1)), .ref 66, .int (gE σ 60 ((((gE σ 58 ((((gE σ 56 (((xs (n + 1))).toNatClampNeg)) + (xs (n + 2)))).toNatClampNeg)) + (xs (n + 3)))).toNatClampNeg))]) rfl rfl rfl ?_
  refine ev_st (st' := [.int (nI (n + 3)), .ref 0, .int (xs (n + 2)), .int (xs (n + 1)), .ref 66, .int (gE σ 60 ((((gE σ 58 ((((gE σ 56 (((xs (n + 1))).toNatClampNeg)) + (xs (n + 2)))).toNatClampNeg)) + (xs (n + 3)))).toNatClampNeg))]) (congrArg (fun z => Value.int z :: [.ref 0, .int (xs (n + 2)), .int (xs (n + 1)), .ref 66, .int (gE σ 60 ((((gE σ 58 ((((gE σ 56 (((xs (n + 1))).toNatClampNeg)) + (xs (n + 2)))).toNatClampNeg)) + (xs (n + 3)))).toNatClampNeg))]) (nI_add n 3)) ?_
  refine ev_sg (p' := 601) rfl rfl hs (vp_in_nI (by omega) (by omega)) rfl ?_
  refine ev_st (st' := [.int (xs (n + 3)), .int (xs (n + 2)), .int (xs (n + 1)), .ref 66, .int (gE σ 60 ((((gE σ 58 ((((gE σ 56 (((xs (n + 1))).toNatClampNeg)) + (xs (n + 2)))).toNatClampNeg)) + (xs (n + 3)))).toNatClampNeg))]) (congrArg (fun z => Value.int (xs z) :: [.int (xs (n + 2)), .int (xs (n + 1)), .ref 66, .int (gE σ 60 ((((gE σ 58 ((((gE σ 56 (((xs (n + 1))).toNatClampNeg)) + (xs (n + 2)))).toNatClampNeg)) + (xs (n + 3)))).toNatClampNeg))]) (nI_clamp (n := n + 3) (by omega))) ?_
  refine ev_x (i := .aload_n 0) (len := 1) (p' := 602) (s' := [.ref 0, .int (xs (n + 3)), .int (xs (n + 2)), .int (xs (n + 1)), .ref 66, .int (gE σ 60 ((((gE σ 58 ((((gE σ 56 (((xs (n + 1))).toNatClampNeg)) + (xs (n + 2)))).toNatClampNeg)) + (xs (n + 3)))).toNatClampNeg))]) rfl rfl rfl ?_
  refine ev_x (i := .iload 4) (len := 2) (p' := 604) (s' := [.int (nI n), .ref 0, .int (xs (n + 3)), .int (xs (n + 2)), .int (xs (n + 1)), .ref 66, .int (gE σ 60 ((((gE σ 58 ((((gE σ 56 (((xs (n + 1))).toNatClampNeg)) + (xs (n + 2)))).toNatClampNeg)) + (xs (n + 3)))).toNatClampNeg))]) rfl rfl rfl ?_
  refine ev_x (i := .iconst 4) (len := 1) (p' := 605) (s' := [.int 4, .int (nI n), .ref 0, .int (xs (n + 3)), .int (xs (n + 2)), .int (xs (n + 1)), .ref 66, .int (gE σ 60 ((((gE σ 58 ((((gE σ 56 (((xs (n + 1))).toNatClampNeg)) + (xs (n + 2)))).toNatClampNeg)) + (xs (n + 3)))).toNatClampNeg))]) rfl rfl rfl ?_
  refine ev_x (i := .iadd) (len := 1) (p' := 606) (s' := [.int ((nI n) + 4), .ref 0, .int (xs (n + 3)), .int (xs (n + 2)), .int (xs (n + 1)), .ref 66, .int (gE σ 60 ((((gE σ 58 ((((gE σ 56 (((xs (n + 1))).toNatClampNeg)) + (xs (n + 2)))).toNatClampNeg)) + (xs (n + 3)))).toNatClampNeg))]) rfl rfl rfl ?_
  refine ev_st (st' := [.int (nI (n + 4)), .ref 0, .int (xs (n + 3)), .int (xs (n + 2)), .int (xs (n + 1)), .ref 66, .int (gE σ 60 ((((gE σ 58 ((((gE σ 56 (((xs (n + 1))).toNatClampNeg)) + (xs (n + 2)))).toNatClampNeg)) + (xs (n + 3)))).toNatClampNeg))]) (congrArg (fun z => Value.int z :: [.ref 0, .int (xs (n + 3)), .int (xs (n + 2)), .int (xs (n + 1)), .ref 66, .int (gE σ 60 ((((gE σ 58 ((((gE σ 56 (((xs (n + 1))).toNatClampNeg)) + (xs (n + 2)))).toNatClampNeg)) + (xs (n + 3)))).toNatClampNeg))]) (nI_add n 4)) ?_
  refine ev_sg (p' := 607) rfl rfl hs (vp_in_nI (by omega) (by omega)) rfl ?_
  refine ev_st (st' := [.int (xs (n + 4)), .int (xs (n + 3)), .int (xs (n + 2)), .int (xs (n + 1)), .ref 66, .int (gE σ 60 ((((gE σ 58 ((((gE σ 56 (((xs (n + 1))).toNatClampNeg)) + (xs (n + 2)))).toNatClampNeg)) + (xs (n + 3)))).toNatClampNeg))]) (congrArg (fun z => Value.int (xs z) :: [.int (xs (n + 3)), .int (xs (n + 2)), .int (xs (n + 1)), .ref 66, .int (gE σ 60 ((((gE σ 58 ((((gE σ 56 (((xs (n + 1))).toNatClampNeg)) + (xs (n + 2)))).toNatClampNeg)) + (xs (n + 3)))).toNatClampNeg))]) (nI_clamp (n := n + 4) (by omega))) ?_
  refine ev_cv (d := d + 4) (As := [.int (xs (n + 1)), .int (xs (n + 2)), .int (xs (n + 3)), .int (xs (n + 4))]) (a := 66) (p' := 610) rfl rfl rfl ly_66 rfl rfl rfl rfl rfl rfl rfl (lz_212 (d := d + 1) (c_1 := c_1) (c_2 := c_15) (c_3 := c_3) (c_4 := c_16) (c_5 := c_17) (c_6 := c_8) (c_7 := c_18) (c_8 := c_19) (c_9 := c_20) (c_10 := c_21) (c_11 := c_22) (c_12 := c_23) (c_13 := c_24) (c_14 := c_25) (c_15 := c_26)) ?_
  refine ev_st (st' := [.int ((gL σ 182 ((((gE σ 178 ((((gE σ 173 (((xs (n + 1))).toNatClampNeg)) + (xs (n + 2)))).toNatClampNeg)) + (xs (n + 3)))).toNatClampNeg)) : Int64).toInt32, .int (gE σ 60 ((((gE σ 58 ((((gE σ 56 (((xs (n + 1))).toNatClampNeg)) + (xs (n + 2)))).toNatClampNeg)) + (xs (n + 3)))).toNatClampNeg))]) rfl ?_
  refine ev_b2 (t := 615) (p' := 615) rfl rfl rfl (if_pos c_27) ?_
  exact k
set_option maxHeartbeats 4000000 in
set_option maxRecDepth 100000 in
/-- GameText.branch(IIII)I -/
theorem lz_217 {d : Nat} {σ : st_S} {y_1 y_2 y_3 y_4 : Int32} (c_1 : ¬ (y_1 < 0)) (c_2 : ¬ ((σ.1 52 10) ≤ y_1)) (c_3 : ¬ (y_2 < 0)) (c_4 : vp_in (y_1 + 1) (gN σ 56)) (c_5 : vp_in y_1 (gN σ 56)) (c_6 : y_2 < ((gE σ 56 (((y_1 + 1)).toNatClampNeg)) - (gE σ 56 ((y_1).toNatClampNeg)))) (c_7 : ¬ (((gE σ 56 ((y_1).toNatClampNeg)) + y_2) < 0)) (c_8 : ¬ (y_3 < 0)) (c_9 : vp_in (((gE σ 56 ((y_1).toNatClampNeg)) + y_2) + 1) (gN σ 58)) (c_10 : vp_in ((gE σ 56 ((y_1).toNatClampNeg)) + y_2) (gN σ 58)) (c_11 : y_3 < ((gE σ 58 (((((gE σ 56 ((y_1).toNatClampNeg)) + y_2) + 1)).toNatClampNeg)) - (gE σ 58 ((((gE σ 56 ((y_1).toNatClampNeg)) + y_2)).toNatClampNeg)))) (c_12 : 0 ≤ ((gE σ 58 ((((gE σ 56 ((y_1).toNatClampNeg)) + y_2)).toNatClampNeg)) + y_3)) (c_13 : y_4 = 2) (c_14 : vp_in ((gE σ 58 ((((gE σ 56 ((y_1).toNatClampNeg)) + y_2)).toNatClampNeg)) + y_3) (gN σ 61)) : vz_ev P0 (d + 4) 102 0 (lv_args 0 [.ref 1, .int y_1, .int y_2, .int y_3, .int y_4]) [] (hp σ) (.inl (some (.int (gE σ 61 ((((gE σ 58 ((((gE σ 56 ((y_1).toNatClampNeg)) + y_2)).toNatClampNeg)) + y_3)).toNatClampNeg)))), hp (σ)) := by
  refine ev_x (i := .aload_n 0) (len := 1) (p' := 1) (s' := [.ref 1]) rfl rfl rfl ?_
  refine ev_gc (p' := 4) (v := 52) rfl rfl rfl ly_1 rfl rfl ?_
  refine ev_x (i := .iload_n 1) (len := 1) (p' := 5) (s' := [.int y_1, .ref 52]) rfl rfl rfl ?_
  refine ev_x (i := .iload_n 2) (len := 1) (p' := 6) (s' := [.int y_2, .int y_1, .ref 52]) rfl rfl rfl ?_
  refine ev_x (i := .iload_n 3) (len := 1) (p' := 7) (s' := [.int y_3, .int y_2, .int y_1, .ref 52]) rfl rfl rfl ?_
  refine ev_cv (d := d + 3) (As := [.int y_1, .int y_2, .int y_3]) (a := 52) (p' := 10) rfl rfl rfl ly_52 rfl rfl rfl rfl rfl rfl rfl (lz_196 (d := d + 0) (c_1 := c_1) (c_2 := c_2) (c_3 := c_3) (c_4 := c_4) (c_5 := c_5) (c_6 := c_6) (c_7 := c_7) (c_8 := c_8) (c_9 := c_9) (c_10 := c_10) (c_11 := c_11)) ?_
  refine ev_st (st' := [.int ((gE σ 58 ((((gE σ 56 ((y_1).toNatClampNeg)) + y_2)).toNatClampNeg)) + y_3)]) rfl ?_
  refine ev_x (i := .istore 5) (len := 2) (p' := 12) (s' := []) (l' := [(5, .int ((gE σ 58 ((((gE σ 56 ((y_1).toNatClampNeg)) + y_2)).toNatClampNeg)) + y_3)), (0, .ref 1), (1, .int y_1), (2, .int y_2), (3, .int y_3), (4, .int y_4)]) rfl rfl rfl ?_
  refine ev_x (i := .iload 5) (len := 2) (p' := 14) (s' := [.int ((gE σ 58 ((((gE σ 56 ((y_1).toNatClampNeg)) + y_2)).toNatClampNeg)) + y_3)]) rfl rfl rfl ?_
  refine ev_b0 (t := 19) (p' := 19) rfl rfl rfl (if_pos c_12) ?_
  refine ev_x (i := .iload 4) (len := 2) (p' := 21) (s' := [.int y_4]) rfl rfl rfl ?_
  refine ev_st (st' := [.int 2]) (congrArg (fun z => Value.int z :: []) c_13) ?_
  refine ev_ts (off := 49) (t := 70) rfl rfl (by decide) rfl ?_
  refine ev_x (i := .aload_n 0) (len := 1) (p' := 71) (s' := [.ref 1]) rfl rfl rfl ?_
  refine ev_gc (p' := 74) (v := 52) rfl rfl rfl ly_1 rfl rfl ?_
  refine ev_gc (p' := 77) (v := 61) rfl rfl rfl ly_52 rfl rfl ?_
  refine ev_x (i := .iload 5) (len := 2) (p' := 79) (s' := [.int ((gE σ 58 ((((gE σ 56 ((y_1).toNatClampNeg)) + y_2)).toNatClampNeg)) + y_3), .ref 61]) rfl rfl rfl ?_
  refine ev_ga (p' := 80) (v := (gE σ 61 ((((gE σ 58 ((((gE σ 56 ((y_1).toNatClampNeg)) + y_2)).toNatClampNeg)) + y_3)).toNatClampNeg))) rfl rfl ly_61 rfl c_14 rfl ?_
  exact ev_iret rfl rfl rfl rfl
set_option maxHeartbeats 4000000 in
set_option maxRecDepth 100000 in
/-- GameTextModel.branch(IIII)I -/
theorem lz_222 {d : Nat} {σ : st_S} {y_1 y_2 y_3 y_4 : Int32} (c_1 : ¬ (y_1 < 0)) (c_2 : ¬ ((σ.1 66 29) ≤ y_1)) (c_3 : ¬ (y_2 < 0)) (c_4 : vp_in y_1 (gN σ 174)) (c_5 : ¬ ((gE σ 174 ((y_1).toNatClampNeg)) ≤ y_2)) (c_6 : ¬ (y_3 < 0)) (c_7 : vp_in y_1 (gN σ 173)) (c_8 : vp_in ((gE σ 173 ((y_1).toNatClampNeg)) + y_2) (gN σ 180)) (c_9 : ¬ ((gE σ 180 ((((gE σ 173 ((y_1).toNatClampNeg)) + y_2)).toNatClampNeg)) ≤ y_3)) (c_10 : ¬ (y_4 < 0)) (c_11 : y_4 ≤ 2) (c_12 : vp_in ((gE σ 173 ((y_1).toNatClampNeg)) + y_2) (gN σ 178)) (c_13 : ¬ y_4 = 0) (c_14 : ¬ y_4 = 1) (c_15 : vp_in ((gE σ 178 ((((gE σ 173 ((y_1).toNatClampNeg)) + y_2)).toNatClampNeg)) + y_3) (gN σ 183)) : vz_ev P0 (d + 3) 229 0 (lv_args 0 [.ref 66, .int y_1, .int y_2, .int y_3, .int y_4]) [] (hp σ) (.inl (some (.int ((gL σ 183 ((((gE σ 178 ((((gE σ 173 ((y_1).toNatClampNeg)) + y_2)).toNatClampNeg)) + y_3)).toNatClampNeg)) : Int64).toInt32)), hp (st_i (σ) 66 0 0)) := by
  refine ev_x (i := .aload_n 0) (len := 1) (p' := 1) (s' := [.ref 66]) rfl rfl rfl ?_
  refine ev_x (i := .iload_n 1) (len := 1) (p' := 2) (s' := [.int y_1, .ref 66]) rfl rfl rfl ?_
  refine ev_x (i := .iload_n 2) (len := 1) (p' := 3) (s' := [.int y_2, .int y_1, .ref 66]) rfl rfl rfl ?_
  refine ev_cv (d := d + 2) (As := [.int y_1, .int y_2]) (a := 66) (p' := 6) rfl rfl rfl ly_66 rfl rfl rfl rfl rfl rfl rfl (lz_105 (d := d + 0) (c_1 := c_1) (c_2 := c_2) (c_3 := c_3) (c_4 := c_4) (c_5 := c_5)) ?_
  refine ev_st (st' := [.int 1]) rfl ?_
  refine ev_b0 (t := 43) (p' := 9) rfl rfl rfl (by decide) ?_
  refine ev_x (i := .iload_n 3) (len := 1) (p' := 10) (s' := [.int y_3]) rfl rfl rfl ?_
  refine ev_b0 (t := 43) (p' := 13) rfl rfl rfl (if_neg c_6) ?_
  refine ev_x (i := .iload_n 3) (len := 1) (p' := 14) (s' := [.int y_3]) rfl rfl rfl ?_
  refine ev_x (i := .aload_n 0) (len := 1) (p' := 15) (s' := [.ref 66, .int y_3]) rfl rfl rfl ?_
  refine ev_gc (p' := 18) (v := 179) rfl rfl rfl ly_66 rfl rfl ?_
  refine ev_x (i := .aload_n 0) (len := 1) (p' := 19) (s' := [.ref 66, .ref 179, .int y_3]) rfl rfl rfl ?_
  refine ev_gc (p' := 22) (v := 173) rfl rfl rfl ly_66 rfl rfl ?_
  refine ev_x (i := .iload_n 1) (len := 1) (p' := 23) (s' := [.int y_1, .ref 173, .ref 179, .int y_3]) rfl rfl rfl ?_
  refine ev_ga (p' := 24) (v := (gE σ 173 ((y_1).toNatClampNeg))) rfl rfl ly_173 rfl c_7 rfl ?_
  refine ev_x (i := .iload_n 2) (len := 1) (p' := 25) (s' := [.int y_2, .int (gE σ 173 ((y_1).toNatClampNeg)), .ref 179, .int y_3]) rfl rfl rfl ?_
  refine ev_x (i := .iadd) (len := 1) (p' := 26) (s' := [.int ((gE σ 173 ((y_1).toNatClampNeg)) + y_2), .ref 179, .int y_3]) rfl rfl rfl ?_
  refine ev_cv (d := d + 2) (As := [.int ((gE σ 173 ((y_1).toNatClampNeg)) + y_2)]) (a := 179) (p' := 29) rfl rfl rfl ly_179 rfl rfl rfl rfl rfl rfl rfl (lz_142 (d := d + 1) (c_1 := c_8)) ?_
  refine ev_st (st' := [.int (gE σ 180 ((((gE σ 173 ((y_1).toNatClampNeg)) + y_2)).toNatClampNeg)), .int y_3]) rfl ?_
  refine ev_b2 (t := 43) (p' := 32) rfl rfl rfl (if_neg c_9) ?_
  refine ev_x (i := .iload 4) (len := 2) (p' := 34) (s' := [.int y_4]) rfl rfl rfl ?_
  refine ev_b0 (t := 43) (p' := 37) rfl rfl rfl (if_neg c_10) ?_
  refine ev_x (i := .iload 4) (len := 2) (p' := 39) (s' := [.int y_4]) rfl rfl rfl ?_
  refine ev_x (i := .iconst 2) (len := 1) (p' := 40) (s' := [.int 2, .int y_4]) rfl rfl rfl ?_
  refine ev_b2 (t := 45) (p' := 45) rfl rfl rfl (if_pos c_11) ?_
  refine ev_x (i := .aload_n 0) (len := 1) (p' := 46) (s' := [.ref 66]) rfl rfl rfl ?_
  refine ev_gc (p' := 49) (v := 177) rfl rfl rfl ly_66 rfl rfl ?_
  refine ev_x (i := .aload_n 0) (len := 1) (p' := 50) (s' := [.ref 66, .ref 177]) rfl rfl rfl ?_
  refine ev_gc (p' := 53) (v := 173) rfl rfl rfl ly_66 rfl rfl ?_
  refine ev_x (i := .iload_n 1) (len := 1) (p' := 54) (s' := [.int y_1, .ref 173, .ref 177]) rfl rfl rfl ?_
  refine ev_ga (p' := 55) (v := (gE σ 173 ((y_1).toNatClampNeg))) rfl rfl ly_173 rfl c_7 rfl ?_
  refine ev_x (i := .iload_n 2) (len := 1) (p' := 56) (s' := [.int y_2, .int (gE σ 173 ((y_1).toNatClampNeg)), .ref 177]) rfl rfl rfl ?_
  refine ev_x (i := .iadd) (len := 1) (p' := 57) (s' := [.int ((gE σ 173 ((y_1).toNatClampNeg)) + y_2), .ref 177]) rfl rfl rfl ?_
  refine ev_cv (d := d + 2) (As := [.int ((gE σ 173 ((y_1).toNatClampNeg)) + y_2)]) (a := 177) (p' := 60) rfl rfl rfl ly_177 rfl rfl rfl rfl rfl rfl rfl (lz_201 (d := d + 1) (c_1 := c_12)) ?_
  refine ev_st (st' := [.int (gE σ 178 ((((gE σ 173 ((y_1).toNatClampNeg)) + y_2)).toNatClampNeg))]) rfl ?_
  refine ev_x (i := .iload_n 3) (len := 1) (p' := 61) (s' := [.int y_3, .int (gE σ 178 ((((gE σ 173 ((y_1).toNatClampNeg)) + y_2)).toNatClampNeg))]) rfl rfl rfl ?_
  refine ev_x (i := .iadd) (len := 1) (p' := 62) (s' := [.int ((gE σ 178 ((((gE σ 173 ((y_1).toNatClampNeg)) + y_2)).toNatClampNeg)) + y_3)]) rfl rfl rfl ?_
  refine ev_x (i := .istore 5) (len := 2) (p' := 64) (s' := []) (l' := [(5, .int ((gE σ 178 ((((gE σ 173 ((y_1).toNatClampNeg)) + y_2)).toNatClampNeg)) + y_3)), (0, .ref 66), (1, .int y_1), (2, .int y_2), (3, .int y_3), (4, .int y_4)]) rfl rfl rfl ?_
  refine ev_x (i := .iload 4) (len := 2) (p' := 66) (s' := [.int y_4]) rfl rfl rfl ?_
  refine ev_b0 (t := 79) (p' := 79) rfl rfl rfl (if_pos c_13) ?_
  refine ev_x (i := .iload 4) (len := 2) (p' := 81) (s' := [.int y_4]) rfl rfl rfl ?_
  refine ev_x (i := .iconst 1) (len := 1) (p' := 82) (s' := [.int 1, .int y_4]) rfl rfl rfl ?_
  refine ev_b2 (t := 95) (p' := 95) rfl rfl rfl (if_pos c_14) ?_
  refine ev_x (i := .aload_n 0) (len := 1) (p' := 96) (s' := [.ref 66]) rfl rfl rfl ?_
  refine ev_gc (p' := 99) (v := 183) rfl rfl rfl ly_66 rfl rfl ?_
  refine ev_x (i := .iload 5) (len := 2) (p' := 101) (s' := [.int ((gE σ 178 ((((gE σ 173 ((y_1).toNatClampNeg)) + y_2)).toNatClampNeg)) + y_3), .ref 183]) rfl rfl rfl ?_
  refine ev_gL (p' := 102) (v := (gL σ 183 ((((gE σ 178 ((((gE σ 173 ((y_1).toNatClampNeg)) + y_2)).toNatClampNeg)) + y_3)).toNatClampNeg))) rfl rfl ly_183 rfl c_15 rfl ?_
  refine ev_x (i := .l2i) (len := 1) (p' := 103) (s' := [.int ((gL σ 183 ((((gE σ 178 ((((gE σ 173 ((y_1).toNatClampNeg)) + y_2)).toNatClampNeg)) + y_3)).toNatClampNeg)) : Int64).toInt32]) rfl rfl rfl ?_
  exact ev_iret rfl rfl rfl rfl
set_option maxHeartbeats 4000000 in
set_option maxRecDepth 100000 in
/-- GameTextLaw.law([I)Z -/
theorem lw_132_a0 {d : Nat} {σ : st_S} {q : vz_O × vz_H} {n L : Nat} {xs : Nat → Int32} (hs : gF σ 0 = .inl (0, L, .inl xs)) (hn : n + 6 ≤ L) (hL : L ≤ 3072) (c_1 : ¬ ((xs (n + 1)) < 0)) (c_2 : ¬ ((σ.1 52 10) ≤ (xs (n + 1)))) (c_3 : ¬ ((xs (n + 2)) < 0)) (c_4 : vp_in ((xs (n + 1)) + 1) (gN σ 56)) (c_5 : vp_in (xs (n + 1)) (gN σ 56)) (c_6 : (xs (n + 2)) < ((gE σ 56 ((((xs (n + 1)) + 1)).toNatClampNeg)) - (gE σ 56 (((xs (n + 1))).toNatClampNeg)))) (c_7 : ¬ (((gE σ 56 (((xs (n + 1))).toNatClampNeg)) + (xs (n + 2))) < 0)) (c_8 : ¬ ((xs (n + 3)) < 0)) (c_9 : vp_in (((gE σ 56 (((xs (n + 1))).toNatClampNeg)) + (xs (n + 2))) + 1) (gN σ 58)) (c_10 : vp_in ((gE σ 56 (((xs (n + 1))).toNatClampNeg)) + (xs (n + 2))) (gN σ 58)) (c_11 : (xs (n + 3)) < ((gE σ 58 (((((gE σ 56 (((xs (n + 1))).toNatClampNeg)) + (xs (n + 2))) + 1)).toNatClampNeg)) - (gE σ 58 ((((gE σ 56 (((xs (n + 1))).toNatClampNeg)) + (xs (n + 2)))).toNatClampNeg)))) (c_12 : 0 ≤ ((gE σ 58 ((((gE σ 56 (((xs (n + 1))).toNatClampNeg)) + (xs (n + 2)))).toNatClampNeg)) + (xs (n + 3)))) (c_13 : (xs (n + 4)) = 2) (c_14 : vp_in ((gE σ 58 ((((gE σ 56 (((xs (n + 1))).toNatClampNeg)) + (xs (n + 2)))).toNatClampNeg)) + (xs (n + 3))) (gN σ 61)) (c_15 : ¬ ((σ.1 66 29) ≤ (xs (n + 1)))) (c_16 : vp_in (xs (n + 1)) (gN σ 174)) (c_17 : ¬ ((gE σ 174 (((xs (n + 1))).toNatClampNeg)) ≤ (xs (n + 2)))) (c_18 : vp_in (xs (n + 1)) (gN σ 173)) (c_19 : vp_in ((gE σ 173 (((xs (n + 1))).toNatClampNeg)) + (xs (n + 2))) (gN σ 180)) (c_20 : ¬ ((gE σ 180 ((((gE σ 173 (((xs (n + 1))).toNatClampNeg)) + (xs (n + 2)))).toNatClampNeg)) ≤ (xs (n + 3)))) (c_21 : ¬ ((xs (n + 4)) < 0)) (c_22 : (xs (n + 4)) ≤ 2) (c_23 : vp_in ((gE σ 173 (((xs (n + 1))).toNatClampNeg)) + (xs (n + 2))) (gN σ 178)) (c_24 : ¬ (xs (n + 4)) = 0) (c_25 : ¬ (xs (n + 4)) = 1) (c_26 : vp_in ((gE σ 178 ((((gE σ 173 (((xs (n + 1))).toNatClampNeg)) + (xs (n + 2)))).toNatClampNeg)) + (xs (n + 3))) (gN σ 183)) (c_27 : (gE σ 61 ((((gE σ 58 ((((gE σ 56 (((xs (n + 1))).toNatClampNeg)) + (xs (n + 2)))).toNatClampNeg)) + (xs (n + 3)))).toNatClampNeg)) = ((gL σ 183 ((((gE σ 178 ((((gE σ 173 (((xs (n + 1))).toNatClampNeg)) + (xs (n + 2)))).toNatClampNeg)) + (xs (n + 3)))).toNatClampNeg)) : Int64).toInt32) (k : vz_ev P0 (d + 5) 0 615 [(4, .int (nI n)), (3, .ref 187), (2, .ref 66), (1, .ref 1), (0, .ref 0)] [] (hp (st_i (σ) 66 0 0)) q) : vz_ev P0 (d + 5) 0 554 [(4, .int (nI n)), (3, .ref 187), (2, .ref 66), (1, .ref 1), (0, .ref 0)] [] (hp σ) q := by
  refine ev_x (i := .aload_n 1) (len := 1) (p' := 555) (s' := [.ref 1]) rfl rfl rfl ?_
  refine ev_x (i := .aload_n 0) (len := 1) (p' := 556) (s' := [.ref 0, .ref 1]) rfl rfl rfl ?_
  refine ev_x (i := .iload 4) (len := 2) (p' := 558) (s' := [.int (nI n), .ref 0, .ref 1]) rfl rfl rfl ?_
  refine ev_x (i := .iconst 1) (len := 1) (p' := 559) (s' := [.int 1, .int (nI n), .ref 0, .ref 1]) rfl rfl rfl ?_
  refine ev_x (i := .iadd) (len := 1) (p' := 560) (s' := [.int ((nI n) + 1), .ref 0, .ref 1]) rfl rfl rfl ?_
  refine ev_st (st' := [.int (nI (n + 1)), .ref 0, .ref 1]) (congrArg (fun z => Value.int z :: [.ref 0, .ref 1]) (nI_add n 1)) ?_
  refine ev_sg (p' := 561) rfl rfl hs (vp_in_nI (by omega) (by omega)) rfl ?_
  refine ev_st (st' := [.int (xs (n + 1)), .ref 1]) (congrArg (fun z => Value.int (xs z) :: [.ref 1]) (nI_clamp (n := n + 1) (by omega))) ?_
  refine ev_x (i := .aload_n 0) (len := 1) (p' := 562) (s' := [.ref 0, .int (xs (n + 1)), .ref 1]) rfl rfl rfl ?_
  refine ev_x (i := .iload 4) (len := 2) (p' := 564) (s' := [.int (nI n), .ref 0, .int (xs (n + 1)), .ref 1]) rfl rfl rfl ?_
  refine ev_x (i := .iconst 2) (len := 1) (p' := 565) (s' := [.int 2, .int (nI n), .ref 0, .int (xs (n + 1)), .ref 1]) rfl rfl rfl ?_
  refine ev_x (i := .iadd) (len := 1) (p' := 566) (s' := [.int ((nI n) + 2), .ref 0, .int (xs (n + 1)), .ref 1]) rfl rfl rfl ?_
  refine ev_st (st' := [.int (nI (n + 2)), .ref 0, .int (xs (n + 1)), .ref 1]) (congrArg (fun z => Value.int z :: [.ref 0, .int (xs (n + 1)), .ref 1]) (nI_add n 2)) ?_
  refine ev_sg (p' := 567) rfl rfl hs (vp_in_nI (by omega) (by omega)) rfl ?_
  refine ev_st (st' := [.int (xs (n + 2)), .int (xs (n + 1)), .ref 1]) (congrArg (fun z => Value.int (xs z) :: [.int (xs (n + 1)), .ref 1]) (nI_clamp (n := n + 2) (by omega))) ?_
  refine ev_x (i := .aload_n 0) (len := 1) (p' := 568) (s' := [.ref 0, .int (xs (n + 2)), .int (xs (n + 1)), .ref 1]) rfl rfl rfl ?_
  refine ev_x (i := .iload 4) (len := 2) (p' := 570) (s' := [.int (nI n), .ref 0, .int (xs (n + 2)), .int (xs (n + 1)), .ref 1]) rfl rfl rfl ?_
  refine ev_x (i := .iconst 3) (len := 1) (p' := 571) (s' := [.int 3, .int (nI n), .ref 0, .int (xs (n + 2)), .int (xs (n + 1)), .ref 1]) rfl rfl rfl ?_
  refine ev_x (i := .iadd) (len := 1) (p' := 572) (s' := [.int ((nI n) + 3), .ref 0, .int (xs (n + 2)), .int (xs (n + 1)), .ref 1]) rfl rfl rfl ?_
  refine ev_st (st' := [.int (nI (n + 3)), .ref 0, .int (xs (n + 2)), .int (xs (n + 1)), .ref 1]) (congrArg (fun z => Value.int z :: [.ref 0, .int (xs (n + 2)), .int (xs (n + 1)), .ref 1]) (nI_add n 3)) ?_
  refine ev_sg (p' := 573) rfl rfl hs (vp_in_nI (by omega) (by omega)) rfl ?_
  refine ev_st (st' := [.int (xs (n + 3)), .int (xs (n + 2)), .int (xs (n + 1)), .ref 1]) (congrArg (fun z => Value.int (xs z) :: [.int (xs (n + 2)), .int (xs (n + 1)), .ref 1]) (nI_clamp (n := n + 3) (by omega))) ?_
  refine ev_x (i := .aload_n 0) (len := 1) (p' := 574) (s' := [.ref 0, .int (xs (n + 3)), .int (xs (n + 2)), .int (xs (n + 1)), .ref 1]) rfl rfl rfl ?_
  refine ev_x (i := .iload 4) (len := 2) (p' := 576) (s' := [.int (nI n), .ref 0, .int (xs (n + 3)), .int (xs (n + 2)), .int (xs (n + 1)), .ref 1]) rfl rfl rfl ?_
  refine ev_x (i := .iconst 4) (len := 1) (p' := 577) (s' := [.int 4, .int (nI n), .ref 0, .int (xs (n + 3)), .int (xs (n + 2)), .int (xs (n + 1)), .ref 1]) rfl rfl rfl ?_
  refine ev_x (i := .iadd) (len := 1) (p' := 578) (s' := [.int ((nI n) + 4), .ref 0, .int (xs (n + 3)), .int (xs (n + 2)), .int (xs (n + 1)), .ref 1]) rfl rfl rfl ?_
  refine ev_st (st' := [.int (nI (n + 4)), .ref 0, .int (xs (n + 3)), .int (xs (n + 2)), .int (xs (n + 1)), .ref 1]) (congrArg (fun z => Value.int z :: [.ref 0, .int (xs (n + 3)), .int (xs (n + 2)), .int (xs (n + 1)), .ref 1]) (nI_add n 4)) ?_
  refine ev_sg (p' := 579) rfl rfl hs (vp_in_nI (by omega) (by omega)) rfl ?_
  refine ev_st (st' := [.int (xs (n + 4)), .int (xs (n + 3)), .int (xs (n + 2)), .int (xs (n + 1)), .ref 1]) (congrArg (fun z => Value.int (xs z) :: [.int (xs (n + 3)), .int (xs (n + 2)), .int (xs (n + 1)), .ref 1]) (nI_clamp (n := n + 4) (by omega))) ?_
  refine ev_cv (d := d + 4) (As := [.int (xs (n + 1)), .int (xs (n + 2)), .int (xs (n + 3)), .int (xs (n + 4))]) (a := 1) (p' := 582) rfl rfl rfl ly_1 rfl rfl rfl rfl rfl rfl rfl (lz_217 (d := d + 0) (c_1 := c_1) (c_2 := c_2) (c_3 := c_3) (c_4 := c_4) (c_5 := c_5) (c_6 := c_6) (c_7 := c_7) (c_8 := c_8) (c_9 := c_9) (c_10 := c_10) (c_11 := c_11) (c_12 := c_12) (c_13 := c_13) (c_14 := c_14)) ?_
  refine ev_st (st' := [.int (gE σ 61 ((((gE σ 58 ((((gE σ 56 (((xs (n + 1))).toNatClampNeg)) + (xs (n + 2)))).toNatClampNeg)) + (xs (n + 3)))).toNatClampNeg))]) rfl ?_
  refine ev_x (i := .aload_n 2) (len := 1) (p' := 583) (s' := [.ref 66, .int (gE σ 61 ((((gE σ 58 ((((gE σ 56 (((xs (n + 1))).toNatClampNeg)) + (xs (n + 2)))).toNatClampNeg)) + (xs (n + 3)))).toNatClampNeg))]) rfl rfl rfl ?_
  refine ev_x (i := .aload_n 0) (len := 1) (p' := 584) (s' := [.ref 0, .ref 66, .int (gE σ 61 ((((gE σ 58 ((((gE σ 56 (((xs (n + 1))).toNatClampNeg)) + (xs (n + 2)))).toNatClampNeg)) + (xs (n + 3)))).toNatClampNeg))]) rfl rfl rfl ?_
  refine ev_x (i := .iload 4) (len := 2) (p' := 586) (s' := [.int (nI n), .ref 0, .ref 66, .int (gE σ 61 ((((gE σ 58 ((((gE σ 56 (((xs (n + 1))).toNatClampNeg)) + (xs (n + 2)))).toNatClampNeg)) + (xs (n + 3)))).toNatClampNeg))]) rfl rfl rfl ?_
  refine ev_x (i := .iconst 1) (len := 1) (p' := 587) (s' := [.int 1, .int (nI n), .ref 0, .ref 66, .int (gE σ 61 ((((gE σ 58 ((((gE σ 56 (((xs (n + 1))).toNatClampNeg)) + (xs (n + 2)))).toNatClampNeg)) + (xs (n + 3)))).toNatClampNeg))]) rfl rfl rfl ?_
  refine ev_x (i := .iadd) (len := 1) (p' := 588) (s' := [.int ((nI n) + 1), .ref 0, .ref 66, .int (gE σ 61 ((((gE σ 58 ((((gE σ 56 (((xs (n + 1))).toNatClampNeg)) + (xs (n + 2)))).toNatClampNeg)) + (xs (n + 3)))).toNatClampNeg))]) rfl rfl rfl ?_
  refine ev_st (st' := [.int (nI (n + 1)), .ref 0, .ref 66, .int (gE σ 61 ((((gE σ 58 ((((gE σ 56 (((xs (n + 1))).toNatClampNeg)) + (xs (n + 2)))).toNatClampNeg)) + (xs (n + 3)))).toNatClampNeg))]) (congrArg (fun z => Value.int z :: [.ref 0, .ref 66, .int (gE σ 61 ((((gE σ 58 ((((gE σ 56 (((xs (n + 1))).toNatClampNeg)) + (xs (n + 2)))).toNatClampNeg)) + (xs (n + 3)))).toNatClampNeg))]) (nI_add n 1)) ?_
  refine ev_sg (p' := 589) rfl rfl hs (vp_in_nI (by omega) (by omega)) rfl ?_
  refine ev_st (st' := [.int (xs (n + 1)), .ref 66, .int (gE σ 61 ((((gE σ 58 ((((gE σ 56 (((xs (n + 1))).toNatClampNeg)) + (xs (n + 2)))).toNatClampNeg)) + (xs (n + 3)))).toNatClampNeg))]) (congrArg (fun z => Value.int (xs z) :: [.ref 66, .int (gE σ 61 ((((gE σ 58 ((((gE σ 56 (((xs (n + 1))).toNatClampNeg)) + (xs (n + 2)))).toNatClampNeg)) + (xs (n + 3)))).toNatClampNeg))]) (nI_clamp (n := n + 1) (by omega))) ?_
  refine ev_x (i := .aload_n 0) (len := 1) (p' := 590) (s' := [.ref 0, .int (xs (n + 1)), .ref 66, .int (gE σ 61 ((((gE σ 58 ((((gE σ 56 (((xs (n + 1))).toNatClampNeg)) + (xs (n + 2)))).toNatClampNeg)) + (xs (n + 3)))).toNatClampNeg))]) rfl rfl rfl ?_
  refine ev_x (i := .iload 4) (len := 2) (p' := 592) (s' := [.int (nI n), .ref 0, .int (xs (n + 1)), .ref 66, .int (gE σ 61 ((((gE σ 58 ((((gE σ 56 (((xs (n + 1))).toNatClampNeg)) + (xs (n + 2)))).toNatClampNeg)) + (xs (n + 3)))).toNatClampNeg))]) rfl rfl rfl ?_
  refine ev_x (i := .iconst 2) (len := 1) (p' := 593) (s' := [.int 2, .int (nI n), .ref 0, .int (xs (n + 1)), .ref 66, .int (gE σ 61 ((((gE σ 58 ((((gE σ 56 (((xs (n + 1))).toNatClampNeg)) + (xs (n + 2)))).toNatClampNeg)) + (xs (n + 3)))).toNatClampNeg))]) rfl rfl rfl ?_
  refine ev_x (i := .iadd) (len := 1) (p' := 594) (s' := [.int ((nI n) + 2), .ref 0, .int (xs (n + 1)), .ref 66, .int (gE σ 61 ((((gE σ 58 ((((gE σ 56 (((xs (n + 1))).toNatClampNeg)) + (xs (n + 2)))).toNatClampNeg)) + (xs (n + 3)))).toNatClampNeg))]) rfl rfl rfl ?_
  refine ev_st (st' := [.int (nI (n + 2)), .ref 0, .int (xs (n + 1)), .ref 66, .int (gE σ 61 ((((gE σ 58 ((((gE σ 56 (((xs (n + 1))).toNatClampNeg)) + (xs (n + 2)))).toNatClampNeg)) + (xs (n + 3)))).toNatClampNeg))]) (congrArg (fun z => Value.int z :: [.ref 0, .int (xs (n + 1)), .ref 66, .int (gE σ 61 ((((gE σ 58 ((((gE σ 56 (((xs (n + 1))).toNatClampNeg)) + (xs (n + 2)))).toNatClampNeg)) + (xs (n + 3)))).toNatClampNeg))]) (nI_add n 2)) ?_
  refine ev_sg (p' := 595) rfl rfl hs (vp_in_nI (by omega) (by omega)) rfl ?_
  refine ev_st (st' := [.int (xs (n + 2)), .int (xs (n + 1)), .ref 66, .int (gE σ 61 ((((gE σ 58 ((((gE σ 56 (((xs (n + 1))).toNatClampNeg)) + (xs (n + 2)))).toNatClampNeg)) + (xs (n + 3)))).toNatClampNeg))]) (congrArg (fun z => Value.int (xs z) :: [.int (xs (n + 1)), .ref 66, .int (gE σ 61 ((((gE σ 58 ((((gE σ 56 (((xs (n + 1))).toNatClampNeg)) + (xs (n + 2)))).toNatClampNeg)) + (xs (n + 3)))).toNatClampNeg))]) (nI_clamp (n := n + 2) (by omega))) ?_
  refine ev_x (i := .aload_n 0) (len := 1) (p' := 596) (s' := [.ref 0, .int (xs (n + 2)), .int (xs (n + 1)), .ref 66, .int (gE σ 61 ((((gE σ 58 ((((gE σ 56 (((xs (n + 1))).toNatClampNeg)) + (xs (n + 2)))).toNatClampNeg)) + (xs (n + 3)))).toNatClampNeg))]) rfl rfl rfl ?_
  refine ev_x (i := .iload 4) (len := 2) (p' := 598) (s' := [.int (nI n), .ref 0, .int (xs (n + 2)), .int (xs (n + 1)), .ref 66, .int (gE σ 61 ((((gE σ 58 ((((gE σ 56 (((xs (n + 1))).toNatClampNeg)) + (xs (n + 2)))).toNatClampNeg)) + (xs (n + 3)))).toNatClampNeg))]) rfl rfl rfl ?_
  refine ev_x (i := .iconst 3) (len := 1) (p' := 599) (s' := [.int 3, .int (nI n), .ref 0, .int (xs (n + 2)), .int (xs (n + 1)), .ref 66, .int (gE σ 61 ((((gE σ 58 ((((gE σ 56 (((xs (n + 1))).toNatClampNeg)) + (xs (n + 2)))).toNatClampNeg)) + (xs (n + 3)))).toNatClampNeg))]) rfl rfl rfl ?_
  refine ev_x (i := .iadd) (len := 1) (p' := 600) (s' := [.int ((nI n) + 3), .ref 0, .int (xs (n + 2)), .int (xs (n + 1)), .ref 66, .int (gE σ 61 ((((gE σ 58 ((((gE σ 56 (((xs (n + 1))).toNatClampNeg)) + (xs (n + 2)))).toNatClampNeg)) + (xs (n + 3)))).toNatClampNeg))]) rfl rfl rfl ?_
  refine ev_st (st' := [.int (nI (n + 3)), .ref 0, .int (xs (n + 2)), .int (xs (n + 1)), .ref 66, .int (gE σ 61 ((((gE σ 58 ((((gE σ 56 (((xs (n + 1))).toNatClampNeg)) + (xs (n + 2)))).toNatClampNeg)) + (xs (n + 3)))).toNatClampNeg))]) (congrArg (fun z => Value.int z :: [.ref 0, .int (xs (n + 2)), .int (xs (n + 1)), .ref 66, .int (gE σ 61 ((((gE σ 58 ((((gE σ 56 (((xs (n + 1))).toNatClampNeg)) + (xs (n + 2)))).toNatClampNeg)) + (xs (n + 3)))).toNatClampNeg))]) (nI_add n 3)) ?_
  refine ev_sg (p' := 601) rfl rfl hs (vp_in_nI (by omega) (by omega)) rfl ?_
  refine ev_st (st' := [.int (xs (n + 3)), .int (xs (n + 2)), .int (xs (n + 1)), .ref 66, .int (gE σ 61 ((((gE σ 58 ((((gE σ 56 (((xs (n + 1))).toNatClampNeg)) + (xs (n + 2)))).toNatClampNeg)) + (xs (n + 3)))).toNatClampNeg))]) (congrArg (fun z => Value.int (xs z) :: [.int (xs (n + 2)), .int (xs (n + 1)), .ref 66, .int (gE σ 61 ((((gE σ 58 ((((gE σ 56 (((xs (n + 1))).toNatClampNeg)) + (xs (n + 2)))).toNatClampNeg)) + (xs (n + 3)))).toNatClampNeg))]) (nI_clamp (n := n + 3) (by omega))) ?_
  refine ev_x (i := .aload_n 0) (len := 1) (p' := 602) (s' := [.ref 0, .int (xs (n + 3)), .int (xs (n + 2)), .int (xs (n + 1)), .ref 66, .int (gE σ 61 ((((gE σ 58 ((((gE σ 56 (((xs (n + 1))).toNatClampNeg)) + (xs (n + 2)))).toNatClampNeg)) + (xs (n + 3)))).toNatClampNeg))]) rfl rfl rfl ?_
  refine ev_x (i := .iload 4) (len := 2) (p' := 604) (s' := [.int (nI n), .ref 0, .int (xs (n + 3)), .int (xs (n + 2)), .int (xs (n + 1)), .ref 66, .int (gE σ 61 ((((gE σ 58 ((((gE σ 56 (((xs (n + 1))).toNatClampNeg)) + (xs (n + 2)))).toNatClampNeg)) + (xs (n + 3)))).toNatClampNeg))]) rfl rfl rfl ?_
  refine ev_x (i := .iconst 4) (len := 1) (p' := 605) (s' := [.int 4, .int (nI n), .ref 0, .int (xs (n + 3)), .int (xs (n + 2)), .int (xs (n + 1)), .ref 66, .int (gE σ 61 ((((gE σ 58 ((((gE σ 56 (((xs (n + 1))).toNatClampNeg)) + (xs (n + 2)))).toNatClampNeg)) + (xs (n + 3)))).toNatClampNeg))]) rfl rfl rfl ?_
  refine ev_x (i := .iadd) (len := 1) (p' := 606) (s' := [.int ((nI n) + 4), .ref 0, .int (xs (n + 3)), .int (xs (n + 2)), .int (xs (n + 1)), .ref 66, .int (gE σ 61 ((((gE σ 58 ((((gE σ 56 (((xs (n + 1))).toNatClampNeg)) + (xs (n + 2)))).toNatClampNeg)) + (xs (n + 3)))).toNatClampNeg))]) rfl rfl rfl ?_
  refine ev_st (st' := [.int (nI (n + 4)), .ref 0, .int (xs (n + 3)), .int (xs (n + 2)), .int (xs (n + 1)), .ref 66, .int (gE σ 61 ((((gE σ 58 ((((gE σ 56 (((xs (n + 1))).toNatClampNeg)) + (xs (n + 2)))).toNatClampNeg)) + (xs (n + 3)))).toNatClampNeg))]) (congrArg (fun z => Value.int z :: [.ref 0, .int (xs (n + 3)), .int (xs (n + 2)), .int (xs (n + 1)), .ref 66, .int (gE σ 61 ((((gE σ 58 ((((gE σ 56 (((xs (n + 1))).toNatClampNeg)) + (xs (n + 2)))).toNatClampNeg)) + (xs (n + 3)))).toNatClampNeg))]) (nI_add n 4)) ?_
  refine ev_sg (p' := 607) rfl rfl hs (vp_in_nI (by omega) (by omega)) rfl ?_
  refine ev_st (st' := [.int (xs (n + 4)), .int (xs (n + 3)), .int (xs (n + 2)), .int (xs (n + 1)), .ref 66, .int (gE σ 61 ((((gE σ 58 ((((gE σ 56 (((xs (n + 1))).toNatClampNeg)) + (xs (n + 2)))).toNatClampNeg)) + (xs (n + 3)))).toNatClampNeg))]) (congrArg (fun z => Value.int (xs z) :: [.int (xs (n + 3)), .int (xs (n + 2)), .int (xs (n + 1)), .ref 66, .int (gE σ 61 ((((gE σ 58 ((((gE σ 56 (((xs (n + 1))).toNatClampNeg)) + (xs (n + 2)))).toNatClampNeg)) + (xs (n + 3)))).toNatClampNeg))]) (nI_clamp (n := n + 4) (by omega))) ?_
  refine ev_cv (d := d + 4) (As := [.int (xs (n + 1)), .int (xs (n + 2)), .int (xs (n + 3)), .int (xs (n + 4))]) (a := 66) (p' := 610) rfl rfl rfl ly_66 rfl rfl rfl rfl rfl rfl rfl (lz_222 (d := d + 1) (c_1 := c_1) (c_2 := c_15) (c_3 := c_3) (c_4 := c_16) (c_5 := c_17) (c_6 := c_8) (c_7 := c_18) (c_8 := c_19) (c_9 := c_20) (c_10 := c_21) (c_11 := c_22) (c_12 := c_23) (c_13 := c_24) (c_14 := c_25) (c_15 := c_26)) ?_
  refine ev_st (st' := [.int ((gL σ 183 ((((gE σ 178 ((((gE σ 173 (((xs (n + 1))).toNatClampNeg)) + (xs (n + 2)))).toNatClampNeg)) + (xs (n + 3)))).toNatClampNeg)) : Int64).toInt32, .int (gE σ 61 ((((gE σ 58 ((((gE σ 56 (((xs (n + 1))).toNatClampNeg)) + (xs (n + 2)))).toNatClampNeg)) + (xs (n + 3)))).toNatClampNeg))]) rfl ?_
  refine ev_b2 (t := 615) (p' := 615) rfl rfl rfl (if_pos c_27) ?_
  exact k
set_option maxHeartbeats 4000000 in
set_option maxRecDepth 100000 in
/-- GameText.branch(IIII)I -/
theorem lz_227 {d : Nat} {σ : st_S} {y_1 y_2 y_3 y_4 : Int32} (c_1 : ¬ (y_1 < 0)) (c_2 : ¬ ((σ.1 52 10) ≤ y_1)) (c_3 : ¬ (y_2 < 0)) (c_4 : vp_in (y_1 + 1) (gN σ 56)) (c_5 : vp_in y_1 (gN σ 56)) (c_6 : y_2 < ((gE σ 56 (((y_1 + 1)).toNatClampNeg)) - (gE σ 56 ((y_1).toNatClampNeg)))) (c_7 : ¬ (((gE σ 56 ((y_1).toNatClampNeg)) + y_2) < 0)) (c_8 : ¬ (y_3 < 0)) (c_9 : vp_in (((gE σ 56 ((y_1).toNatClampNeg)) + y_2) + 1) (gN σ 58)) (c_10 : vp_in ((gE σ 56 ((y_1).toNatClampNeg)) + y_2) (gN σ 58)) (c_11 : y_3 < ((gE σ 58 (((((gE σ 56 ((y_1).toNatClampNeg)) + y_2) + 1)).toNatClampNeg)) - (gE σ 58 ((((gE σ 56 ((y_1).toNatClampNeg)) + y_2)).toNatClampNeg)))) (c_12 : 0 ≤ ((gE σ 58 ((((gE σ 56 ((y_1).toNatClampNeg)) + y_2)).toNatClampNeg)) + y_3)) (c_13 : (y_4 : Int32).toInt < 0 ∨ 2 < (y_4 : Int32).toInt) : vz_ev P0 (d + 4) 102 0 (lv_args 0 [.ref 1, .int y_1, .int y_2, .int y_3, .int y_4]) [] (hp σ) (.inl (some (.int (-1))), hp (σ)) := by
  refine ev_x (i := .aload_n 0) (len := 1) (p' := 1) (s' := [.ref 1]) rfl rfl rfl ?_
  refine ev_gc (p' := 4) (v := 52) rfl rfl rfl ly_1 rfl rfl ?_
  refine ev_x (i := .iload_n 1) (len := 1) (p' := 5) (s' := [.int y_1, .ref 52]) rfl rfl rfl ?_
  refine ev_x (i := .iload_n 2) (len := 1) (p' := 6) (s' := [.int y_2, .int y_1, .ref 52]) rfl rfl rfl ?_
  refine ev_x (i := .iload_n 3) (len := 1) (p' := 7) (s' := [.int y_3, .int y_2, .int y_1, .ref 52]) rfl rfl rfl ?_
  refine ev_cv (d := d + 3) (As := [.int y_1, .int y_2, .int y_3]) (a := 52) (p' := 10) rfl rfl rfl ly_52 rfl rfl rfl rfl rfl rfl rfl (lz_196 (d := d + 0) (c_1 := c_1) (c_2 := c_2) (c_3 := c_3) (c_4 := c_4) (c_5 := c_5) (c_6 := c_6) (c_7 := c_7) (c_8 := c_8) (c_9 := c_9) (c_10 := c_10) (c_11 := c_11)) ?_
  refine ev_st (st' := [.int ((gE σ 58 ((((gE σ 56 ((y_1).toNatClampNeg)) + y_2)).toNatClampNeg)) + y_3)]) rfl ?_
  refine ev_x (i := .istore 5) (len := 2) (p' := 12) (s' := []) (l' := [(5, .int ((gE σ 58 ((((gE σ 56 ((y_1).toNatClampNeg)) + y_2)).toNatClampNeg)) + y_3)), (0, .ref 1), (1, .int y_1), (2, .int y_2), (3, .int y_3), (4, .int y_4)]) rfl rfl rfl ?_
  refine ev_x (i := .iload 5) (len := 2) (p' := 14) (s' := [.int ((gE σ 58 ((((gE σ 56 ((y_1).toNatClampNeg)) + y_2)).toNatClampNeg)) + y_3)]) rfl rfl rfl ?_
  refine ev_b0 (t := 19) (p' := 19) rfl rfl rfl (if_pos c_12) ?_
  refine ev_x (i := .iload 4) (len := 2) (p' := 21) (s' := [.int y_4]) rfl rfl rfl ?_
  refine ev_ts (off := 60) (t := 81) rfl rfl (if_pos c_13) rfl ?_
  refine ev_x (i := .iconst (-1)) (len := 1) (p' := 82) (s' := [.int (-1)]) rfl rfl rfl ?_
  exact ev_iret rfl rfl rfl rfl
set_option maxHeartbeats 4000000 in
set_option maxRecDepth 100000 in
/-- GameTextModel.branch(IIII)I -/
theorem lz_231 {d : Nat} {σ : st_S} {y_1 y_2 y_3 y_4 : Int32} (c_1 : ¬ (y_1 < 0)) (c_2 : ¬ ((σ.1 66 29) ≤ y_1)) (c_3 : ¬ (y_2 < 0)) (c_4 : vp_in y_1 (gN σ 174)) (c_5 : ¬ ((gE σ 174 ((y_1).toNatClampNeg)) ≤ y_2)) (c_6 : ¬ (y_3 < 0)) (c_7 : vp_in y_1 (gN σ 173)) (c_8 : vp_in ((gE σ 173 ((y_1).toNatClampNeg)) + y_2) (gN σ 180)) (c_9 : ¬ ((gE σ 180 ((((gE σ 173 ((y_1).toNatClampNeg)) + y_2)).toNatClampNeg)) ≤ y_3)) (c_10 : y_4 < 0) : vz_ev P0 (d + 3) 229 0 (lv_args 0 [.ref 66, .int y_1, .int y_2, .int y_3, .int y_4]) [] (hp σ) (.inl (some (.int (-1))), hp (st_i (σ) 66 0 0)) := by
  refine ev_x (i := .aload_n 0) (len := 1) (p' := 1) (s' := [.ref 66]) rfl rfl rfl ?_
  refine ev_x (i := .iload_n 1) (len := 1) (p' := 2) (s' := [.int y_1, .ref 66]) rfl rfl rfl ?_
  refine ev_x (i := .iload_n 2) (len := 1) (p' := 3) (s' := [.int y_2, .int y_1, .ref 66]) rfl rfl rfl ?_
  refine ev_cv (d := d + 2) (As := [.int y_1, .int y_2]) (a := 66) (p' := 6) rfl rfl rfl ly_66 rfl rfl rfl rfl rfl rfl rfl (lz_105 (d := d + 0) (c_1 := c_1) (c_2 := c_2) (c_3 := c_3) (c_4 := c_4) (c_5 := c_5)) ?_
  refine ev_st (st' := [.int 1]) rfl ?_
  refine ev_b0 (t := 43) (p' := 9) rfl rfl rfl (by decide) ?_
  refine ev_x (i := .iload_n 3) (len := 1) (p' := 10) (s' := [.int y_3]) rfl rfl rfl ?_
  refine ev_b0 (t := 43) (p' := 13) rfl rfl rfl (if_neg c_6) ?_
  refine ev_x (i := .iload_n 3) (len := 1) (p' := 14) (s' := [.int y_3]) rfl rfl rfl ?_
  refine ev_x (i := .aload_n 0) (len := 1) (p' := 15) (s' := [.ref 66, .int y_3]) rfl rfl rfl ?_
  refine ev_gc (p' := 18) (v := 179) rfl rfl rfl ly_66 rfl rfl ?_
  refine ev_x (i := .aload_n 0) (len := 1) (p' := 19) (s' := [.ref 66, .ref 179, .int y_3]) rfl rfl rfl ?_
  refine ev_gc (p' := 22) (v := 173) rfl rfl rfl ly_66 rfl rfl ?_
  refine ev_x (i := .iload_n 1) (len := 1) (p' := 23) (s' := [.int y_1, .ref 173, .ref 179, .int y_3]) rfl rfl rfl ?_
  refine ev_ga (p' := 24) (v := (gE σ 173 ((y_1).toNatClampNeg))) rfl rfl ly_173 rfl c_7 rfl ?_
  refine ev_x (i := .iload_n 2) (len := 1) (p' := 25) (s' := [.int y_2, .int (gE σ 173 ((y_1).toNatClampNeg)), .ref 179, .int y_3]) rfl rfl rfl ?_
  refine ev_x (i := .iadd) (len := 1) (p' := 26) (s' := [.int ((gE σ 173 ((y_1).toNatClampNeg)) + y_2), .ref 179, .int y_3]) rfl rfl rfl ?_
  refine ev_cv (d := d + 2) (As := [.int ((gE σ 173 ((y_1).toNatClampNeg)) + y_2)]) (a := 179) (p' := 29) rfl rfl rfl ly_179 rfl rfl rfl rfl rfl rfl rfl (lz_142 (d := d + 1) (c_1 := c_8)) ?_
  refine ev_st (st' := [.int (gE σ 180 ((((gE σ 173 ((y_1).toNatClampNeg)) + y_2)).toNatClampNeg)), .int y_3]) rfl ?_
  refine ev_b2 (t := 43) (p' := 32) rfl rfl rfl (if_neg c_9) ?_
  refine ev_x (i := .iload 4) (len := 2) (p' := 34) (s' := [.int y_4]) rfl rfl rfl ?_
  refine ev_b0 (t := 43) (p' := 43) rfl rfl rfl (if_pos c_10) ?_
  refine ev_x (i := .iconst (-1)) (len := 1) (p' := 44) (s' := [.int (-1)]) rfl rfl rfl ?_
  exact ev_iret rfl rfl rfl rfl
set_option maxHeartbeats 4000000 in
set_option maxRecDepth 100000 in
/-- GameTextLaw.law([I)Z -/
theorem lw_13x_a0 {d : Nat} {σ : st_S} {q : vz_O × vz_H} {n L : Nat} {xs : Nat → Int32} (hs : gF σ 0 = .inl (0, L, .inl xs)) (hn : n + 6 ≤ L) (hL : L ≤ 3072) (c_1 : ¬ ((xs (n + 1)) < 0)) (c_2 : ¬ ((σ.1 52 10) ≤ (xs (n + 1)))) (c_3 : ¬ ((xs (n + 2)) < 0)) (c_4 : vp_in ((xs (n + 1)) + 1) (gN σ 56)) (c_5 : vp_in (xs (n + 1)) (gN σ 56)) (c_6 : (xs (n + 2)) < ((gE σ 56 ((((xs (n + 1)) + 1)).toNatClampNeg)) - (gE σ 56 (((xs (n + 1))).toNatClampNeg)))) (c_7 : ¬ (((gE σ 56 (((xs (n + 1))).toNatClampNeg)) + (xs (n + 2))) < 0)) (c_8 : ¬ ((xs (n + 3)) < 0)) (c_9 : vp_in (((gE σ 56 (((xs (n + 1))).toNatClampNeg)) + (xs (n + 2))) + 1) (gN σ 58)) (c_10 : vp_in ((gE σ 56 (((xs (n + 1))).toNatClampNeg)) + (xs (n + 2))) (gN σ 58)) (c_11 : (xs (n + 3)) < ((gE σ 58 (((((gE σ 56 (((xs (n + 1))).toNatClampNeg)) + (xs (n + 2))) + 1)).toNatClampNeg)) - (gE σ 58 ((((gE σ 56 (((xs (n + 1))).toNatClampNeg)) + (xs (n + 2)))).toNatClampNeg)))) (c_12 : 0 ≤ ((gE σ 58 ((((gE σ 56 (((xs (n + 1))).toNatClampNeg)) + (xs (n + 2)))).toNatClampNeg)) + (xs (n + 3)))) (c_13 : ((xs (n + 4)) : Int32).toInt < 0 ∨ 2 < ((xs (n + 4)) : Int32).toInt) (c_14 : ¬ ((σ.1 66 29) ≤ (xs (n + 1)))) (c_15 : vp_in (xs (n + 1)) (gN σ 174)) (c_16 : ¬ ((gE σ 174 (((xs (n + 1))).toNatClampNeg)) ≤ (xs (n + 2)))) (c_17 : vp_in (xs (n + 1)) (gN σ 173)) (c_18 : vp_in ((gE σ 173 (((xs (n + 1))).toNatClampNeg)) + (xs (n + 2))) (gN σ 180)) (c_19 : ¬ ((gE σ 180 ((((gE σ 173 (((xs (n + 1))).toNatClampNeg)) + (xs (n + 2)))).toNatClampNeg)) ≤ (xs (n + 3)))) (c_20 : (xs (n + 4)) < 0) (k : vz_ev P0 (d + 5) 0 615 [(4, .int (nI n)), (3, .ref 187), (2, .ref 66), (1, .ref 1), (0, .ref 0)] [] (hp (st_i (σ) 66 0 0)) q) : vz_ev P0 (d + 5) 0 554 [(4, .int (nI n)), (3, .ref 187), (2, .ref 66), (1, .ref 1), (0, .ref 0)] [] (hp σ) q := by
  refine ev_x (i := .aload_n 1) (len := 1) (p' := 555) (s' := [.ref 1]) rfl rfl rfl ?_
  refine ev_x (i := .aload_n 0) (len := 1) (p' := 556) (s' := [.ref 0, .ref 1]) rfl rfl rfl ?_
  refine ev_x (i := .iload 4) (len := 2) (p' := 558) (s' := [.int (nI n), .ref 0, .ref 1]) rfl rfl rfl ?_
  refine ev_x (i := .iconst 1) (len := 1) (p' := 559) (s' := [.int 1, .int (nI n), .ref 0, .ref 1]) rfl rfl rfl ?_
  refine ev_x (i := .iadd) (len := 1) (p' := 560) (s' := [.int ((nI n) + 1), .ref 0, .ref 1]) rfl rfl rfl ?_
  refine ev_st (st' := [.int (nI (n + 1)), .ref 0, .ref 1]) (congrArg (fun z => Value.int z :: [.ref 0, .ref 1]) (nI_add n 1)) ?_
  refine ev_sg (p' := 561) rfl rfl hs (vp_in_nI (by omega) (by omega)) rfl ?_
  refine ev_st (st' := [.int (xs (n + 1)), .ref 1]) (congrArg (fun z => Value.int (xs z) :: [.ref 1]) (nI_clamp (n := n + 1) (by omega))) ?_
  refine ev_x (i := .aload_n 0) (len := 1) (p' := 562) (s' := [.ref 0, .int (xs (n + 1)), .ref 1]) rfl rfl rfl ?_
  refine ev_x (i := .iload 4) (len := 2) (p' := 564) (s' := [.int (nI n), .ref 0, .int (xs (n + 1)), .ref 1]) rfl rfl rfl ?_
  refine ev_x (i := .iconst 2) (len := 1) (p' := 565) (s' := [.int 2, .int (nI n), .ref 0, .int (xs (n + 1)), .ref 1]) rfl rfl rfl ?_
  refine ev_x (i := .iadd) (len := 1) (p' := 566) (s' := [.int ((nI n) + 2), .ref 0, .int (xs (n + 1)), .ref 1]) rfl rfl rfl ?_
  refine ev_st (st' := [.int (nI (n + 2)), .ref 0, .int (xs (n + 1)), .ref 1]) (congrArg (fun z => Value.int z :: [.ref 0, .int (xs (n + 1)), .ref 1]) (nI_add n 2)) ?_
  refine ev_sg (p' := 567) rfl rfl hs (vp_in_nI (by omega) (by omega)) rfl ?_
  refine ev_st (st' := [.int (xs (n + 2)), .int (xs (n + 1)), .ref 1]) (congrArg (fun z => Value.int (xs z) :: [.int (xs (n + 1)), .ref 1]) (nI_clamp (n := n + 2) (by omega))) ?_
  refine ev_x (i := .aload_n 0) (len := 1) (p' := 568) (s' := [.ref 0, .int (xs (n + 2)), .int (xs (n + 1)), .ref 1]) rfl rfl rfl ?_
  refine ev_x (i := .iload 4) (len := 2) (p' := 570) (s' := [.int (nI n), .ref 0, .int (xs (n + 2)), .int (xs (n + 1)), .ref 1]) rfl rfl rfl ?_
  refine ev_x (i := .iconst 3) (len := 1) (p' := 571) (s' := [.int 3, .int (nI n), .ref 0, .int (xs (n + 2)), .int (xs (n + 1)), .ref 1]) rfl rfl rfl ?_
  refine ev_x (i := .iadd) (len := 1) (p' := 572) (s' := [.int ((nI n) + 3), .ref 0, .int (xs (n + 2)), .int (xs (n + 1)), .ref 1]) rfl rfl rfl ?_
  refine ev_st (st' := [.int (nI (n + 3)), .ref 0, .int (xs (n + 2)), .int (xs (n + 1)), .ref 1]) (congrArg (fun z => Value.int z :: [.ref 0, .int (xs (n + 2)), .int (xs (n + 1)), .ref 1]) (nI_add n 3)) ?_
  refine ev_sg (p' := 573) rfl rfl hs (vp_in_nI (by omega) (by omega)) rfl ?_
  refine ev_st (st' := [.int (xs (n + 3)), .int (xs (n + 2)), .int (xs (n + 1)), .ref 1]) (congrArg (fun z => Value.int (xs z) :: [.int (xs (n + 2)), .int (xs (n + 1)), .ref 1]) (nI_clamp (n := n + 3) (by omega))) ?_
  refine ev_x (i := .aload_n 0) (len := 1) (p' := 574) (s' := [.ref 0, .int (xs (n + 3)), .int (xs (n + 2)), .int (xs (n + 1)), .ref 1]) rfl rfl rfl ?_
  refine ev_x (i := .iload 4) (len := 2) (p' := 576) (s' := [.int (nI n), .ref 0, .int (xs (n + 3)), .int (xs (n + 2)), .int (xs (n + 1)), .ref 1]) rfl rfl rfl ?_
  refine ev_x (i := .iconst 4) (len := 1) (p' := 577) (s' := [.int 4, .int (nI n), .ref 0, .int (xs (n + 3)), .int (xs (n + 2)), .int (xs (n + 1)), .ref 1]) rfl rfl rfl ?_
  refine ev_x (i := .iadd) (len := 1) (p' := 578) (s' := [.int ((nI n) + 4), .ref 0, .int (xs (n + 3)), .int (xs (n + 2)), .int (xs (n + 1)), .ref 1]) rfl rfl rfl ?_
  refine ev_st (st' := [.int (nI (n + 4)), .ref 0, .int (xs (n + 3)), .int (xs (n + 2)), .int (xs (n + 1)), .ref 1]) (congrArg (fun z => Value.int z :: [.ref 0, .int (xs (n + 3)), .int (xs (n + 2)), .int (xs (n + 1)), .ref 1]) (nI_add n 4)) ?_
  refine ev_sg (p' := 579) rfl rfl hs (vp_in_nI (by omega) (by omega)) rfl ?_
  refine ev_st (st' := [.int (xs (n + 4)), .int (xs (n + 3)), .int (xs (n + 2)), .int (xs (n + 1)), .ref 1]) (congrArg (fun z => Value.int (xs z) :: [.int (xs (n + 3)), .int (xs (n + 2)), .int (xs (n + 1)), .ref 1]) (nI_clamp (n := n + 4) (by omega))) ?_
  refine ev_cv (d := d + 4) (As := [.int (xs (n + 1)), .int (xs (n + 2)), .int (xs (n + 3)), .int (xs (n + 4))]) (a := 1) (p' := 582) rfl rfl rfl ly_1 rfl rfl rfl rfl rfl rfl rfl (lz_227 (d := d + 0) (c_1 := c_1) (c_2 := c_2) (c_3 := c_3) (c_4 := c_4) (c_5 := c_5) (c_6 := c_6) (c_7 := c_7) (c_8 := c_8) (c_9 := c_9) (c_10 := c_10) (c_11 := c_11) (c_12 := c_12) (c_13 := c_13)) ?_
  refine ev_st (st' := [.int (-1)]) rfl ?_
  refine ev_x (i := .aload_n 2) (len := 1) (p' := 583) (s' := [.ref 66, .int (-1)]) rfl rfl rfl ?_
  refine ev_x (i := .aload_n 0) (len := 1) (p' := 584) (s' := [.ref 0, .ref 66, .int (-1)]) rfl rfl rfl ?_
  refine ev_x (i := .iload 4) (len := 2) (p' := 586) (s' := [.int (nI n), .ref 0, .ref 66, .int (-1)]) rfl rfl rfl ?_
  refine ev_x (i := .iconst 1) (len := 1) (p' := 587) (s' := [.int 1, .int (nI n), .ref 0, .ref 66, .int (-1)]) rfl rfl rfl ?_
  refine ev_x (i := .iadd) (len := 1) (p' := 588) (s' := [.int ((nI n) + 1), .ref 0, .ref 66, .int (-1)]) rfl rfl rfl ?_
  refine ev_st (st' := [.int (nI (n + 1)), .ref 0, .ref 66, .int (-1)]) (congrArg (fun z => Value.int z :: [.ref 0, .ref 66, .int (-1)]) (nI_add n 1)) ?_
  refine ev_sg (p' := 589) rfl rfl hs (vp_in_nI (by omega) (by omega)) rfl ?_
  refine ev_st (st' := [.int (xs (n + 1)), .ref 66, .int (-1)]) (congrArg (fun z => Value.int (xs z) :: [.ref 66, .int (-1)]) (nI_clamp (n := n + 1) (by omega))) ?_
  refine ev_x (i := .aload_n 0) (len := 1) (p' := 590) (s' := [.ref 0, .int (xs (n + 1)), .ref 66, .int (-1)]) rfl rfl rfl ?_
  refine ev_x (i := .iload 4) (len := 2) (p' := 592) (s' := [.int (nI n), .ref 0, .int (xs (n + 1)), .ref 66, .int (-1)]) rfl rfl rfl ?_
  refine ev_x (i := .iconst 2) (len := 1) (p' := 593) (s' := [.int 2, .int (nI n), .ref 0, .int (xs (n + 1)), .ref 66, .int (-1)]) rfl rfl rfl ?_
  refine ev_x (i := .iadd) (len := 1) (p' := 594) (s' := [.int ((nI n) + 2), .ref 0, .int (xs (n + 1)), .ref 66, .int (-1)]) rfl rfl rfl ?_
  refine ev_st (st' := [.int (nI (n + 2)), .ref 0, .int (xs (n + 1)), .ref 66, .int (-1)]) (congrArg (fun z => Value.int z :: [.ref 0, .int (xs (n + 1)), .ref 66, .int (-1)]) (nI_add n 2)) ?_
  refine ev_sg (p' := 595) rfl rfl hs (vp_in_nI (by omega) (by omega)) rfl ?_
  refine ev_st (st' := [.int (xs (n + 2)), .int (xs (n + 1)), .ref 66, .int (-1)]) (congrArg (fun z => Value.int (xs z) :: [.int (xs (n + 1)), .ref 66, .int (-1)]) (nI_clamp (n := n + 2) (by omega))) ?_
  refine ev_x (i := .aload_n 0) (len := 1) (p' := 596) (s' := [.ref 0, .int (xs (n + 2)), .int (xs (n + 1)), .ref 66, .int (-1)]) rfl rfl rfl ?_
  refine ev_x (i := .iload 4) (len := 2) (p' := 598) (s' := [.int (nI n), .ref 0, .int (xs (n + 2)), .int (xs (n + 1)), .ref 66, .int (-1)]) rfl rfl rfl ?_
  refine ev_x (i := .iconst 3) (len := 1) (p' := 599) (s' := [.int 3, .int (nI n), .ref 0, .int (xs (n + 2)), .int (xs (n + 1)), .ref 66, .int (-1)]) rfl rfl rfl ?_
  refine ev_x (i := .iadd) (len := 1) (p' := 600) (s' := [.int ((nI n) + 3), .ref 0, .int (xs (n + 2)), .int (xs (n + 1)), .ref 66, .int (-1)]) rfl rfl rfl ?_
  refine ev_st (st' := [.int (nI (n + 3)), .ref 0, .int (xs (n + 2)), .int (xs (n + 1)), .ref 66, .int (-1)]) (congrArg (fun z => Value.int z :: [.ref 0, .int (xs (n + 2)), .int (xs (n + 1)), .ref 66, .int (-1)]) (nI_add n 3)) ?_
  refine ev_sg (p' := 601) rfl rfl hs (vp_in_nI (by omega) (by omega)) rfl ?_
  refine ev_st (st' := [.int (xs (n + 3)), .int (xs (n + 2)), .int (xs (n + 1)), .ref 66, .int (-1)]) (congrArg (fun z => Value.int (xs z) :: [.int (xs (n + 2)), .int (xs (n + 1)), .ref 66, .int (-1)]) (nI_clamp (n := n + 3) (by omega))) ?_
  refine ev_x (i := .aload_n 0) (len := 1) (p' := 602) (s' := [.ref 0, .int (xs (n + 3)), .int (xs (n + 2)), .int (xs (n + 1)), .ref 66, .int (-1)]) rfl rfl rfl ?_
  refine ev_x (i := .iload 4) (len := 2) (p' := 604) (s' := [.int (nI n), .ref 0, .int (xs (n + 3)), .int (xs (n + 2)), .int (xs (n + 1)), .ref 66, .int (-1)]) rfl rfl rfl ?_
  refine ev_x (i := .iconst 4) (len := 1) (p' := 605) (s' := [.int 4, .int (nI n), .ref 0, .int (xs (n + 3)), .int (xs (n + 2)), .int (xs (n + 1)), .ref 66, .int (-1)]) rfl rfl rfl ?_
  refine ev_x (i := .iadd) (len := 1) (p' := 606) (s' := [.int ((nI n) + 4), .ref 0, .int (xs (n + 3)), .int (xs (n + 2)), .int (xs (n + 1)), .ref 66, .int (-1)]) rfl rfl rfl ?_
  refine ev_st (st' := [.int (nI (n + 4)), .ref 0, .int (xs (n + 3)), .int (xs (n + 2)), .int (xs (n + 1)), .ref 66, .int (-1)]) (congrArg (fun z => Value.int z :: [.ref 0, .int (xs (n + 3)), .int (xs (n + 2)), .int (xs (n + 1)), .ref 66, .int (-1)]) (nI_add n 4)) ?_
  refine ev_sg (p' := 607) rfl rfl hs (vp_in_nI (by omega) (by omega)) rfl ?_
  refine ev_st (st' := [.int (xs (n + 4)), .int (xs (n + 3)), .int (xs (n + 2)), .int (xs (n + 1)), .ref 66, .int (-1)]) (congrArg (fun z => Value.int (xs z) :: [.int (xs (n + 3)), .int (xs (n + 2)), .int (xs (n + 1)), .ref 66, .int (-1)]) (nI_clamp (n := n + 4) (by omega))) ?_
  refine ev_cv (d := d + 4) (As := [.int (xs (n + 1)), .int (xs (n + 2)), .int (xs (n + 3)), .int (xs (n + 4))]) (a := 66) (p' := 610) rfl rfl rfl ly_66 rfl rfl rfl rfl rfl rfl rfl (lz_231 (d := d + 1) (c_1 := c_1) (c_2 := c_14) (c_3 := c_3) (c_4 := c_15) (c_5 := c_16) (c_6 := c_8) (c_7 := c_17) (c_8 := c_18) (c_9 := c_19) (c_10 := c_20)) ?_
  refine ev_st (st' := [.int (-1), .int (-1)]) rfl ?_
  refine ev_b2 (t := 615) (p' := 615) rfl rfl rfl (by decide) ?_
  exact k
set_option maxHeartbeats 4000000 in
set_option maxRecDepth 100000 in
/-- GameTextModel.branch(IIII)I -/
theorem lz_240 {d : Nat} {σ : st_S} {y_1 y_2 y_3 y_4 : Int32} (c_1 : ¬ (y_1 < 0)) (c_2 : ¬ ((σ.1 66 29) ≤ y_1)) (c_3 : ¬ (y_2 < 0)) (c_4 : vp_in y_1 (gN σ 174)) (c_5 : ¬ ((gE σ 174 ((y_1).toNatClampNeg)) ≤ y_2)) (c_6 : ¬ (y_3 < 0)) (c_7 : vp_in y_1 (gN σ 173)) (c_8 : vp_in ((gE σ 173 ((y_1).toNatClampNeg)) + y_2) (gN σ 180)) (c_9 : ¬ ((gE σ 180 ((((gE σ 173 ((y_1).toNatClampNeg)) + y_2)).toNatClampNeg)) ≤ y_3)) (c_10 : ¬ (y_4 < 0)) (c_11 : ¬ (y_4 ≤ 2)) : vz_ev P0 (d + 3) 229 0 (lv_args 0 [.ref 66, .int y_1, .int y_2, .int y_3, .int y_4]) [] (hp σ) (.inl (some (.int (-1))), hp (st_i (σ) 66 0 0)) := by
  refine ev_x (i := .aload_n 0) (len := 1) (p' := 1) (s' := [.ref 66]) rfl rfl rfl ?_
  refine ev_x (i := .iload_n 1) (len := 1) (p' := 2) (s' := [.int y_1, .ref 66]) rfl rfl rfl ?_
  refine ev_x (i := .iload_n 2) (len := 1) (p' := 3) (s' := [.int y_2, .int y_1, .ref 66]) rfl rfl rfl ?_
  refine ev_cv (d := d + 2) (As := [.int y_1, .int y_2]) (a := 66) (p' := 6) rfl rfl rfl ly_66 rfl rfl rfl rfl rfl rfl rfl (lz_105 (d := d + 0) (c_1 := c_1) (c_2 := c_2) (c_3 := c_3) (c_4 := c_4) (c_5 := c_5)) ?_
  refine ev_st (st' := [.int 1]) rfl ?_
  refine ev_b0 (t := 43) (p' := 9) rfl rfl rfl (by decide) ?_
  refine ev_x (i := .iload_n 3) (len := 1) (p' := 10) (s' := [.int y_3]) rfl rfl rfl ?_
  refine ev_b0 (t := 43) (p' := 13) rfl rfl rfl (if_neg c_6) ?_
  refine ev_x (i := .iload_n 3) (len := 1) (p' := 14) (s' := [.int y_3]) rfl rfl rfl ?_
  refine ev_x (i := .aload_n 0) (len := 1) (p' := 15) (s' := [.ref 66, .int y_3]) rfl rfl rfl ?_
  refine ev_gc (p' := 18) (v := 179) rfl rfl rfl ly_66 rfl rfl ?_
  refine ev_x (i := .aload_n 0) (len := 1) (p' := 19) (s' := [.ref 66, .ref 179, .int y_3]) rfl rfl rfl ?_
  refine ev_gc (p' := 22) (v := 173) rfl rfl rfl ly_66 rfl rfl ?_
  refine ev_x (i := .iload_n 1) (len := 1) (p' := 23) (s' := [.int y_1, .ref 173, .ref 179, .int y_3]) rfl rfl rfl ?_
  refine ev_ga (p' := 24) (v := (gE σ 173 ((y_1).toNatClampNeg))) rfl rfl ly_173 rfl c_7 rfl ?_
  refine ev_x (i := .iload_n 2) (len := 1) (p' := 25) (s' := [.int y_2, .int (gE σ 173 ((y_1).toNatClampNeg)), .ref 179, .int y_3]) rfl rfl rfl ?_
  refine ev_x (i := .iadd) (len := 1) (p' := 26) (s' := [.int ((gE σ 173 ((y_1).toNatClampNeg)) + y_2), .ref 179, .int y_3]) rfl rfl rfl ?_
  refine ev_cv (d := d + 2) (As := [.int ((gE σ 173 ((y_1).toNatClampNeg)) + y_2)]) (a := 179) (p' := 29) rfl rfl rfl ly_179 rfl rfl rfl rfl rfl rfl rfl (lz_142 (d := d + 1) (c_1 := c_8)) ?_
  refine ev_st (st' := [.int (gE σ 180 ((((gE σ 173 ((y_1).toNatClampNeg)) + y_2)).toNatClampNeg)), .int y_3]) rfl ?_
  refine ev_b2 (t := 43) (p' := 32) rfl rfl rfl (if_neg c_9) ?_
  refine ev_x (i := .iload 4) (len := 2) (p' := 34) (s' := [.int y_4]) rfl rfl rfl ?_
  refine ev_b0 (t := 43) (p' := 37) rfl rfl rfl (if_neg c_10) ?_
  refine ev_x (i := .iload 4) (len := 2) (p' := 39) (s' := [.int y_4]) rfl rfl rfl ?_
  refine ev_x (i := .iconst 2) (len := 1) (p' := 40) (s' := [.int 2, .int y_4]) rfl rfl rfl ?_
  refine ev_b2 (t := 45) (p' := 43) rfl rfl rfl (if_neg c_11) ?_
  refine ev_x (i := .iconst (-1)) (len := 1) (p' := 44) (s' := [.int (-1)]) rfl rfl rfl ?_
  exact ev_iret rfl rfl rfl rfl
set_option maxHeartbeats 4000000 in
set_option maxRecDepth 100000 in
/-- GameTextLaw.law([I)Z -/
theorem lw_13y_a0 {d : Nat} {σ : st_S} {q : vz_O × vz_H} {n L : Nat} {xs : Nat → Int32} (hs : gF σ 0 = .inl (0, L, .inl xs)) (hn : n + 6 ≤ L) (hL : L ≤ 3072) (c_1 : ¬ ((xs (n + 1)) < 0)) (c_2 : ¬ ((σ.1 52 10) ≤ (xs (n + 1)))) (c_3 : ¬ ((xs (n + 2)) < 0)) (c_4 : vp_in ((xs (n + 1)) + 1) (gN σ 56)) (c_5 : vp_in (xs (n + 1)) (gN σ 56)) (c_6 : (xs (n + 2)) < ((gE σ 56 ((((xs (n + 1)) + 1)).toNatClampNeg)) - (gE σ 56 (((xs (n + 1))).toNatClampNeg)))) (c_7 : ¬ (((gE σ 56 (((xs (n + 1))).toNatClampNeg)) + (xs (n + 2))) < 0)) (c_8 : ¬ ((xs (n + 3)) < 0)) (c_9 : vp_in (((gE σ 56 (((xs (n + 1))).toNatClampNeg)) + (xs (n + 2))) + 1) (gN σ 58)) (c_10 : vp_in ((gE σ 56 (((xs (n + 1))).toNatClampNeg)) + (xs (n + 2))) (gN σ 58)) (c_11 : (xs (n + 3)) < ((gE σ 58 (((((gE σ 56 (((xs (n + 1))).toNatClampNeg)) + (xs (n + 2))) + 1)).toNatClampNeg)) - (gE σ 58 ((((gE σ 56 (((xs (n + 1))).toNatClampNeg)) + (xs (n + 2)))).toNatClampNeg)))) (c_12 : 0 ≤ ((gE σ 58 ((((gE σ 56 (((xs (n + 1))).toNatClampNeg)) + (xs (n + 2)))).toNatClampNeg)) + (xs (n + 3)))) (c_13 : ((xs (n + 4)) : Int32).toInt < 0 ∨ 2 < ((xs (n + 4)) : Int32).toInt) (c_14 : ¬ ((σ.1 66 29) ≤ (xs (n + 1)))) (c_15 : vp_in (xs (n + 1)) (gN σ 174)) (c_16 : ¬ ((gE σ 174 (((xs (n + 1))).toNatClampNeg)) ≤ (xs (n + 2)))) (c_17 : vp_in (xs (n + 1)) (gN σ 173)) (c_18 : vp_in ((gE σ 173 (((xs (n + 1))).toNatClampNeg)) + (xs (n + 2))) (gN σ 180)) (c_19 : ¬ ((gE σ 180 ((((gE σ 173 (((xs (n + 1))).toNatClampNeg)) + (xs (n + 2)))).toNatClampNeg)) ≤ (xs (n + 3)))) (c_20 : ¬ ((xs (n + 4)) < 0)) (c_21 : ¬ ((xs (n + 4)) ≤ 2)) (k : vz_ev P0 (d + 5) 0 615 [(4, .int (nI n)), (3, .ref 187), (2, .ref 66), (1, .ref 1), (0, .ref 0)] [] (hp (st_i (σ) 66 0 0)) q) : vz_ev P0 (d + 5) 0 554 [(4, .int (nI n)), (3, .ref 187), (2, .ref 66), (1, .ref 1), (0, .ref 0)] [] (hp σ) q := by
  refine ev_x (i := .aload_n 1) (len := 1) (p' := 555) (s' := [.ref 1]) rfl rfl rfl ?_
  refine ev_x (i := .aload_n 0) (len := 1) (p' := 556) (s' := [.ref 0, .ref 1]) rfl rfl rfl ?_
  refine ev_x (i := .iload 4) (len := 2) (p' := 558) (s' := [.int (nI n), .ref 0, .ref 1]) rfl rfl rfl ?_
  refine ev_x (i := .iconst 1) (len := 1) (p' := 559) (s' := [.int 1, .int (nI n), .ref 0, .ref 1]) rfl rfl rfl ?_
  refine ev_x (i := .iadd) (len := 1) (p' := 560) (s' := [.int ((nI n) + 1), .ref 0, .ref 1]) rfl rfl rfl ?_
  refine ev_st (st' := [.int (nI (n + 1)), .ref 0, .ref 1]) (congrArg (fun z => Value.int z :: [.ref 0, .ref 1]) (nI_add n 1)) ?_
  refine ev_sg (p' := 561) rfl rfl hs (vp_in_nI (by omega) (by omega)) rfl ?_
  refine ev_st (st' := [.int (xs (n + 1)), .ref 1]) (congrArg (fun z => Value.int (xs z) :: [.ref 1]) (nI_clamp (n := n + 1) (by omega))) ?_
  refine ev_x (i := .aload_n 0) (len := 1) (p' := 562) (s' := [.ref 0, .int (xs (n + 1)), .ref 1]) rfl rfl rfl ?_
  refine ev_x (i := .iload 4) (len := 2) (p' := 564) (s' := [.int (nI n), .ref 0, .int (xs (n + 1)), .ref 1]) rfl rfl rfl ?_
  refine ev_x (i := .iconst 2) (len := 1) (p' := 565) (s' := [.int 2, .int (nI n), .ref 0, .int (xs (n + 1)), .ref 1]) rfl rfl rfl ?_
  refine ev_x (i := .iadd) (len := 1) (p' := 566) (s' := [.int ((nI n) + 2), .ref 0, .int (xs (n + 1)), .ref 1]) rfl rfl rfl ?_
  refine ev_st (st' := [.int (nI (n + 2)), .ref 0, .int (xs (n + 1)), .ref 1]) (congrArg (fun z => Value.int z :: [.ref 0, .int (xs (n + 1)), .ref 1]) (nI_add n 2)) ?_
  refine ev_sg (p' := 567) rfl rfl hs (vp_in_nI (by omega) (by omega)) rfl ?_
  refine ev_st (st' := [.int (xs (n + 2)), .int (xs (n + 1)), .ref 1]) (congrArg (fun z => Value.int (xs z) :: [.int (xs (n + 1)), .ref 1]) (nI_clamp (n := n + 2) (by omega))) ?_
  refine ev_x (i := .aload_n 0) (len := 1) (p' := 568) (s' := [.ref 0, .int (xs (n + 2)), .int (xs (n + 1)), .ref 1]) rfl rfl rfl ?_
  refine ev_x (i := .iload 4) (len := 2) (p' := 570) (s' := [.int (nI n), .ref 0, .int (xs (n + 2)), .int (xs (n + 1)), .ref 1]) rfl rfl rfl ?_
  refine ev_x (i := .iconst 3) (len := 1) (p' := 571) (s' := [.int 3, .int (nI n), .ref 0, .int (xs (n + 2)), .int (xs (n + 1)), .ref 1]) rfl rfl rfl ?_
  refine ev_x (i := .iadd) (len := 1) (p' := 572) (s' := [.int ((nI n) + 3), .ref 0, .int (xs (n + 2)), .int (xs (n + 1)), .ref 1]) rfl rfl rfl ?_
  refine ev_st (st' := [.int (nI (n + 3)), .ref 0, .int (xs (n + 2)), .int (xs (n + 1)), .ref 1]) (congrArg (fun z => Value.int z :: [.ref 0, .int (xs (n + 2)), .int (xs (n + 1)), .ref 1]) (nI_add n 3)) ?_
  refine ev_sg (p' := 573) rfl rfl hs (vp_in_nI (by omega) (by omega)) rfl ?_
  refine ev_st (st' := [.int (xs (n + 3)), .int (xs (n + 2)), .int (xs (n + 1)), .ref 1]) (congrArg (fun z => Value.int (xs z) :: [.int (xs (n + 2)), .int (xs (n + 1)), .ref 1]) (nI_clamp (n := n + 3) (by omega))) ?_
  refine ev_x (i := .aload_n 0) (len := 1) (p' := 574) (s' := [.ref 0, .int (xs (n + 3)), .int (xs (n + 2)), .int (xs (n + 1)), .ref 1]) rfl rfl rfl ?_
  refine ev_x (i := .iload 4) (len := 2) (p' := 576) (s' := [.int (nI n), .ref 0, .int (xs (n + 3)), .int (xs (n + 2)), .int (xs (n + 1)), .ref 1]) rfl rfl rfl ?_
  refine ev_x (i := .iconst 4) (len := 1) (p' := 577) (s' := [.int 4, .int (nI n), .ref 0, .int (xs (n + 3)), .int (xs (n + 2)), .int (xs (n + 1)), .ref 1]) rfl rfl rfl ?_
  refine ev_x (i := .iadd) (len := 1) (p' := 578) (s' := [.int ((nI n) + 4), .ref 0, .int (xs (n + 3)), .int (xs (n + 2)), .int (xs (n + 1)), .ref 1]) rfl rfl rfl ?_
  refine ev_st (st' := [.int (nI (n + 4)), .ref 0, .int (xs (n + 3)), .int (xs (n + 2)), .int (xs (n + 1)), .ref 1]) (congrArg (fun z => Value.int z :: [.ref 0, .int (xs (n + 3)), .int (xs (n + 2)), .int (xs (n + 1)), .ref 1]) (nI_add n 4)) ?_
  refine ev_sg (p' := 579) rfl rfl hs (vp_in_nI (by omega) (by omega)) rfl ?_
  refine ev_st (st' := [.int (xs (n + 4)), .int (xs (n + 3)), .int (xs (n + 2)), .int (xs (n + 1)), .ref 1]) (congrArg (fun z => Value.int (xs z) :: [.int (xs (n + 3)), .int (xs (n + 2)), .int (xs (n + 1)), .ref 1]) (nI_clamp (n := n + 4) (by omega))) ?_
  refine ev_cv (d := d + 4) (As := [.int (xs (n + 1)), .int (xs (n + 2)), .int (xs (n + 3)), .int (xs (n + 4))]) (a := 1) (p' := 582) rfl rfl rfl ly_1 rfl rfl rfl rfl rfl rfl rfl (lz_227 (d := d + 0) (c_1 := c_1) (c_2 := c_2) (c_3 := c_3) (c_4 := c_4) (c_5 := c_5) (c_6 := c_6) (c_7 := c_7) (c_8 := c_8) (c_9 := c_9) (c_10 := c_10) (c_11 := c_11) (c_12 := c_12) (c_13 := c_13)) ?_
  refine ev_st (st' := [.int (-1)]) rfl ?_
  refine ev_x (i := .aload_n 2) (len := 1) (p' := 583) (s' := [.ref 66, .int (-1)]) rfl rfl rfl ?_
  refine ev_x (i := .aload_n 0) (len := 1) (p' := 584) (s' := [.ref 0, .ref 66, .int (-1)]) rfl rfl rfl ?_
  refine ev_x (i := .iload 4) (len := 2) (p' := 586) (s' := [.int (nI n), .ref 0, .ref 66, .int (-1)]) rfl rfl rfl ?_
  refine ev_x (i := .iconst 1) (len := 1) (p' := 587) (s' := [.int 1, .int (nI n), .ref 0, .ref 66, .int (-1)]) rfl rfl rfl ?_
  refine ev_x (i := .iadd) (len := 1) (p' := 588) (s' := [.int ((nI n) + 1), .ref 0, .ref 66, .int (-1)]) rfl rfl rfl ?_
  refine ev_st (st' := [.int (nI (n + 1)), .ref 0, .ref 66, .int (-1)]) (congrArg (fun z => Value.int z :: [.ref 0, .ref 66, .int (-1)]) (nI_add n 1)) ?_
  refine ev_sg (p' := 589) rfl rfl hs (vp_in_nI (by omega) (by omega)) rfl ?_
  refine ev_st (st' := [.int (xs (n + 1)), .ref 66, .int (-1)]) (congrArg (fun z => Value.int (xs z) :: [.ref 66, .int (-1)]) (nI_clamp (n := n + 1) (by omega))) ?_
  refine ev_x (i := .aload_n 0) (len := 1) (p' := 590) (s' := [.ref 0, .int (xs (n + 1)), .ref 66, .int (-1)]) rfl rfl rfl ?_
  refine ev_x (i := .iload 4) (len := 2) (p' := 592) (s' := [.int (nI n), .ref 0, .int (xs (n + 1)), .ref 66, .int (-1)]) rfl rfl rfl ?_
  refine ev_x (i := .iconst 2) (len := 1) (p' := 593) (s' := [.int 2, .int (nI n), .ref 0, .int (xs (n + 1)), .ref 66, .int (-1)]) rfl rfl rfl ?_
  refine ev_x (i := .iadd) (len := 1) (p' := 594) (s' := [.int ((nI n) + 2), .ref 0, .int (xs (n + 1)), .ref 66, .int (-1)]) rfl rfl rfl ?_
  refine ev_st (st' := [.int (nI (n + 2)), .ref 0, .int (xs (n + 1)), .ref 66, .int (-1)]) (congrArg (fun z => Value.int z :: [.ref 0, .int (xs (n + 1)), .ref 66, .int (-1)]) (nI_add n 2)) ?_
  refine ev_sg (p' := 595) rfl rfl hs (vp_in_nI (by omega) (by omega)) rfl ?_
  refine ev_st (st' := [.int (xs (n + 2)), .int (xs (n + 1)), .ref 66, .int (-1)]) (congrArg (fun z => Value.int (xs z) :: [.int (xs (n + 1)), .ref 66, .int (-1)]) (nI_clamp (n := n + 2) (by omega))) ?_
  refine ev_x (i := .aload_n 0) (len := 1) (p' := 596) (s' := [.ref 0, .int (xs (n + 2)), .int (xs (n + 1)), .ref 66, .int (-1)]) rfl rfl rfl ?_
  refine ev_x (i := .iload 4) (len := 2) (p' := 598) (s' := [.int (nI n), .ref 0, .int (xs (n + 2)), .int (xs (n + 1)), .ref 66, .int (-1)]) rfl rfl rfl ?_
  refine ev_x (i := .iconst 3) (len := 1) (p' := 599) (s' := [.int 3, .int (nI n), .ref 0, .int (xs (n + 2)), .int (xs (n + 1)), .ref 66, .int (-1)]) rfl rfl rfl ?_
  refine ev_x (i := .iadd) (len := 1) (p' := 600) (s' := [.int ((nI n) + 3), .ref 0, .int (xs (n + 2)), .int (xs (n + 1)), .ref 66, .int (-1)]) rfl rfl rfl ?_
  refine ev_st (st' := [.int (nI (n + 3)), .ref 0, .int (xs (n + 2)), .int (xs (n + 1)), .ref 66, .int (-1)]) (congrArg (fun z => Value.int z :: [.ref 0, .int (xs (n + 2)), .int (xs (n + 1)), .ref 66, .int (-1)]) (nI_add n 3)) ?_
  refine ev_sg (p' := 601) rfl rfl hs (vp_in_nI (by omega) (by omega)) rfl ?_
  refine ev_st (st' := [.int (xs (n + 3)), .int (xs (n + 2)), .int (xs (n + 1)), .ref 66, .int (-1)]) (congrArg (fun z => Value.int (xs z) :: [.int (xs (n + 2)), .int (xs (n + 1)), .ref 66, .int (-1)]) (nI_clamp (n := n + 3) (by omega))) ?_
  refine ev_x (i := .aload_n 0) (len := 1) (p' := 602) (s' := [.ref 0, .int (xs (n + 3)), .int (xs (n + 2)), .int (xs (n + 1)), .ref 66, .int (-1)]) rfl rfl rfl ?_
  refine ev_x (i := .iload 4) (len := 2) (p' := 604) (s' := [.int (nI n), .ref 0, .int (xs (n + 3)), .int (xs (n + 2)), .int (xs (n + 1)), .ref 66, .int (-1)]) rfl rfl rfl ?_
  refine ev_x (i := .iconst 4) (len := 1) (p' := 605) (s' := [.int 4, .int (nI n), .ref 0, .int (xs (n + 3)), .int (xs (n + 2)), .int (xs (n + 1)), .ref 66, .int (-1)]) rfl rfl rfl ?_
  refine ev_x (i := .iadd) (len := 1) (p' := 606) (s' := [.int ((nI n) + 4), .ref 0, .int (xs (n + 3)), .int (xs (n + 2)), .int (xs (n + 1)), .ref 66, .int (-1)]) rfl rfl rfl ?_
  refine ev_st (st' := [.int (nI (n + 4)), .ref 0, .int (xs (n + 3)), .int (xs (n + 2)), .int (xs (n + 1)), .ref 66, .int (-1)]) (congrArg (fun z => Value.int z :: [.ref 0, .int (xs (n + 3)), .int (xs (n + 2)), .int (xs (n + 1)), .ref 66, .int (-1)]) (nI_add n 4)) ?_
  refine ev_sg (p' := 607) rfl rfl hs (vp_in_nI (by omega) (by omega)) rfl ?_
  refine ev_st (st' := [.int (xs (n + 4)), .int (xs (n + 3)), .int (xs (n + 2)), .int (xs (n + 1)), .ref 66, .int (-1)]) (congrArg (fun z => Value.int (xs z) :: [.int (xs (n + 3)), .int (xs (n + 2)), .int (xs (n + 1)), .ref 66, .int (-1)]) (nI_clamp (n := n + 4) (by omega))) ?_
  refine ev_cv (d := d + 4) (As := [.int (xs (n + 1)), .int (xs (n + 2)), .int (xs (n + 3)), .int (xs (n + 4))]) (a := 66) (p' := 610) rfl rfl rfl ly_66 rfl rfl rfl rfl rfl rfl rfl (lz_240 (d := d + 1) (c_1 := c_1) (c_2 := c_14) (c_3 := c_3) (c_4 := c_15) (c_5 := c_16) (c_6 := c_8) (c_7 := c_17) (c_8 := c_18) (c_9 := c_19) (c_10 := c_20) (c_11 := c_21)) ?_
  refine ev_st (st' := [.int (-1), .int (-1)]) rfl ?_
  refine ev_b2 (t := 615) (p' := 615) rfl rfl rfl (by decide) ?_
  exact k
set_option maxHeartbeats 4000000 in
set_option maxRecDepth 100000 in
/-- GameText.variable(II)I -/
theorem lz_243 {d : Nat} {σ : st_S} {y_1 y_2 : Int32} (c_1 : y_1 < 0) : vz_ev P0 (d + 8) 126 0 (lv_args 0 [.ref 1, .int y_1, .int y_2]) [] (hp σ) (.inr "java/lang/IndexOutOfBoundsException", hp (st_n (σ) 1 6)) := by
  refine ev_x (i := .aload_n 0) (len := 1) (p' := 1) (s' := [.ref 1]) rfl rfl rfl ?_
  refine ev_gc (p' := 4) (v := 52) rfl rfl rfl ly_1 rfl rfl ?_
  refine ev_x (i := .iload_n 1) (len := 1) (p' := 5) (s' := [.int y_1, .ref 52]) rfl rfl rfl ?_
  refine ev_cv (d := d + 7) (As := [.int y_1]) (a := 52) (p' := 8) rfl rfl rfl ly_52 rfl rfl rfl rfl rfl rfl rfl (lz_43 (d := d + 6) (c_1 := c_1)) ?_
  refine ev_st (st' := [.int 0]) rfl ?_
  refine ev_b0 (t := 26) (p' := 26) rfl rfl rfl (by decide) ?_
  exact ev_thr rfl rfl rfl
set_option maxHeartbeats 4000000 in
set_option maxRecDepth 100000 in
/-- GameTextLaw.variable(LGameText;II[J)I -/
theorem lz_244 {d : Nat} {σ : st_S} {y_1 y_2 : Int32} (c_1 : y_1 < 0) : vz_ev P0 (d + 9) 125 0 (lv_args 0 [.ref 1, .int y_1, .int y_2, .ref 187]) [] (hp σ) (.inl (some (.int 1)), hp (st_n (σ) 1 6)) := by
  refine ev_x (i := .aload_n 3) (len := 1) (p' := 1) (s' := [.ref 187]) rfl rfl rfl ?_
  refine ev_x (i := .iconst 0) (len := 1) (p' := 2) (s' := [.int 0, .ref 187]) rfl rfl rfl ?_
  refine ev_x (i := .aload_n 0) (len := 1) (p' := 3) (s' := [.ref 1, .int 0, .ref 187]) rfl rfl rfl ?_
  refine ev_x (i := .iload_n 1) (len := 1) (p' := 4) (s' := [.int y_1, .ref 1, .int 0, .ref 187]) rfl rfl rfl ?_
  refine ev_x (i := .iload_n 2) (len := 1) (p' := 5) (s' := [.int y_2, .int y_1, .ref 1, .int 0, .ref 187]) rfl rfl rfl ?_
  refine ev_caught (d := d + 8) (As := [.int y_1, .int y_2]) (a := 1) (t := ("java/lang/IndexOutOfBoundsException", 15, 4)) (E := "java/lang/IndexOutOfBoundsException") rfl rfl rfl rfl (hp_obj _ ly_1) rfl rfl rfl rfl rfl rfl (beq_self_eq_true _) (lz_243 (d := d + 0) (c_1 := c_1)) ?_
  refine ev_lv (lv' := [(0, .ref 1), (1, .int y_1), (2, .int y_2), (3, .ref 187)]) rfl ?_
  refine ev_pc (pc' := 15) rfl ?_
  refine ev_x (i := .iconst 1) (len := 1) (p' := 16) (s' := [.int 1]) rfl rfl rfl ?_
  exact ev_iret rfl rfl rfl rfl
set_option maxHeartbeats 4000000 in
set_option maxRecDepth 100000 in
/-- GameTextModel.variable(II)I -/
theorem lz_245 {d : Nat} {σ : st_S} {y_1 y_2 : Int32} (c_1 : y_1 < 0) : vz_ev P0 (d + 1) 222 0 (lv_args 0 [.ref 66, .int y_1, .int y_2]) [] (hp σ) (.inl (some (.int 0)), hp (st_i (σ) 66 0 1)) := by
  refine ev_x (i := .aload_n 0) (len := 1) (p' := 1) (s' := [.ref 66]) rfl rfl rfl ?_
  refine ev_x (i := .iload_n 1) (len := 1) (p' := 2) (s' := [.int y_1, .ref 66]) rfl rfl rfl ?_
  refine ev_b0 (t := 28) (p' := 28) rfl rfl rfl (if_pos c_1) ?_
  refine ev_x (i := .iconst 1) (len := 1) (p' := 29) (s' := [.int 1, .ref 66]) rfl rfl rfl ?_
  refine ev_x (i := .goto 4) (len := 3) (p' := 33) (s' := [.int 1, .ref 66]) rfl rfl rfl ?_
  refine ev_pi (p' := 36) rfl rfl rfl ly_66 rfl rfl rfl rfl ?_
  refine ev_x (i := .aload_n 0) (len := 1) (p' := 37) (s' := [.ref 66]) rfl rfl rfl ?_
  refine ev_gi (p' := 40) (v := 1) rfl rfl rfl ly_66 rfl rfl rfl ?_
  refine ev_b0 (t := 47) (p' := 43) rfl rfl rfl (by decide) ?_
  refine ev_x (i := .iconst 0) (len := 1) (p' := 44) (s' := [.int 0]) rfl rfl rfl ?_
  refine ev_x (i := .goto 14) (len := 3) (p' := 58) (s' := [.int 0]) rfl rfl rfl ?_
  exact ev_iret rfl rfl rfl rfl
set_option maxHeartbeats 4000000 in
set_option maxRecDepth 100000 in
/-- GameTextModel.thrown()I -/
theorem lz_246 {d : Nat} {σ : st_S} (hi_66_0 : σ.1 66 0 = 1) : vz_ev P0 (d + 1) 130 0 (lv_args 0 [.ref 66]) [] (hp σ) (.inl (some (.int 1)), hp (σ)) := by
  refine ev_x (i := .aload_n 0) (len := 1) (p' := 1) (s' := [.ref 66]) rfl rfl rfl ?_
  refine ev_gi (p' := 4) (v := 1) rfl rfl rfl ly_66 rfl rfl hi_66_0 ?_
  exact ev_iret rfl rfl rfl rfl
set_option maxHeartbeats 4000000 in
set_option maxRecDepth 100000 in
/-- GameTextLaw.law([I)Z -/
theorem lw_8n_a0 {d : Nat} {σ : st_S} {q : vz_O × vz_H} {n L : Nat} {xs : Nat → Int32} (hs : gF σ 0 = .inl (0, L, .inl xs)) (hn : n + 6 ≤ L) (hL : L ≤ 3072) (c_1 : (xs (n + 1)) < 0) (k : vz_ev P0 (d + 10) 0 615 [(6, .int 0), (5, .int 1), (4, .int (nI n)), (3, .ref 187), (2, .ref 66), (1, .ref 1), (0, .ref 0)] [] (hp (st_i (st_n (σ) 1 6) 66 0 1)) q) : vz_ev P0 (d + 10) 0 362 [(4, .int (nI n)), (3, .ref 187), (2, .ref 66), (1, .ref 1), (0, .ref 0)] [] (hp σ) q := by
  refine ev_x (i := .aload_n 1) (len := 1) (p' := 363) (s' := [.ref 1]) rfl rfl rfl ?_
  refine ev_x (i := .aload_n 0) (len := 1) (p' := 364) (s' := [.ref 0, .ref 1]) rfl rfl rfl ?_
  refine ev_x (i := .iload 4) (len := 2) (p' := 366) (s' := [.int (nI n), .ref 0, .ref 1]) rfl rfl rfl ?_
  refine ev_x (i := .iconst 1) (len := 1) (p' := 367) (s' := [.int 1, .int (nI n), .ref 0, .ref 1]) rfl rfl rfl ?_
  refine ev_x (i := .iadd) (len := 1) (p' := 368) (s' := [.int ((nI n) + 1), .ref 0, .ref 1]) rfl rfl rfl ?_
  refine ev_st (st' := [.int (nI (n + 1)), .ref 0, .ref 1]) (congrArg (fun z => Value.int z :: [.ref 0, .ref 1]) (nI_add n 1)) ?_
  refine ev_sg (p' := 369) rfl rfl hs (vp_in_nI (by omega) (by omega)) rfl ?_
  refine ev_st (st' := [.int (xs (n + 1)), .ref 1]) (congrArg (fun z => Value.int (xs z) :: [.ref 1]) (nI_clamp (n := n + 1) (by omega))) ?_
  refine ev_x (i := .aload_n 0) (len := 1) (p' := 370) (s' := [.ref 0, .int (xs (n + 1)), .ref 1]) rfl rfl rfl ?_
  refine ev_x (i := .iload 4) (len := 2) (p' := 372) (s' := [.int (nI n), .ref 0, .int (xs (n + 1)), .ref 1]) rfl rfl rfl ?_
  refine ev_x (i := .iconst 2) (len := 1) (p' := 373) (s' := [.int 2, .int (nI n), .ref 0, .int (xs (n + 1)), .ref 1]) rfl rfl rfl ?_
  refine ev_x (i := .iadd) (len := 1) (p' := 374) (s' := [.int ((nI n) + 2), .ref 0, .int (xs (n + 1)), .ref 1]) rfl rfl rfl ?_
  refine ev_st (st' := [.int (nI (n + 2)), .ref 0, .int (xs (n + 1)), .ref 1]) (congrArg (fun z => Value.int z :: [.ref 0, .int (xs (n + 1)), .ref 1]) (nI_add n 2)) ?_
  refine ev_sg (p' := 375) rfl rfl hs (vp_in_nI (by omega) (by omega)) rfl ?_
  refine ev_st (st' := [.int (xs (n + 2)), .int (xs (n + 1)), .ref 1]) (congrArg (fun z => Value.int (xs z) :: [.int (xs (n + 1)), .ref 1]) (nI_clamp (n := n + 2) (by omega))) ?_
  refine ev_x (i := .aload_n 3) (len := 1) (p' := 376) (s' := [.ref 187, .int (xs (n + 2)), .int (xs (n + 1)), .ref 1]) rfl rfl rfl ?_
  refine ev_callS (d := d + 9) (As := [.ref 1, .int (xs (n + 1)), .int (xs (n + 2)), .ref 187]) rfl rfl rfl (by decide) rfl rfl rfl rfl rfl (lz_244 (d := d + 0) (c_1 := c_1)) ?_
  refine ev_st (st' := [.int 1]) rfl ?_
  refine ev_pc (pc' := 379) rfl ?_
  refine ev_x (i := .istore 5) (len := 2) (p' := 381) (s' := []) (l' := [(5, .int 1), (4, .int (nI n)), (3, .ref 187), (2, .ref 66), (1, .ref 1), (0, .ref 0)]) rfl rfl rfl ?_
  refine ev_x (i := .aload_n 2) (len := 1) (p' := 382) (s' := [.ref 66]) rfl rfl rfl ?_
  refine ev_x (i := .aload_n 0) (len := 1) (p' := 383) (s' := [.ref 0, .ref 66]) rfl rfl rfl ?_
  refine ev_x (i := .iload 4) (len := 2) (p' := 385) (s' := [.int (nI n), .ref 0, .ref 66]) rfl rfl rfl ?_
  refine ev_x (i := .iconst 1) (len := 1) (p' := 386) (s' := [.int 1, .int (nI n), .ref 0, .ref 66]) rfl rfl rfl ?_
  refine ev_x (i := .iadd) (len := 1) (p' := 387) (s' := [.int ((nI n) + 1), .ref 0, .ref 66]) rfl rfl rfl ?_
  refine ev_st (st' := [.int (nI (n + 1)), .ref 0, .ref 66]) (congrArg (fun z => Value.int z :: [.ref 0, .ref 66]) (nI_add n 1)) ?_
  refine ev_sg (p' := 388) rfl rfl hs (vp_in_nI (by omega) (by omega)) rfl ?_
  refine ev_st (st' := [.int (xs (n + 1)), .ref 66]) (congrArg (fun z => Value.int (xs z) :: [.ref 66]) (nI_clamp (n := n + 1) (by omega))) ?_
  refine ev_x (i := .aload_n 0) (len := 1) (p' := 389) (s' := [.ref 0, .int (xs (n + 1)), .ref 66]) rfl rfl rfl ?_
  refine ev_x (i := .iload 4) (len := 2) (p' := 391) (s' := [.int (nI n), .ref 0, .int (xs (n + 1)), .ref 66]) rfl rfl rfl ?_
  refine ev_x (i := .iconst 2) (len := 1) (p' := 392) (s' := [.int 2, .int (nI n), .ref 0, .int (xs (n + 1)), .ref 66]) rfl rfl rfl ?_
  refine ev_x (i := .iadd) (len := 1) (p' := 393) (s' := [.int ((nI n) + 2), .ref 0, .int (xs (n + 1)), .ref 66]) rfl rfl rfl ?_
  refine ev_st (st' := [.int (nI (n + 2)), .ref 0, .int (xs (n + 1)), .ref 66]) (congrArg (fun z => Value.int z :: [.ref 0, .int (xs (n + 1)), .ref 66]) (nI_add n 2)) ?_
  refine ev_sg (p' := 394) rfl rfl hs (vp_in_nI (by omega) (by omega)) rfl ?_
  refine ev_st (st' := [.int (xs (n + 2)), .int (xs (n + 1)), .ref 66]) (congrArg (fun z => Value.int (xs z) :: [.int (xs (n + 1)), .ref 66]) (nI_clamp (n := n + 2) (by omega))) ?_
  refine ev_cv (d := d + 9) (As := [.int (xs (n + 1)), .int (xs (n + 2))]) (a := 66) (p' := 397) rfl rfl rfl ly_66 rfl rfl rfl rfl rfl rfl rfl (lz_245 (d := d + 8) (c_1 := c_1)) ?_
  refine ev_st (st' := [.int 0]) rfl ?_
  refine ev_x (i := .istore 6) (len := 2) (p' := 399) (s' := []) (l' := [(6, .int 0), (5, .int 1), (4, .int (nI n)), (3, .ref 187), (2, .ref 66), (1, .ref 1), (0, .ref 0)]) rfl rfl rfl ?_
  refine ev_x (i := .aload_n 2) (len := 1) (p' := 400) (s' := [.ref 66]) rfl rfl rfl ?_
  refine ev_cv (d := d + 9) (As := []) (a := 66) (p' := 403) rfl rfl rfl ly_66 rfl rfl rfl rfl rfl rfl rfl (lz_246 (d := d + 8) (hi_66_0 := rfl)) ?_
  refine ev_st (st' := [.int 1]) rfl ?_
  refine ev_x (i := .iload 5) (len := 2) (p' := 405) (s' := [.int 1, .int 1]) rfl rfl rfl ?_
  refine ev_b2 (t := 410) (p' := 410) rfl rfl rfl (by decide) ?_
  refine ev_x (i := .iload 5) (len := 2) (p' := 412) (s' := [.int 1]) rfl rfl rfl ?_
  refine ev_b0 (t := 427) (p' := 427) rfl rfl rfl (by decide) ?_
  refine ev_x (i := .goto 188) (len := 3) (p' := 615) (s' := []) rfl rfl rfl ?_
  exact k
set_option maxHeartbeats 4000000 in
set_option maxRecDepth 100000 in
/-- GameText.variable(II)I -/
theorem lz_249 {d : Nat} {σ : st_S} {y_1 y_2 : Int32} (c_1 : ¬ (y_1 < 0)) (c_2 : (σ.1 52 10) ≤ y_1) : vz_ev P0 (d + 8) 126 0 (lv_args 0 [.ref 1, .int y_1, .int y_2]) [] (hp σ) (.inr "java/lang/IndexOutOfBoundsException", hp (st_n (σ) 1 6)) := by
  refine ev_x (i := .aload_n 0) (len := 1) (p' := 1) (s' := [.ref 1]) rfl rfl rfl ?_
  refine ev_gc (p' := 4) (v := 52) rfl rfl rfl ly_1 rfl rfl ?_
  refine ev_x (i := .iload_n 1) (len := 1) (p' := 5) (s' := [.int y_1, .ref 52]) rfl rfl rfl ?_
  refine ev_cv (d := d + 7) (As := [.int y_1]) (a := 52) (p' := 8) rfl rfl rfl ly_52 rfl rfl rfl rfl rfl rfl rfl (lz_48 (d := d + 6) (c_1 := c_1) (c_2 := c_2)) ?_
  refine ev_st (st' := [.int 0]) rfl ?_
  refine ev_b0 (t := 26) (p' := 26) rfl rfl rfl (by decide) ?_
  exact ev_thr rfl rfl rfl
set_option maxHeartbeats 4000000 in
set_option maxRecDepth 100000 in
/-- GameTextLaw.variable(LGameText;II[J)I -/
theorem lz_250 {d : Nat} {σ : st_S} {y_1 y_2 : Int32} (c_1 : ¬ (y_1 < 0)) (c_2 : (σ.1 52 10) ≤ y_1) : vz_ev P0 (d + 9) 125 0 (lv_args 0 [.ref 1, .int y_1, .int y_2, .ref 187]) [] (hp σ) (.inl (some (.int 1)), hp (st_n (σ) 1 6)) := by
  refine ev_x (i := .aload_n 3) (len := 1) (p' := 1) (s' := [.ref 187]) rfl rfl rfl ?_
  refine ev_x (i := .iconst 0) (len := 1) (p' := 2) (s' := [.int 0, .ref 187]) rfl rfl rfl ?_
  refine ev_x (i := .aload_n 0) (len := 1) (p' := 3) (s' := [.ref 1, .int 0, .ref 187]) rfl rfl rfl ?_
  refine ev_x (i := .iload_n 1) (len := 1) (p' := 4) (s' := [.int y_1, .ref 1, .int 0, .ref 187]) rfl rfl rfl ?_
  refine ev_x (i := .iload_n 2) (len := 1) (p' := 5) (s' := [.int y_2, .int y_1, .ref 1, .int 0, .ref 187]) rfl rfl rfl ?_
  refine ev_caught (d := d + 8) (As := [.int y_1, .int y_2]) (a := 1) (t := ("java/lang/IndexOutOfBoundsException", 15, 4)) (E := "java/lang/IndexOutOfBoundsException") rfl rfl rfl rfl (hp_obj _ ly_1) rfl rfl rfl rfl rfl rfl (beq_self_eq_true _) (lz_249 (d := d + 0) (c_1 := c_1) (c_2 := c_2)) ?_
  refine ev_lv (lv' := [(0, .ref 1), (1, .int y_1), (2, .int y_2), (3, .ref 187)]) rfl ?_
  refine ev_pc (pc' := 15) rfl ?_
  refine ev_x (i := .iconst 1) (len := 1) (p' := 16) (s' := [.int 1]) rfl rfl rfl ?_
  exact ev_iret rfl rfl rfl rfl
set_option maxHeartbeats 4000000 in
set_option maxRecDepth 100000 in
/-- GameTextModel.variable(II)I -/
theorem lz_251 {d : Nat} {σ : st_S} {y_1 y_2 : Int32} (c_1 : ¬ (y_1 < 0)) (c_2 : (σ.1 66 29) ≤ y_1) : vz_ev P0 (d + 1) 222 0 (lv_args 0 [.ref 66, .int y_1, .int y_2]) [] (hp σ) (.inl (some (.int 0)), hp (st_i (σ) 66 0 1)) := by
  refine ev_x (i := .aload_n 0) (len := 1) (p' := 1) (s' := [.ref 66]) rfl rfl rfl ?_
  refine ev_x (i := .iload_n 1) (len := 1) (p' := 2) (s' := [.int y_1, .ref 66]) rfl rfl rfl ?_
  refine ev_b0 (t := 28) (p' := 5) rfl rfl rfl (if_neg c_1) ?_
  refine ev_x (i := .iload_n 1) (len := 1) (p' := 6) (s' := [.int y_1, .ref 66]) rfl rfl rfl ?_
  refine ev_x (i := .aload_n 0) (len := 1) (p' := 7) (s' := [.ref 66, .int y_1, .ref 66]) rfl rfl rfl ?_
  refine ev_gi (p' := 10) (v := (σ.1 66 29)) rfl rfl rfl ly_66 rfl rfl rfl ?_
  refine ev_b2 (t := 28) (p' := 28) rfl rfl rfl (if_pos c_2) ?_
  refine ev_x (i := .iconst 1) (len := 1) (p' := 29) (s' := [.int 1, .ref 66]) rfl rfl rfl ?_
  refine ev_x (i := .goto 4) (len := 3) (p' := 33) (s' := [.int 1, .ref 66]) rfl rfl rfl ?_
  refine ev_pi (p' := 36) rfl rfl rfl ly_66 rfl rfl rfl rfl ?_
  refine ev_x (i := .aload_n 0) (len := 1) (p' := 37) (s' := [.ref 66]) rfl rfl rfl ?_
  refine ev_gi (p' := 40) (v := 1) rfl rfl rfl ly_66 rfl rfl rfl ?_
  refine ev_b0 (t := 47) (p' := 43) rfl rfl rfl (by decide) ?_
  refine ev_x (i := .iconst 0) (len := 1) (p' := 44) (s' := [.int 0]) rfl rfl rfl ?_
  refine ev_x (i := .goto 14) (len := 3) (p' := 58) (s' := [.int 0]) rfl rfl rfl ?_
  exact ev_iret rfl rfl rfl rfl
set_option maxHeartbeats 4000000 in
set_option maxRecDepth 100000 in
/-- GameTextLaw.law([I)Z -/
theorem lw_8g_a0 {d : Nat} {σ : st_S} {q : vz_O × vz_H} {n L : Nat} {xs : Nat → Int32} (hs : gF σ 0 = .inl (0, L, .inl xs)) (hn : n + 6 ≤ L) (hL : L ≤ 3072) (c_1 : ¬ ((xs (n + 1)) < 0)) (c_2 : (σ.1 52 10) ≤ (xs (n + 1))) (c_3 : (σ.1 66 29) ≤ (xs (n + 1))) (k : vz_ev P0 (d + 10) 0 615 [(6, .int 0), (5, .int 1), (4, .int (nI n)), (3, .ref 187), (2, .ref 66), (1, .ref 1), (0, .ref 0)] [] (hp (st_i (st_n (σ) 1 6) 66 0 1)) q) : vz_ev P0 (d + 10) 0 362 [(4, .int (nI n)), (3, .ref 187), (2, .ref 66), (1, .ref 1), (0, .ref 0)] [] (hp σ) q := by
  refine ev_x (i := .aload_n 1) (len := 1) (p' := 363) (s' := [.ref 1]) rfl rfl rfl ?_
  refine ev_x (i := .aload_n 0) (len := 1) (p' := 364) (s' := [.ref 0, .ref 1]) rfl rfl rfl ?_
  refine ev_x (i := .iload 4) (len := 2) (p' := 366) (s' := [.int (nI n), .ref 0, .ref 1]) rfl rfl rfl ?_
  refine ev_x (i := .iconst 1) (len := 1) (p' := 367) (s' := [.int 1, .int (nI n), .ref 0, .ref 1]) rfl rfl rfl ?_
  refine ev_x (i := .iadd) (len := 1) (p' := 368) (s' := [.int ((nI n) + 1), .ref 0, .ref 1]) rfl rfl rfl ?_
  refine ev_st (st' := [.int (nI (n + 1)), .ref 0, .ref 1]) (congrArg (fun z => Value.int z :: [.ref 0, .ref 1]) (nI_add n 1)) ?_
  refine ev_sg (p' := 369) rfl rfl hs (vp_in_nI (by omega) (by omega)) rfl ?_
  refine ev_st (st' := [.int (xs (n + 1)), .ref 1]) (congrArg (fun z => Value.int (xs z) :: [.ref 1]) (nI_clamp (n := n + 1) (by omega))) ?_
  refine ev_x (i := .aload_n 0) (len := 1) (p' := 370) (s' := [.ref 0, .int (xs (n + 1)), .ref 1]) rfl rfl rfl ?_
  refine ev_x (i := .iload 4) (len := 2) (p' := 372) (s' := [.int (nI n), .ref 0, .int (xs (n + 1)), .ref 1]) rfl rfl rfl ?_
  refine ev_x (i := .iconst 2) (len := 1) (p' := 373) (s' := [.int 2, .int (nI n), .ref 0, .int (xs (n + 1)), .ref 1]) rfl rfl rfl ?_
  refine ev_x (i := .iadd) (len := 1) (p' := 374) (s' := [.int ((nI n) + 2), .ref 0, .int (xs (n + 1)), .ref 1]) rfl rfl rfl ?_
  refine ev_st (st' := [.int (nI (n + 2)), .ref 0, .int (xs (n + 1)), .ref 1]) (congrArg (fun z => Value.int z :: [.ref 0, .int (xs (n + 1)), .ref 1]) (nI_add n 2)) ?_
  refine ev_sg (p' := 375) rfl rfl hs (vp_in_nI (by omega) (by omega)) rfl ?_
  refine ev_st (st' := [.int (xs (n + 2)), .int (xs (n + 1)), .ref 1]) (congrArg (fun z => Value.int (xs z) :: [.int (xs (n + 1)), .ref 1]) (nI_clamp (n := n + 2) (by omega))) ?_
  refine ev_x (i := .aload_n 3) (len := 1) (p' := 376) (s' := [.ref 187, .int (xs (n + 2)), .int (xs (n + 1)), .ref 1]) rfl rfl rfl ?_
  refine ev_callS (d := d + 9) (As := [.ref 1, .int (xs (n + 1)), .int (xs (n + 2)), .ref 187]) rfl rfl rfl (by decide) rfl rfl rfl rfl rfl (lz_250 (d := d + 0) (c_1 := c_1) (c_2 := c_2)) ?_
  refine ev_st (st' := [.int 1]) rfl ?_
  refine ev_pc (pc' := 379) rfl ?_
  refine ev_x (i := .istore 5) (len := 2) (p' := 381) (s' := []) (l' := [(5, .int 1), (4, .int (nI n)), (3, .ref 187), (2, .ref 66), (1, .ref 1), (0, .ref 0)]) rfl rfl rfl ?_
  refine ev_x (i := .aload_n 2) (len := 1) (p' := 382) (s' := [.ref 66]) rfl rfl rfl ?_
  refine ev_x (i := .aload_n 0) (len := 1) (p' := 383) (s' := [.ref 0, .ref 66]) rfl rfl rfl ?_
  refine ev_x (i := .iload 4) (len := 2) (p' := 385) (s' := [.int (nI n), .ref 0, .ref 66]) rfl rfl rfl ?_
  refine ev_x (i := .iconst 1) (len := 1) (p' := 386) (s' := [.int 1, .int (nI n), .ref 0, .ref 66]) rfl rfl rfl ?_
  refine ev_x (i := .iadd) (len := 1) (p' := 387) (s' := [.int ((nI n) + 1), .ref 0, .ref 66]) rfl rfl rfl ?_
  refine ev_st (st' := [.int (nI (n + 1)), .ref 0, .ref 66]) (congrArg (fun z => Value.int z :: [.ref 0, .ref 66]) (nI_add n 1)) ?_
  refine ev_sg (p' := 388) rfl rfl hs (vp_in_nI (by omega) (by omega)) rfl ?_
  refine ev_st (st' := [.int (xs (n + 1)), .ref 66]) (congrArg (fun z => Value.int (xs z) :: [.ref 66]) (nI_clamp (n := n + 1) (by omega))) ?_
  refine ev_x (i := .aload_n 0) (len := 1) (p' := 389) (s' := [.ref 0, .int (xs (n + 1)), .ref 66]) rfl rfl rfl ?_
  refine ev_x (i := .iload 4) (len := 2) (p' := 391) (s' := [.int (nI n), .ref 0, .int (xs (n + 1)), .ref 66]) rfl rfl rfl ?_
  refine ev_x (i := .iconst 2) (len := 1) (p' := 392) (s' := [.int 2, .int (nI n), .ref 0, .int (xs (n + 1)), .ref 66]) rfl rfl rfl ?_
  refine ev_x (i := .iadd) (len := 1) (p' := 393) (s' := [.int ((nI n) + 2), .ref 0, .int (xs (n + 1)), .ref 66]) rfl rfl rfl ?_
  refine ev_st (st' := [.int (nI (n + 2)), .ref 0, .int (xs (n + 1)), .ref 66]) (congrArg (fun z => Value.int z :: [.ref 0, .int (xs (n + 1)), .ref 66]) (nI_add n 2)) ?_
  refine ev_sg (p' := 394) rfl rfl hs (vp_in_nI (by omega) (by omega)) rfl ?_
  refine ev_st (st' := [.int (xs (n + 2)), .int (xs (n + 1)), .ref 66]) (congrArg (fun z => Value.int (xs z) :: [.int (xs (n + 1)), .ref 66]) (nI_clamp (n := n + 2) (by omega))) ?_
  refine ev_cv (d := d + 9) (As := [.int (xs (n + 1)), .int (xs (n + 2))]) (a := 66) (p' := 397) rfl rfl rfl ly_66 rfl rfl rfl rfl rfl rfl rfl (lz_251 (d := d + 8) (c_1 := c_1) (c_2 := c_3)) ?_
  refine ev_st (st' := [.int 0]) rfl ?_
  refine ev_x (i := .istore 6) (len := 2) (p' := 399) (s' := []) (l' := [(6, .int 0), (5, .int 1), (4, .int (nI n)), (3, .ref 187), (2, .ref 66), (1, .ref 1), (0, .ref 0)]) rfl rfl rfl ?_
  refine ev_x (i := .aload_n 2) (len := 1) (p' := 400) (s' := [.ref 66]) rfl rfl rfl ?_
  refine ev_cv (d := d + 9) (As := []) (a := 66) (p' := 403) rfl rfl rfl ly_66 rfl rfl rfl rfl rfl rfl rfl (lz_246 (d := d + 8) (hi_66_0 := rfl)) ?_
  refine ev_st (st' := [.int 1]) rfl ?_
  refine ev_x (i := .iload 5) (len := 2) (p' := 405) (s' := [.int 1, .int 1]) rfl rfl rfl ?_
  refine ev_b2 (t := 410) (p' := 410) rfl rfl rfl (by decide) ?_
  refine ev_x (i := .iload 5) (len := 2) (p' := 412) (s' := [.int 1]) rfl rfl rfl ?_
  refine ev_b0 (t := 427) (p' := 427) rfl rfl rfl (by decide) ?_
  refine ev_x (i := .goto 188) (len := 3) (p' := 615) (s' := []) rfl rfl rfl ?_
  exact k
set_option maxHeartbeats 4000000 in
set_option maxRecDepth 100000 in
/-- GameText.variable(II)I -/
theorem lz_255 {d : Nat} {σ : st_S} {y_1 y_2 : Int32} (c_1 : ¬ (y_1 < 0)) (c_2 : ¬ ((σ.1 52 10) ≤ y_1)) (c_3 : y_2 < 0) : vz_ev P0 (d + 8) 126 0 (lv_args 0 [.ref 1, .int y_1, .int y_2]) [] (hp σ) (.inr "java/lang/IndexOutOfBoundsException", hp (st_n (σ) 1 6)) := by
  refine ev_x (i := .aload_n 0) (len := 1) (p' := 1) (s' := [.ref 1]) rfl rfl rfl ?_
  refine ev_gc (p' := 4) (v := 52) rfl rfl rfl ly_1 rfl rfl ?_
  refine ev_x (i := .iload_n 1) (len := 1) (p' := 5) (s' := [.int y_1, .ref 52]) rfl rfl rfl ?_
  refine ev_cv (d := d + 7) (As := [.int y_1]) (a := 52) (p' := 8) rfl rfl rfl ly_52 rfl rfl rfl rfl rfl rfl rfl (lz_53 (d := d + 6) (c_1 := c_1) (c_2 := c_2)) ?_
  refine ev_st (st' := [.int 1]) rfl ?_
  refine ev_b0 (t := 26) (p' := 11) rfl rfl rfl (by decide) ?_
  refine ev_x (i := .iload_n 2) (len := 1) (p' := 12) (s' := [.int y_2]) rfl rfl rfl ?_
  refine ev_b0 (t := 26) (p' := 26) rfl rfl rfl (if_pos c_3) ?_
  exact ev_thr rfl rfl rfl
set_option maxHeartbeats 4000000 in
set_option maxRecDepth 100000 in
/-- GameTextLaw.variable(LGameText;II[J)I -/
theorem lz_256 {d : Nat} {σ : st_S} {y_1 y_2 : Int32} (c_1 : ¬ (y_1 < 0)) (c_2 : ¬ ((σ.1 52 10) ≤ y_1)) (c_3 : y_2 < 0) : vz_ev P0 (d + 9) 125 0 (lv_args 0 [.ref 1, .int y_1, .int y_2, .ref 187]) [] (hp σ) (.inl (some (.int 1)), hp (st_n (σ) 1 6)) := by
  refine ev_x (i := .aload_n 3) (len := 1) (p' := 1) (s' := [.ref 187]) rfl rfl rfl ?_
  refine ev_x (i := .iconst 0) (len := 1) (p' := 2) (s' := [.int 0, .ref 187]) rfl rfl rfl ?_
  refine ev_x (i := .aload_n 0) (len := 1) (p' := 3) (s' := [.ref 1, .int 0, .ref 187]) rfl rfl rfl ?_
  refine ev_x (i := .iload_n 1) (len := 1) (p' := 4) (s' := [.int y_1, .ref 1, .int 0, .ref 187]) rfl rfl rfl ?_
  refine ev_x (i := .iload_n 2) (len := 1) (p' := 5) (s' := [.int y_2, .int y_1, .ref 1, .int 0, .ref 187]) rfl rfl rfl ?_
  refine ev_caught (d := d + 8) (As := [.int y_1, .int y_2]) (a := 1) (t := ("java/lang/IndexOutOfBoundsException", 15, 4)) (E := "java/lang/IndexOutOfBoundsException") rfl rfl rfl rfl (hp_obj _ ly_1) rfl rfl rfl rfl rfl rfl (beq_self_eq_true _) (lz_255 (d := d + 0) (c_1 := c_1) (c_2 := c_2) (c_3 := c_3)) ?_
  refine ev_lv (lv' := [(0, .ref 1), (1, .int y_1), (2, .int y_2), (3, .ref 187)]) rfl ?_
  refine ev_pc (pc' := 15) rfl ?_
  refine ev_x (i := .iconst 1) (len := 1) (p' := 16) (s' := [.int 1]) rfl rfl rfl ?_
  exact ev_iret rfl rfl rfl rfl
set_option maxHeartbeats 4000000 in
set_option maxRecDepth 100000 in
/-- GameTextModel.variable(II)I -/
theorem lz_257 {d : Nat} {σ : st_S} {y_1 y_2 : Int32} (c_1 : ¬ (y_1 < 0)) (c_2 : ¬ ((σ.1 66 29) ≤ y_1)) (c_3 : y_2 < 0) : vz_ev P0 (d + 1) 222 0 (lv_args 0 [.ref 66, .int y_1, .int y_2]) [] (hp σ) (.inl (some (.int 0)), hp (st_i (σ) 66 0 1)) := by
  refine ev_x (i := .aload_n 0) (len := 1) (p' := 1) (s' := [.ref 66]) rfl rfl rfl ?_
  refine ev_x (i := .iload_n 1) (len := 1) (p' := 2) (s' := [.int y_1, .ref 66]) rfl rfl rfl ?_
  refine ev_b0 (t := 28) (p' := 5) rfl rfl rfl (if_neg c_1) ?_
  refine ev_x (i := .iload_n 1) (len := 1) (p' := 6) (s' := [.int y_1, .ref 66]) rfl rfl rfl ?_
  refine ev_x (i := .aload_n 0) (len := 1) (p' := 7) (s' := [.ref 66, .int y_1, .ref 66]) rfl rfl rfl ?_
  refine ev_gi (p' := 10) (v := (σ.1 66 29)) rfl rfl rfl ly_66 rfl rfl rfl ?_
  refine ev_b2 (t := 28) (p' := 13) rfl rfl rfl (if_neg c_2) ?_
  refine ev_x (i := .iload_n 2) (len := 1) (p' := 14) (s' := [.int y_2, .ref 66]) rfl rfl rfl ?_
  refine ev_b0 (t := 28) (p' := 28) rfl rfl rfl (if_pos c_3) ?_
  refine ev_x (i := .iconst 1) (len := 1) (p' := 29) (s' := [.int 1, .ref 66]) rfl rfl rfl ?_
  refine ev_x (i := .goto 4) (len := 3) (p' := 33) (s' := [.int 1, .ref 66]) rfl rfl rfl ?_
  refine ev_pi (p' := 36) rfl rfl rfl ly_66 rfl rfl rfl rfl ?_
  refine ev_x (i := .aload_n 0) (len := 1) (p' := 37) (s' := [.ref 66]) rfl rfl rfl ?_
  refine ev_gi (p' := 40) (v := 1) rfl rfl rfl ly_66 rfl rfl rfl ?_
  refine ev_b0 (t := 47) (p' := 43) rfl rfl rfl (by decide) ?_
  refine ev_x (i := .iconst 0) (len := 1) (p' := 44) (s' := [.int 0]) rfl rfl rfl ?_
  refine ev_x (i := .goto 14) (len := 3) (p' := 58) (s' := [.int 0]) rfl rfl rfl ?_
  exact ev_iret rfl rfl rfl rfl
set_option maxHeartbeats 4000000 in
set_option maxRecDepth 100000 in
/-- GameTextLaw.law([I)Z -/
theorem lw_8m_a0 {d : Nat} {σ : st_S} {q : vz_O × vz_H} {n L : Nat} {xs : Nat → Int32} (hs : gF σ 0 = .inl (0, L, .inl xs)) (hn : n + 6 ≤ L) (hL : L ≤ 3072) (c_1 : ¬ ((xs (n + 1)) < 0)) (c_2 : ¬ ((σ.1 52 10) ≤ (xs (n + 1)))) (c_3 : (xs (n + 2)) < 0) (c_4 : ¬ ((σ.1 66 29) ≤ (xs (n + 1)))) (k : vz_ev P0 (d + 10) 0 615 [(6, .int 0), (5, .int 1), (4, .int (nI n)), (3, .ref 187), (2, .ref 66), (1, .ref 1), (0, .ref 0)] [] (hp (st_i (st_n (σ) 1 6) 66 0 1)) q) : vz_ev P0 (d + 10) 0 362 [(4, .int (nI n)), (3, .ref 187), (2, .ref 66), (1, .ref 1), (0, .ref 0)] [] (hp σ) q := by
  refine ev_x (i := .aload_n 1) (len := 1) (p' := 363) (s' := [.ref 1]) rfl rfl rfl ?_
  refine ev_x (i := .aload_n 0) (len := 1) (p' := 364) (s' := [.ref 0, .ref 1]) rfl rfl rfl ?_
  refine ev_x (i := .iload 4) (len := 2) (p' := 366) (s' := [.int (nI n), .ref 0, .ref 1]) rfl rfl rfl ?_
  refine ev_x (i := .iconst 1) (len := 1) (p' := 367) (s' := [.int 1, .int (nI n), .ref 0, .ref 1]) rfl rfl rfl ?_
  refine ev_x (i := .iadd) (len := 1) (p' := 368) (s' := [.int ((nI n) + 1), .ref 0, .ref 1]) rfl rfl rfl ?_
  refine ev_st (st' := [.int (nI (n + 1)), .ref 0, .ref 1]) (congrArg (fun z => Value.int z :: [.ref 0, .ref 1]) (nI_add n 1)) ?_
  refine ev_sg (p' := 369) rfl rfl hs (vp_in_nI (by omega) (by omega)) rfl ?_
  refine ev_st (st' := [.int (xs (n + 1)), .ref 1]) (congrArg (fun z => Value.int (xs z) :: [.ref 1]) (nI_clamp (n := n + 1) (by omega))) ?_
  refine ev_x (i := .aload_n 0) (len := 1) (p' := 370) (s' := [.ref 0, .int (xs (n + 1)), .ref 1]) rfl rfl rfl ?_
  refine ev_x (i := .iload 4) (len := 2) (p' := 372) (s' := [.int (nI n), .ref 0, .int (xs (n + 1)), .ref 1]) rfl rfl rfl ?_
  refine ev_x (i := .iconst 2) (len := 1) (p' := 373) (s' := [.int 2, .int (nI n), .ref 0, .int (xs (n + 1)), .ref 1]) rfl rfl rfl ?_
  refine ev_x (i := .iadd) (len := 1) (p' := 374) (s' := [.int ((nI n) + 2), .ref 0, .int (xs (n + 1)), .ref 1]) rfl rfl rfl ?_
  refine ev_st (st' := [.int (nI (n + 2)), .ref 0, .int (xs (n + 1)), .ref 1]) (congrArg (fun z => Value.int z :: [.ref 0, .int (xs (n + 1)), .ref 1]) (nI_add n 2)) ?_
  refine ev_sg (p' := 375) rfl rfl hs (vp_in_nI (by omega) (by omega)) rfl ?_
  refine ev_st (st' := [.int (xs (n + 2)), .int (xs (n + 1)), .ref 1]) (congrArg (fun z => Value.int (xs z) :: [.int (xs (n + 1)), .ref 1]) (nI_clamp (n := n + 2) (by omega))) ?_
  refine ev_x (i := .aload_n 3) (len := 1) (p' := 376) (s' := [.ref 187, .int (xs (n + 2)), .int (xs (n + 1)), .ref 1]) rfl rfl rfl ?_
  refine ev_callS (d := d + 9) (As := [.ref 1, .int (xs (n + 1)), .int (xs (n + 2)), .ref 187]) rfl rfl rfl (by decide) rfl rfl rfl rfl rfl (lz_256 (d := d + 0) (c_1 := c_1) (c_2 := c_2) (c_3 := c_3)) ?_
  refine ev_st (st' := [.int 1]) rfl ?_
  refine ev_pc (pc' := 379) rfl ?_
  refine ev_x (i := .istore 5) (len := 2) (p' := 381) (s' := []) (l' := [(5, .int 1), (4, .int (nI n)), (3, .ref 187), (2, .ref 66), (1, .ref 1), (0, .ref 0)]) rfl rfl rfl ?_
  refine ev_x (i := .aload_n 2) (len := 1) (p' := 382) (s' := [.ref 66]) rfl rfl rfl ?_
  refine ev_x (i := .aload_n 0) (len := 1) (p' := 383) (s' := [.ref 0, .ref 66]) rfl rfl rfl ?_
  refine ev_x (i := .iload 4) (len := 2) (p' := 385) (s' := [.int (nI n), .ref 0, .ref 66]) rfl rfl rfl ?_
  refine ev_x (i := .iconst 1) (len := 1) (p' := 386) (s' := [.int 1, .int (nI n), .ref 0, .ref 66]) rfl rfl rfl ?_
  refine ev_x (i := .iadd) (len := 1) (p' := 387) (s' := [.int ((nI n) + 1), .ref 0, .ref 66]) rfl rfl rfl ?_
  refine ev_st (st' := [.int (nI (n + 1)), .ref 0, .ref 66]) (congrArg (fun z => Value.int z :: [.ref 0, .ref 66]) (nI_add n 1)) ?_
  refine ev_sg (p' := 388) rfl rfl hs (vp_in_nI (by omega) (by omega)) rfl ?_
  refine ev_st (st' := [.int (xs (n + 1)), .ref 66]) (congrArg (fun z => Value.int (xs z) :: [.ref 66]) (nI_clamp (n := n + 1) (by omega))) ?_
  refine ev_x (i := .aload_n 0) (len := 1) (p' := 389) (s' := [.ref 0, .int (xs (n + 1)), .ref 66]) rfl rfl rfl ?_
  refine ev_x (i := .iload 4) (len := 2) (p' := 391) (s' := [.int (nI n), .ref 0, .int (xs (n + 1)), .ref 66]) rfl rfl rfl ?_
  refine ev_x (i := .iconst 2) (len := 1) (p' := 392) (s' := [.int 2, .int (nI n), .ref 0, .int (xs (n + 1)), .ref 66]) rfl rfl rfl ?_
  refine ev_x (i := .iadd) (len := 1) (p' := 393) (s' := [.int ((nI n) + 2), .ref 0, .int (xs (n + 1)), .ref 66]) rfl rfl rfl ?_
  refine ev_st (st' := [.int (nI (n + 2)), .ref 0, .int (xs (n + 1)), .ref 66]) (congrArg (fun z => Value.int z :: [.ref 0, .int (xs (n + 1)), .ref 66]) (nI_add n 2)) ?_
  refine ev_sg (p' := 394) rfl rfl hs (vp_in_nI (by omega) (by omega)) rfl ?_
  refine ev_st (st' := [.int (xs (n + 2)), .int (xs (n + 1)), .ref 66]) (congrArg (fun z => Value.int (xs z) :: [.int (xs (n + 1)), .ref 66]) (nI_clamp (n := n + 2) (by omega))) ?_
  refine ev_cv (d := d + 9) (As := [.int (xs (n + 1)), .int (xs (n + 2))]) (a := 66) (p' := 397) rfl rfl rfl ly_66 rfl rfl rfl rfl rfl rfl rfl (lz_257 (d := d + 8) (c_1 := c_1) (c_2 := c_4) (c_3 := c_3)) ?_
  refine ev_st (st' := [.int 0]) rfl ?_
  refine ev_x (i := .istore 6) (len := 2) (p' := 399) (s' := []) (l' := [(6, .int 0), (5, .int 1), (4, .int (nI n)), (3, .ref 187), (2, .ref 66), (1, .ref 1), (0, .ref 0)]) rfl rfl rfl ?_
  refine ev_x (i := .aload_n 2) (len := 1) (p' := 400) (s' := [.ref 66]) rfl rfl rfl ?_
  refine ev_cv (d := d + 9) (As := []) (a := 66) (p' := 403) rfl rfl rfl ly_66 rfl rfl rfl rfl rfl rfl rfl (lz_246 (d := d + 8) (hi_66_0 := rfl)) ?_
  refine ev_st (st' := [.int 1]) rfl ?_
  refine ev_x (i := .iload 5) (len := 2) (p' := 405) (s' := [.int 1, .int 1]) rfl rfl rfl ?_
  refine ev_b2 (t := 410) (p' := 410) rfl rfl rfl (by decide) ?_
  refine ev_x (i := .iload 5) (len := 2) (p' := 412) (s' := [.int 1]) rfl rfl rfl ?_
  refine ev_b0 (t := 427) (p' := 427) rfl rfl rfl (by decide) ?_
  refine ev_x (i := .goto 188) (len := 3) (p' := 615) (s' := []) rfl rfl rfl ?_
  exact k
set_option maxHeartbeats 4000000 in
set_option maxRecDepth 100000 in
/-- GameText.variable(II)I -/
theorem lz_261 {d : Nat} {σ : st_S} {y_1 y_2 : Int32} (c_1 : ¬ (y_1 < 0)) (c_2 : ¬ ((σ.1 52 10) ≤ y_1)) (c_3 : ¬ (y_2 < 0)) (c_4 : ¬ (y_2 < (σ.1 52 9))) : vz_ev P0 (d + 8) 126 0 (lv_args 0 [.ref 1, .int y_1, .int y_2]) [] (hp σ) (.inr "java/lang/IndexOutOfBoundsException", hp (st_n (σ) 1 6)) := by
  refine ev_x (i := .aload_n 0) (len := 1) (p' := 1) (s' := [.ref 1]) rfl rfl rfl ?_
  refine ev_gc (p' := 4) (v := 52) rfl rfl rfl ly_1 rfl rfl ?_
  refine ev_x (i := .iload_n 1) (len := 1) (p' := 5) (s' := [.int y_1, .ref 52]) rfl rfl rfl ?_
  refine ev_cv (d := d + 7) (As := [.int y_1]) (a := 52) (p' := 8) rfl rfl rfl ly_52 rfl rfl rfl rfl rfl rfl rfl (lz_53 (d := d + 6) (c_1 := c_1) (c_2 := c_2)) ?_
  refine ev_st (st' := [.int 1]) rfl ?_
  refine ev_b0 (t := 26) (p' := 11) rfl rfl rfl (by decide) ?_
  refine ev_x (i := .iload_n 2) (len := 1) (p' := 12) (s' := [.int y_2]) rfl rfl rfl ?_
  refine ev_b0 (t := 26) (p' := 15) rfl rfl rfl (if_neg c_3) ?_
  refine ev_x (i := .iload_n 2) (len := 1) (p' := 16) (s' := [.int y_2]) rfl rfl rfl ?_
  refine ev_x (i := .aload_n 0) (len := 1) (p' := 17) (s' := [.ref 1, .int y_2]) rfl rfl rfl ?_
  refine ev_gc (p' := 20) (v := 52) rfl rfl rfl ly_1 rfl rfl ?_
  refine ev_gi (p' := 23) (v := (σ.1 52 9)) rfl rfl rfl ly_52 rfl rfl rfl ?_
  refine ev_b2 (t := 36) (p' := 26) rfl rfl rfl (if_neg c_4) ?_
  exact ev_thr rfl rfl rfl
set_option maxHeartbeats 4000000 in
set_option maxRecDepth 100000 in
/-- GameTextLaw.variable(LGameText;II[J)I -/
theorem lz_262 {d : Nat} {σ : st_S} {y_1 y_2 : Int32} (c_1 : ¬ (y_1 < 0)) (c_2 : ¬ ((σ.1 52 10) ≤ y_1)) (c_3 : ¬ (y_2 < 0)) (c_4 : ¬ (y_2 < (σ.1 52 9))) : vz_ev P0 (d + 9) 125 0 (lv_args 0 [.ref 1, .int y_1, .int y_2, .ref 187]) [] (hp σ) (.inl (some (.int 1)), hp (st_n (σ) 1 6)) := by
  refine ev_x (i := .aload_n 3) (len := 1) (p' := 1) (s' := [.ref 187]) rfl rfl rfl ?_
  refine ev_x (i := .iconst 0) (len := 1) (p' := 2) (s' := [.int 0, .ref 187]) rfl rfl rfl ?_
  refine ev_x (i := .aload_n 0) (len := 1) (p' := 3) (s' := [.ref 1, .int 0, .ref 187]) rfl rfl rfl ?_
  refine ev_x (i := .iload_n 1) (len := 1) (p' := 4) (s' := [.int y_1, .ref 1, .int 0, .ref 187]) rfl rfl rfl ?_
  refine ev_x (i := .iload_n 2) (len := 1) (p' := 5) (s' := [.int y_2, .int y_1, .ref 1, .int 0, .ref 187]) rfl rfl rfl ?_
  refine ev_caught (d := d + 8) (As := [.int y_1, .int y_2]) (a := 1) (t := ("java/lang/IndexOutOfBoundsException", 15, 4)) (E := "java/lang/IndexOutOfBoundsException") rfl rfl rfl rfl (hp_obj _ ly_1) rfl rfl rfl rfl rfl rfl (beq_self_eq_true _) (lz_261 (d := d + 0) (c_1 := c_1) (c_2 := c_2) (c_3 := c_3) (c_4 := c_4)) ?_
  refine ev_lv (lv' := [(0, .ref 1), (1, .int y_1), (2, .int y_2), (3, .ref 187)]) rfl ?_
  refine ev_pc (pc' := 15) rfl ?_
  refine ev_x (i := .iconst 1) (len := 1) (p' := 16) (s' := [.int 1]) rfl rfl rfl ?_
  exact ev_iret rfl rfl rfl rfl
set_option maxHeartbeats 4000000 in
set_option maxRecDepth 100000 in
/-- GameTextModel.variable(II)I -/
theorem lz_263 {d : Nat} {σ : st_S} {y_1 y_2 : Int32} (hr_66_9 : σ.2.2.1 66 9 = 79) (c_1 : ¬ (y_1 < 0)) (c_2 : ¬ ((σ.1 66 29) ≤ y_1)) (c_3 : ¬ (y_2 < 0)) (c_4 : ¬ (y_2 < (σ.1 79 12))) : vz_ev P0 (d + 1) 222 0 (lv_args 0 [.ref 66, .int y_1, .int y_2]) [] (hp σ) (.inl (some (.int 0)), hp (st_i (σ) 66 0 1)) := by
  refine ev_x (i := .aload_n 0) (len := 1) (p' := 1) (s' := [.ref 66]) rfl rfl rfl ?_
  refine ev_x (i := .iload_n 1) (len := 1) (p' := 2) (s' := [.int y_1, .ref 66]) rfl rfl rfl ?_
  refine ev_b0 (t := 28) (p' := 5) rfl rfl rfl (if_neg c_1) ?_
  refine ev_x (i := .iload_n 1) (len := 1) (p' := 6) (s' := [.int y_1, .ref 66]) rfl rfl rfl ?_
  refine ev_x (i := .aload_n 0) (len := 1) (p' := 7) (s' := [.ref 66, .int y_1, .ref 66]) rfl rfl rfl ?_
  refine ev_gi (p' := 10) (v := (σ.1 66 29)) rfl rfl rfl ly_66 rfl rfl rfl ?_
  refine ev_b2 (t := 28) (p' := 13) rfl rfl rfl (if_neg c_2) ?_
  refine ev_x (i := .iload_n 2) (len := 1) (p' := 14) (s' := [.int y_2, .ref 66]) rfl rfl rfl ?_
  refine ev_b0 (t := 28) (p' := 17) rfl rfl rfl (if_neg c_3) ?_
  refine ev_x (i := .iload_n 2) (len := 1) (p' := 18) (s' := [.int y_2, .ref 66]) rfl rfl rfl ?_
  refine ev_x (i := .aload_n 0) (len := 1) (p' := 19) (s' := [.ref 66, .int y_2, .ref 66]) rfl rfl rfl ?_
  refine ev_gr (p' := 22) (v := 79) rfl rfl rfl ly_66 rfl rfl hr_66_9 ?_
  refine ev_gi (p' := 25) (v := (σ.1 79 12)) rfl rfl rfl ly_79 rfl rfl rfl ?_
  refine ev_b2 (t := 32) (p' := 28) rfl rfl rfl (if_neg c_4) ?_
  refine ev_x (i := .iconst 1) (len := 1) (p' := 29) (s' := [.int 1, .ref 66]) rfl rfl rfl ?_
  refine ev_x (i := .goto 4) (len := 3) (p' := 33) (s' := [.int 1, .ref 66]) rfl rfl rfl ?_
  refine ev_pi (p' := 36) rfl rfl rfl ly_66 rfl rfl rfl rfl ?_
  refine ev_x (i := .aload_n 0) (len := 1) (p' := 37) (s' := [.ref 66]) rfl rfl rfl ?_
  refine ev_gi (p' := 40) (v := 1) rfl rfl rfl ly_66 rfl rfl rfl ?_
  refine ev_b0 (t := 47) (p' := 43) rfl rfl rfl (by decide) ?_
  refine ev_x (i := .iconst 0) (len := 1) (p' := 44) (s' := [.int 0]) rfl rfl rfl ?_
  refine ev_x (i := .goto 14) (len := 3) (p' := 58) (s' := [.int 0]) rfl rfl rfl ?_
  exact ev_iret rfl rfl rfl rfl
set_option maxHeartbeats 4000000 in
set_option maxRecDepth 100000 in
/-- GameTextLaw.law([I)Z -/
theorem lw_8h_a0 {d : Nat} {σ : st_S} {q : vz_O × vz_H} {n L : Nat} {xs : Nat → Int32} (hs : gF σ 0 = .inl (0, L, .inl xs)) (hn : n + 6 ≤ L) (hL : L ≤ 3072) (hr_66_9 : σ.2.2.1 66 9 = 79) (c_1 : ¬ ((xs (n + 1)) < 0)) (c_2 : ¬ ((σ.1 52 10) ≤ (xs (n + 1)))) (c_3 : ¬ ((xs (n + 2)) < 0)) (c_4 : ¬ ((xs (n + 2)) < (σ.1 52 9))) (c_5 : ¬ ((σ.1 66 29) ≤ (xs (n + 1)))) (c_6 : ¬ ((xs (n + 2)) < (σ.1 79 12))) (k : vz_ev P0 (d + 10) 0 615 [(6, .int 0), (5, .int 1), (4, .int (nI n)), (3, .ref 187), (2, .ref 66), (1, .ref 1), (0, .ref 0)] [] (hp (st_i (st_n (σ) 1 6) 66 0 1)) q) : vz_ev P0 (d + 10) 0 362 [(4, .int (nI n)), (3, .ref 187), (2, .ref 66), (1, .ref 1), (0, .ref 0)] [] (hp σ) q := by
  refine ev_x (i := .aload_n 1) (len := 1) (p' := 363) (s' := [.ref 1]) rfl rfl rfl ?_
  refine ev_x (i := .aload_n 0) (len := 1) (p' := 364) (s' := [.ref 0, .ref 1]) rfl rfl rfl ?_
  refine ev_x (i := .iload 4) (len := 2) (p' := 366) (s' := [.int (nI n), .ref 0, .ref 1]) rfl rfl rfl ?_
  refine ev_x (i := .iconst 1) (len := 1) (p' := 367) (s' := [.int 1, .int (nI n), .ref 0, .ref 1]) rfl rfl rfl ?_
  refine ev_x (i := .iadd) (len := 1) (p' := 368) (s' := [.int ((nI n) + 1), .ref 0, .ref 1]) rfl rfl rfl ?_
  refine ev_st (st' := [.int (nI (n + 1)), .ref 0, .ref 1]) (congrArg (fun z => Value.int z :: [.ref 0, .ref 1]) (nI_add n 1)) ?_
  refine ev_sg (p' := 369) rfl rfl hs (vp_in_nI (by omega) (by omega)) rfl ?_
  refine ev_st (st' := [.int (xs (n + 1)), .ref 1]) (congrArg (fun z => Value.int (xs z) :: [.ref 1]) (nI_clamp (n := n + 1) (by omega))) ?_
  refine ev_x (i := .aload_n 0) (len := 1) (p' := 370) (s' := [.ref 0, .int (xs (n + 1)), .ref 1]) rfl rfl rfl ?_
  refine ev_x (i := .iload 4) (len := 2) (p' := 372) (s' := [.int (nI n), .ref 0, .int (xs (n + 1)), .ref 1]) rfl rfl rfl ?_
  refine ev_x (i := .iconst 2) (len := 1) (p' := 373) (s' := [.int 2, .int (nI n), .ref 0, .int (xs (n + 1)), .ref 1]) rfl rfl rfl ?_
  refine ev_x (i := .iadd) (len := 1) (p' := 374) (s' := [.int ((nI n) + 2), .ref 0, .int (xs (n + 1)), .ref 1]) rfl rfl rfl ?_
  refine ev_st (st' := [.int (nI (n + 2)), .ref 0, .int (xs (n + 1)), .ref 1]) (congrArg (fun z => Value.int z :: [.ref 0, .int (xs (n + 1)), .ref 1]) (nI_add n 2)) ?_
  refine ev_sg (p' := 375) rfl rfl hs (vp_in_nI (by omega) (by omega)) rfl ?_
  refine ev_st (st' := [.int (xs (n + 2)), .int (xs (n + 1)), .ref 1]) (congrArg (fun z => Value.int (xs z) :: [.int (xs (n + 1)), .ref 1]) (nI_clamp (n := n + 2) (by omega))) ?_
  refine ev_x (i := .aload_n 3) (len := 1) (p' := 376) (s' := [.ref 187, .int (xs (n + 2)), .int (xs (n + 1)), .ref 1]) rfl rfl rfl ?_
  refine ev_callS (d := d + 9) (As := [.ref 1, .int (xs (n + 1)), .int (xs (n + 2)), .ref 187]) rfl rfl rfl (by decide) rfl rfl rfl rfl rfl (lz_262 (d := d + 0) (c_1 := c_1) (c_2 := c_2) (c_3 := c_3) (c_4 := c_4)) ?_
  refine ev_st (st' := [.int 1]) rfl ?_
  refine ev_pc (pc' := 379) rfl ?_
  refine ev_x (i := .istore 5) (len := 2) (p' := 381) (s' := []) (l' := [(5, .int 1), (4, .int (nI n)), (3, .ref 187), (2, .ref 66), (1, .ref 1), (0, .ref 0)]) rfl rfl rfl ?_
  refine ev_x (i := .aload_n 2) (len := 1) (p' := 382) (s' := [.ref 66]) rfl rfl rfl ?_
  refine ev_x (i := .aload_n 0) (len := 1) (p' := 383) (s' := [.ref 0, .ref 66]) rfl rfl rfl ?_
  refine ev_x (i := .iload 4) (len := 2) (p' := 385) (s' := [.int (nI n), .ref 0, .ref 66]) rfl rfl rfl ?_
  refine ev_x (i := .iconst 1) (len := 1) (p' := 386) (s' := [.int 1, .int (nI n), .ref 0, .ref 66]) rfl rfl rfl ?_
  refine ev_x (i := .iadd) (len := 1) (p' := 387) (s' := [.int ((nI n) + 1), .ref 0, .ref 66]) rfl rfl rfl ?_
  refine ev_st (st' := [.int (nI (n + 1)), .ref 0, .ref 66]) (congrArg (fun z => Value.int z :: [.ref 0, .ref 66]) (nI_add n 1)) ?_
  refine ev_sg (p' := 388) rfl rfl hs (vp_in_nI (by omega) (by omega)) rfl ?_
  refine ev_st (st' := [.int (xs (n + 1)), .ref 66]) (congrArg (fun z => Value.int (xs z) :: [.ref 66]) (nI_clamp (n := n + 1) (by omega))) ?_
  refine ev_x (i := .aload_n 0) (len := 1) (p' := 389) (s' := [.ref 0, .int (xs (n + 1)), .ref 66]) rfl rfl rfl ?_
  refine ev_x (i := .iload 4) (len := 2) (p' := 391) (s' := [.int (nI n), .ref 0, .int (xs (n + 1)), .ref 66]) rfl rfl rfl ?_
  refine ev_x (i := .iconst 2) (len := 1) (p' := 392) (s' := [.int 2, .int (nI n), .ref 0, .int (xs (n + 1)), .ref 66]) rfl rfl rfl ?_
  refine ev_x (i := .iadd) (len := 1) (p' := 393) (s' := [.int ((nI n) + 2), .ref 0, .int (xs (n + 1)), .ref 66]) rfl rfl rfl ?_
  refine ev_st (st' := [.int (nI (n + 2)), .ref 0, .int (xs (n + 1)), .ref 66]) (congrArg (fun z => Value.int z :: [.ref 0, .int (xs (n + 1)), .ref 66]) (nI_add n 2)) ?_
  refine ev_sg (p' := 394) rfl rfl hs (vp_in_nI (by omega) (by omega)) rfl ?_
  refine ev_st (st' := [.int (xs (n + 2)), .int (xs (n + 1)), .ref 66]) (congrArg (fun z => Value.int (xs z) :: [.int (xs (n + 1)), .ref 66]) (nI_clamp (n := n + 2) (by omega))) ?_
  refine ev_cv (d := d + 9) (As := [.int (xs (n + 1)), .int (xs (n + 2))]) (a := 66) (p' := 397) rfl rfl rfl ly_66 rfl rfl rfl rfl rfl rfl rfl (lz_263 (d := d + 8) (hr_66_9 := hr_66_9) (c_1 := c_1) (c_2 := c_5) (c_3 := c_3) (c_4 := c_6)) ?_
  refine ev_st (st' := [.int 0]) rfl ?_
  refine ev_x (i := .istore 6) (len := 2) (p' := 399) (s' := []) (l' := [(6, .int 0), (5, .int 1), (4, .int (nI n)), (3, .ref 187), (2, .ref 66), (1, .ref 1), (0, .ref 0)]) rfl rfl rfl ?_
  refine ev_x (i := .aload_n 2) (len := 1) (p' := 400) (s' := [.ref 66]) rfl rfl rfl ?_
  refine ev_cv (d := d + 9) (As := []) (a := 66) (p' := 403) rfl rfl rfl ly_66 rfl rfl rfl rfl rfl rfl rfl (lz_246 (d := d + 8) (hi_66_0 := rfl)) ?_
  refine ev_st (st' := [.int 1]) rfl ?_
  refine ev_x (i := .iload 5) (len := 2) (p' := 405) (s' := [.int 1, .int 1]) rfl rfl rfl ?_
  refine ev_b2 (t := 410) (p' := 410) rfl rfl rfl (by decide) ?_
  refine ev_x (i := .iload 5) (len := 2) (p' := 412) (s' := [.int 1]) rfl rfl rfl ?_
  refine ev_b0 (t := 427) (p' := 427) rfl rfl rfl (by decide) ?_
  refine ev_x (i := .goto 188) (len := 3) (p' := 615) (s' := []) rfl rfl rfl ?_
  exact k
set_option maxHeartbeats 4000000 in
set_option maxRecDepth 100000 in
/-- GameText.variable(II)I -/
theorem lz_267 {d : Nat} {σ : st_S} {y_1 y_2 : Int32} (c_1 : ¬ (y_1 < 0)) (c_2 : ¬ ((σ.1 52 10) ≤ y_1)) (c_3 : ¬ (y_2 < 0)) (c_4 : y_2 < (σ.1 52 9)) (c_5 : vp_in ((y_1 * 12) + y_2) (gN σ 54)) : vz_ev P0 (d + 2) 126 0 (lv_args 0 [.ref 1, .int y_1, .int y_2]) [] (hp σ) (.inl (some (.int (gE σ 54 ((((y_1 * 12) + y_2)).toNatClampNeg)))), hp (σ)) := by
  refine ev_x (i := .aload_n 0) (len := 1) (p' := 1) (s' := [.ref 1]) rfl rfl rfl ?_
  refine ev_gc (p' := 4) (v := 52) rfl rfl rfl ly_1 rfl rfl ?_
  refine ev_x (i := .iload_n 1) (len := 1) (p' := 5) (s' := [.int y_1, .ref 52]) rfl rfl rfl ?_
  refine ev_cv (d := d + 1) (As := [.int y_1]) (a := 52) (p' := 8) rfl rfl rfl ly_52 rfl rfl rfl rfl rfl rfl rfl (lz_53 (d := d + 0) (c_1 := c_1) (c_2 := c_2)) ?_
  refine ev_st (st' := [.int 1]) rfl ?_
  refine ev_b0 (t := 26) (p' := 11) rfl rfl rfl (by decide) ?_
  refine ev_x (i := .iload_n 2) (len := 1) (p' := 12) (s' := [.int y_2]) rfl rfl rfl ?_
  refine ev_b0 (t := 26) (p' := 15) rfl rfl rfl (if_neg c_3) ?_
  refine ev_x (i := .iload_n 2) (len := 1) (p' := 16) (s' := [.int y_2]) rfl rfl rfl ?_
  refine ev_x (i := .aload_n 0) (len := 1) (p' := 17) (s' := [.ref 1, .int y_2]) rfl rfl rfl ?_
  refine ev_gc (p' := 20) (v := 52) rfl rfl rfl ly_1 rfl rfl ?_
  refine ev_gi (p' := 23) (v := (σ.1 52 9)) rfl rfl rfl ly_52 rfl rfl rfl ?_
  refine ev_b2 (t := 36) (p' := 36) rfl rfl rfl (if_pos c_4) ?_
  refine ev_x (i := .aload_n 0) (len := 1) (p' := 37) (s' := [.ref 1]) rfl rfl rfl ?_
  refine ev_gc (p' := 40) (v := 52) rfl rfl rfl ly_1 rfl rfl ?_
  refine ev_gc (p' := 43) (v := 54) rfl rfl rfl ly_52 rfl rfl ?_
  refine ev_x (i := .iload_n 1) (len := 1) (p' := 44) (s' := [.int y_1, .ref 54]) rfl rfl rfl ?_
  refine ev_x (i := .bipush 12) (len := 2) (p' := 46) (s' := [.int 12, .int y_1, .ref 54]) rfl rfl rfl ?_
  refine ev_x (i := .imul) (len := 1) (p' := 47) (s' := [.int (y_1 * 12), .ref 54]) rfl rfl rfl ?_
  refine ev_x (i := .iload_n 2) (len := 1) (p' := 48) (s' := [.int y_2, .int (y_1 * 12), .ref 54]) rfl rfl rfl ?_
  refine ev_x (i := .iadd) (len := 1) (p' := 49) (s' := [.int ((y_1 * 12) + y_2), .ref 54]) rfl rfl rfl ?_
  refine ev_ga (p' := 50) (v := (gE σ 54 ((((y_1 * 12) + y_2)).toNatClampNeg))) rfl rfl ly_54 rfl c_5 rfl ?_
  exact ev_iret rfl rfl rfl rfl
set_option maxHeartbeats 4000000 in
set_option maxRecDepth 100000 in
/-- GameTextLaw.variable(LGameText;II[J)I -/
theorem lz_268 {d : Nat} {σ : st_S} {y_1 y_2 : Int32} (c_1 : ¬ (y_1 < 0)) (c_2 : ¬ ((σ.1 52 10) ≤ y_1)) (c_3 : ¬ (y_2 < 0)) (c_4 : y_2 < (σ.1 52 9)) (c_5 : vp_in ((y_1 * 12) + y_2) (gN σ 54)) (c_6 : vp_in 0 (gN σ 187)) : vz_ev P0 (d + 3) 125 0 (lv_args 0 [.ref 1, .int y_1, .int y_2, .ref 187]) [] (hp σ) (.inl (some (.int 0)), hp (st_E (σ) 187 0 ((gE σ 54 ((((y_1 * 12) + y_2)).toNatClampNeg)) : Int32).toInt64)) := by
  refine ev_x (i := .aload_n 3) (len := 1) (p' := 1) (s' := [.ref 187]) rfl rfl rfl ?_
  refine ev_x (i := .iconst 0) (len := 1) (p' := 2) (s' := [.int 0, .ref 187]) rfl rfl rfl ?_
  refine ev_x (i := .aload_n 0) (len := 1) (p' := 3) (s' := [.ref 1, .int 0, .ref 187]) rfl rfl rfl ?_
  refine ev_x (i := .iload_n 1) (len := 1) (p' := 4) (s' := [.int y_1, .ref 1, .int 0, .ref 187]) rfl rfl rfl ?_
  refine ev_x (i := .iload_n 2) (len := 1) (p' := 5) (s' := [.int y_2, .int y_1, .ref 1, .int 0, .ref 187]) rfl rfl rfl ?_
  refine ev_cv (d := d + 2) (As := [.int y_1, .int y_2]) (a := 1) (p' := 8) rfl rfl rfl ly_1 rfl rfl rfl rfl rfl rfl rfl (lz_267 (d := d + 0) (c_1 := c_1) (c_2 := c_2) (c_3 := c_3) (c_4 := c_4) (c_5 := c_5)) ?_
  refine ev_st (st' := [.int (gE σ 54 ((((y_1 * 12) + y_2)).toNatClampNeg)), .int 0, .ref 187]) rfl ?_
  refine ev_x (i := .i2l) (len := 1) (p' := 9) (s' := [.long ((gE σ 54 ((((y_1 * 12) + y_2)).toNatClampNeg)) : Int32).toInt64, .int 0, .ref 187]) rfl rfl rfl ?_
  refine ev_pL (j := 0) (p' := 10) rfl rfl ly_187 rfl c_6 rfl ?_
  refine ev_x (i := .goto 7) (len := 3) (p' := 17) (s' := []) rfl rfl rfl ?_
  refine ev_x (i := .iconst 0) (len := 1) (p' := 18) (s' := [.int 0]) rfl rfl rfl ?_
  exact ev_iret rfl rfl rfl rfl
set_option maxHeartbeats 4000000 in
set_option maxRecDepth 100000 in
/-- GameTextModel.variable(II)I -/
theorem lz_269 {d : Nat} {σ : st_S} {y_1 y_2 : Int32} (hr_66_9 : σ.2.2.1 66 9 = 79) (c_1 : ¬ (y_1 < 0)) (c_2 : ¬ ((σ.1 66 29) ≤ y_1)) (c_3 : ¬ (y_2 < 0)) (c_4 : y_2 < (σ.1 79 12)) (c_5 : vp_in ((12 * y_1) + y_2) (gN σ 171)) : vz_ev P0 (d + 1) 222 0 (lv_args 0 [.ref 66, .int y_1, .int y_2]) [] (hp σ) (.inl (some (.int (gE σ 171 ((((12 * y_1) + y_2)).toNatClampNeg)))), hp (st_i (σ) 66 0 0)) := by
  refine ev_x (i := .aload_n 0) (len := 1) (p' := 1) (s' := [.ref 66]) rfl rfl rfl ?_
  refine ev_x (i := .iload_n 1) (len := 1) (p' := 2) (s' := [.int y_1, .ref 66]) rfl rfl rfl ?_
  refine ev_b0 (t := 28) (p' := 5) rfl rfl rfl (if_neg c_1) ?_
  refine ev_x (i := .iload_n 1) (len := 1) (p' := 6) (s' := [.int y_1, .ref 66]) rfl rfl rfl ?_
  refine ev_x (i := .aload_n 0) (len := 1) (p' := 7) (s' := [.ref 66, .int y_1, .ref 66]) rfl rfl rfl ?_
  refine ev_gi (p' := 10) (v := (σ.1 66 29)) rfl rfl rfl ly_66 rfl rfl rfl ?_
  refine ev_b2 (t := 28) (p' := 13) rfl rfl rfl (if_neg c_2) ?_
  refine ev_x (i := .iload_n 2) (len := 1) (p' := 14) (s' := [.int y_2, .ref 66]) rfl rfl rfl ?_
  refine ev_b0 (t := 28) (p' := 17) rfl rfl rfl (if_neg c_3) ?_
  refine ev_x (i := .iload_n 2) (len := 1) (p' := 18) (s' := [.int y_2, .ref 66]) rfl rfl rfl ?_
  refine ev_x (i := .aload_n 0) (len := 1) (p' := 19) (s' := [.ref 66, .int y_2, .ref 66]) rfl rfl rfl ?_
  refine ev_gr (p' := 22) (v := 79) rfl rfl rfl ly_66 rfl rfl hr_66_9 ?_
  refine ev_gi (p' := 25) (v := (σ.1 79 12)) rfl rfl rfl ly_79 rfl rfl rfl ?_
  refine ev_b2 (t := 32) (p' := 32) rfl rfl rfl (if_pos c_4) ?_
  refine ev_x (i := .iconst 0) (len := 1) (p' := 33) (s' := [.int 0, .ref 66]) rfl rfl rfl ?_
  refine ev_pi (p' := 36) rfl rfl rfl ly_66 rfl rfl rfl rfl ?_
  refine ev_x (i := .aload_n 0) (len := 1) (p' := 37) (s' := [.ref 66]) rfl rfl rfl ?_
  refine ev_gi (p' := 40) (v := 0) rfl rfl rfl ly_66 rfl rfl rfl ?_
  refine ev_b0 (t := 47) (p' := 47) rfl rfl rfl (by decide) ?_
  refine ev_x (i := .aload_n 0) (len := 1) (p' := 48) (s' := [.ref 66]) rfl rfl rfl ?_
  refine ev_gc (p' := 51) (v := 171) rfl rfl rfl ly_66 rfl rfl ?_
  refine ev_x (i := .bipush 12) (len := 2) (p' := 53) (s' := [.int 12, .ref 171]) rfl rfl rfl ?_
  refine ev_x (i := .iload_n 1) (len := 1) (p' := 54) (s' := [.int y_1, .int 12, .ref 171]) rfl rfl rfl ?_
  refine ev_x (i := .imul) (len := 1) (p' := 55) (s' := [.int (12 * y_1), .ref 171]) rfl rfl rfl ?_
  refine ev_x (i := .iload_n 2) (len := 1) (p' := 56) (s' := [.int y_2, .int (12 * y_1), .ref 171]) rfl rfl rfl ?_
  refine ev_x (i := .iadd) (len := 1) (p' := 57) (s' := [.int ((12 * y_1) + y_2), .ref 171]) rfl rfl rfl ?_
  refine ev_ga (p' := 58) (v := (gE σ 171 ((((12 * y_1) + y_2)).toNatClampNeg))) rfl rfl ly_171 rfl c_5 rfl ?_
  exact ev_iret rfl rfl rfl rfl
set_option maxHeartbeats 4000000 in
set_option maxRecDepth 100000 in
/-- GameTextModel.thrown()I -/
theorem lz_270 {d : Nat} {σ : st_S} (hi_66_0 : σ.1 66 0 = 0) : vz_ev P0 (d + 1) 130 0 (lv_args 0 [.ref 66]) [] (hp σ) (.inl (some (.int 0)), hp (σ)) := by
  refine ev_x (i := .aload_n 0) (len := 1) (p' := 1) (s' := [.ref 66]) rfl rfl rfl ?_
  refine ev_gi (p' := 4) (v := 0) rfl rfl rfl ly_66 rfl rfl hi_66_0 ?_
  exact ev_iret rfl rfl rfl rfl
set_option maxHeartbeats 4000000 in
set_option maxRecDepth 100000 in
/-- GameTextLaw.law([I)Z -/
theorem lw_8o_a0 {d : Nat} {σ : st_S} {q : vz_O × vz_H} {n L : Nat} {xs : Nat → Int32} (hs : gF σ 0 = .inl (0, L, .inl xs)) (hn : n + 6 ≤ L) (hL : L ≤ 3072) (hr_66_9 : σ.2.2.1 66 9 = 79) (c_1 : ¬ ((xs (n + 1)) < 0)) (c_2 : ¬ ((σ.1 52 10) ≤ (xs (n + 1)))) (c_3 : ¬ ((xs (n + 2)) < 0)) (c_4 : (xs (n + 2)) < (σ.1 52 9)) (c_5 : vp_in (((xs (n + 1)) * 12) + (xs (n + 2))) (gN σ 54)) (c_6 : vp_in 0 (gN σ 187)) (c_7 : ¬ ((σ.1 66 29) ≤ (xs (n + 1)))) (c_8 : (xs (n + 2)) < (σ.1 79 12)) (c_9 : vp_in ((12 * (xs (n + 1))) + (xs (n + 2))) (gN σ 171)) (c_10 : (lg_cmp ((gE σ 54 (((((xs (n + 1)) * 12) + (xs (n + 2)))).toNatClampNeg)) : Int32).toInt64 ((gE σ 171 ((((12 * (xs (n + 1))) + (xs (n + 2)))).toNatClampNeg)) : Int32).toInt64) = 0) (k : vz_ev P0 (d + 4) 0 615 [(6, .int (gE σ 171 ((((12 * (xs (n + 1))) + (xs (n + 2)))).toNatClampNeg))), (5, .int 0), (4, .int (nI n)), (3, .ref 187), (2, .ref 66), (1, .ref 1), (0, .ref 0)] [] (hp (st_i (st_E (σ) 187 0 ((gE σ 54 (((((xs (n + 1)) * 12) + (xs (n + 2)))).toNatClampNeg)) : Int32).toInt64) 66 0 0)) q) : vz_ev P0 (d + 4) 0 362 [(4, .int (nI n)), (3, .ref 187), (2, .ref 66), (1, .ref 1), (0, .ref 0)] [] (hp σ) q := by
  refine ev_x (i := .aload_n 1) (len := 1) (p' := 363) (s' := [.ref 1]) rfl rfl rfl ?_
  refine ev_x (i := .aload_n 0) (len := 1) (p' := 364) (s' := [.ref 0, .ref 1]) rfl rfl rfl ?_
  refine ev_x (i := .iload 4) (len := 2) (p' := 366) (s' := [.int (nI n), .ref 0, .ref 1]) rfl rfl rfl ?_
  refine ev_x (i := .iconst 1) (len := 1) (p' := 367) (s' := [.int 1, .int (nI n), .ref 0, .ref 1]) rfl rfl rfl ?_
  refine ev_x (i := .iadd) (len := 1) (p' := 368) (s' := [.int ((nI n) + 1), .ref 0, .ref 1]) rfl rfl rfl ?_
  refine ev_st (st' := [.int (nI (n + 1)), .ref 0, .ref 1]) (congrArg (fun z => Value.int z :: [.ref 0, .ref 1]) (nI_add n 1)) ?_
  refine ev_sg (p' := 369) rfl rfl hs (vp_in_nI (by omega) (by omega)) rfl ?_
  refine ev_st (st' := [.int (xs (n + 1)), .ref 1]) (congrArg (fun z => Value.int (xs z) :: [.ref 1]) (nI_clamp (n := n + 1) (by omega))) ?_
  refine ev_x (i := .aload_n 0) (len := 1) (p' := 370) (s' := [.ref 0, .int (xs (n + 1)), .ref 1]) rfl rfl rfl ?_
  refine ev_x (i := .iload 4) (len := 2) (p' := 372) (s' := [.int (nI n), .ref 0, .int (xs (n + 1)), .ref 1]) rfl rfl rfl ?_
  refine ev_x (i := .iconst 2) (len := 1) (p' := 373) (s' := [.int 2, .int (nI n), .ref 0, .int (xs (n + 1)), .ref 1]) rfl rfl rfl ?_
  refine ev_x (i := .iadd) (len := 1) (p' := 374) (s' := [.int ((nI n) + 2), .ref 0, .int (xs (n + 1)), .ref 1]) rfl rfl rfl ?_
  refine ev_st (st' := [.int (nI (n + 2)), .ref 0, .int (xs (n + 1)), .ref 1]) (congrArg (fun z => Value.int z :: [.ref 0, .int (xs (n + 1)), .ref 1]) (nI_add n 2)) ?_
  refine ev_sg (p' := 375) rfl rfl hs (vp_in_nI (by omega) (by omega)) rfl ?_
  refine ev_st (st' := [.int (xs (n + 2)), .int (xs (n + 1)), .ref 1]) (congrArg (fun z => Value.int (xs z) :: [.int (xs (n + 1)), .ref 1]) (nI_clamp (n := n + 2) (by omega))) ?_
  refine ev_x (i := .aload_n 3) (len := 1) (p' := 376) (s' := [.ref 187, .int (xs (n + 2)), .int (xs (n + 1)), .ref 1]) rfl rfl rfl ?_
  refine ev_callS (d := d + 3) (As := [.ref 1, .int (xs (n + 1)), .int (xs (n + 2)), .ref 187]) rfl rfl rfl (by decide) rfl rfl rfl rfl rfl (lz_268 (d := d + 0) (c_1 := c_1) (c_2 := c_2) (c_3 := c_3) (c_4 := c_4) (c_5 := c_5) (c_6 := c_6)) ?_
  refine ev_st (st' := [.int 0]) rfl ?_
  refine ev_pc (pc' := 379) rfl ?_
  refine ev_x (i := .istore 5) (len := 2) (p' := 381) (s' := []) (l' := [(5, .int 0), (4, .int (nI n)), (3, .ref 187), (2, .ref 66), (1, .ref 1), (0, .ref 0)]) rfl rfl rfl ?_
  refine ev_x (i := .aload_n 2) (len := 1) (p' := 382) (s' := [.ref 66]) rfl rfl rfl ?_
  refine ev_x (i := .aload_n 0) (len := 1) (p' := 383) (s' := [.ref 0, .ref 66]) rfl rfl rfl ?_
  refine ev_x (i := .iload 4) (len := 2) (p' := 385) (s' := [.int (nI n), .ref 0, .ref 66]) rfl rfl rfl ?_
  refine ev_x (i := .iconst 1) (len := 1) (p' := 386) (s' := [.int 1, .int (nI n), .ref 0, .ref 66]) rfl rfl rfl ?_
  refine ev_x (i := .iadd) (len := 1) (p' := 387) (s' := [.int ((nI n) + 1), .ref 0, .ref 66]) rfl rfl rfl ?_
  refine ev_st (st' := [.int (nI (n + 1)), .ref 0, .ref 66]) (congrArg (fun z => Value.int z :: [.ref 0, .ref 66]) (nI_add n 1)) ?_
  refine ev_sg (p' := 388) rfl rfl hs (vp_in_nI (by omega) (by omega)) rfl ?_
  refine ev_st (st' := [.int (xs (n + 1)), .ref 66]) (congrArg (fun z => Value.int (xs z) :: [.ref 66]) (nI_clamp (n := n + 1) (by omega))) ?_
  refine ev_x (i := .aload_n 0) (len := 1) (p' := 389) (s' := [.ref 0, .int (xs (n + 1)), .ref 66]) rfl rfl rfl ?_
  refine ev_x (i := .iload 4) (len := 2) (p' := 391) (s' := [.int (nI n), .ref 0, .int (xs (n + 1)), .ref 66]) rfl rfl rfl ?_
  refine ev_x (i := .iconst 2) (len := 1) (p' := 392) (s' := [.int 2, .int (nI n), .ref 0, .int (xs (n + 1)), .ref 66]) rfl rfl rfl ?_
  refine ev_x (i := .iadd) (len := 1) (p' := 393) (s' := [.int ((nI n) + 2), .ref 0, .int (xs (n + 1)), .ref 66]) rfl rfl rfl ?_
  refine ev_st (st' := [.int (nI (n + 2)), .ref 0, .int (xs (n + 1)), .ref 66]) (congrArg (fun z => Value.int z :: [.ref 0, .int (xs (n + 1)), .ref 66]) (nI_add n 2)) ?_
  refine ev_sg (p' := 394) rfl rfl hs (vp_in_nI (by omega) (by omega)) rfl ?_
  refine ev_st (st' := [.int (xs (n + 2)), .int (xs (n + 1)), .ref 66]) (congrArg (fun z => Value.int (xs z) :: [.int (xs (n + 1)), .ref 66]) (nI_clamp (n := n + 2) (by omega))) ?_
  refine ev_cv (d := d + 3) (As := [.int (xs (n + 1)), .int (xs (n + 2))]) (a := 66) (p' := 397) rfl rfl rfl ly_66 rfl rfl rfl rfl rfl rfl rfl (lz_269 (d := d + 2) (hr_66_9 := hr_66_9) (c_1 := c_1) (c_2 := c_7) (c_3 := c_3) (c_4 := c_8) (c_5 := c_9)) ?_
  refine ev_st (st' := [.int (gE σ 171 ((((12 * (xs (n + 1))) + (xs (n + 2)))).toNatClampNeg))]) rfl ?_
  refine ev_x (i := .istore 6) (len := 2) (p' := 399) (s' := []) (l' := [(6, .int (gE σ 171 ((((12 * (xs (n + 1))) + (xs (n + 2)))).toNatClampNeg))), (5, .int 0), (4, .int (nI n)), (3, .ref 187), (2, .ref 66), (1, .ref 1), (0, .ref 0)]) rfl rfl rfl ?_
  refine ev_x (i := .aload_n 2) (len := 1) (p' := 400) (s' := [.ref 66]) rfl rfl rfl ?_
  refine ev_cv (d := d + 3) (As := []) (a := 66) (p' := 403) rfl rfl rfl ly_66 rfl rfl rfl rfl rfl rfl rfl (lz_270 (d := d + 2) (hi_66_0 := rfl)) ?_
  refine ev_st (st' := [.int 0]) rfl ?_
  refine ev_x (i := .iload 5) (len := 2) (p' := 405) (s' := [.int 0, .int 0]) rfl rfl rfl ?_
  refine ev_b2 (t := 410) (p' := 410) rfl rfl rfl (by decide) ?_
  refine ev_x (i := .iload 5) (len := 2) (p' := 412) (s' := [.int 0]) rfl rfl rfl ?_
  refine ev_b0 (t := 427) (p' := 415) rfl rfl rfl (by decide) ?_
  refine ev_x (i := .aload_n 3) (len := 1) (p' := 416) (s' := [.ref 187]) rfl rfl rfl ?_
  refine ev_x (i := .iconst 0) (len := 1) (p' := 417) (s' := [.int 0, .ref 187]) rfl rfl rfl ?_
  refine ev_gL (p' := 418) (v := ((gE σ 54 (((((xs (n + 1)) * 12) + (xs (n + 2)))).toNatClampNeg)) : Int32).toInt64) rfl rfl ly_187 rfl c_6 rfl ?_
  refine ev_x (i := .iload 6) (len := 2) (p' := 420) (s' := [.int (gE σ 171 ((((12 * (xs (n + 1))) + (xs (n + 2)))).toNatClampNeg)), .long ((gE σ 54 (((((xs (n + 1)) * 12) + (xs (n + 2)))).toNatClampNeg)) : Int32).toInt64]) rfl rfl rfl ?_
  refine ev_x (i := .i2l) (len := 1) (p' := 421) (s' := [.long ((gE σ 171 ((((12 * (xs (n + 1))) + (xs (n + 2)))).toNatClampNeg)) : Int32).toInt64, .long ((gE σ 54 (((((xs (n + 1)) * 12) + (xs (n + 2)))).toNatClampNeg)) : Int32).toInt64]) rfl rfl rfl ?_
  refine ev_x (i := .lcmp) (len := 1) (p' := 422) (s' := [.int (lg_cmp ((gE σ 54 (((((xs (n + 1)) * 12) + (xs (n + 2)))).toNatClampNeg)) : Int32).toInt64 ((gE σ 171 ((((12 * (xs (n + 1))) + (xs (n + 2)))).toNatClampNeg)) : Int32).toInt64)]) rfl rfl rfl ?_
  refine ev_b0 (t := 427) (p' := 427) rfl rfl rfl (if_pos c_10) ?_
  refine ev_x (i := .goto 188) (len := 3) (p' := 615) (s' := []) rfl rfl rfl ?_
  exact k
set_option maxHeartbeats 4000000 in
set_option maxRecDepth 100000 in
/-- GameText.items(I)I -/
theorem lz_272 {d : Nat} {σ : st_S} {y_1 : Int32} (c_1 : ¬ (¬ (σ.1 1 7) = 0)) : vz_ev P0 (d + 1) 93 0 (lv_args 0 [.ref 1, .int y_1]) [] (hp σ) (.inl (some (.int (-1))), hp (σ)) := by
  refine ev_x (i := .aload_n 0) (len := 1) (p' := 1) (s' := [.ref 1]) rfl rfl rfl ?_
  refine ev_gi (p' := 4) (v := (σ.1 1 7)) rfl rfl rfl ly_1 rfl rfl rfl ?_
  refine ev_b0 (t := 9) (p' := 7) rfl rfl rfl (if_neg c_1) ?_
  refine ev_x (i := .iconst (-1)) (len := 1) (p' := 8) (s' := [.int (-1)]) rfl rfl rfl ?_
  exact ev_iret rfl rfl rfl rfl
set_option maxHeartbeats 4000000 in
set_option maxRecDepth 100000 in
/-- GameTextModel.items(I)I -/
theorem lz_273 {d : Nat} {σ : st_S} {y_1 : Int32} (c_1 : ¬ (¬ (σ.1 66 11) = 0)) : vz_ev P0 (d + 1) 209 0 (lv_args 0 [.ref 66, .int y_1]) [] (hp σ) (.inl (some (.int (-1))), hp (st_i (σ) 66 0 0)) := by
  refine ev_x (i := .aload_n 0) (len := 1) (p' := 1) (s' := [.ref 66]) rfl rfl rfl ?_
  refine ev_x (i := .iconst 0) (len := 1) (p' := 2) (s' := [.int 0, .ref 66]) rfl rfl rfl ?_
  refine ev_pi (p' := 5) rfl rfl rfl ly_66 rfl rfl rfl rfl ?_
  refine ev_x (i := .aload_n 0) (len := 1) (p' := 6) (s' := [.ref 66]) rfl rfl rfl ?_
  refine ev_gi (p' := 9) (v := (σ.1 66 11)) rfl rfl rfl ly_66 rfl rfl rfl ?_
  refine ev_b0 (t := 16) (p' := 12) rfl rfl rfl (if_neg c_1) ?_
  refine ev_x (i := .iconst (-1)) (len := 1) (p' := 13) (s' := [.int (-1)]) rfl rfl rfl ?_
  refine ev_x (i := .goto 48) (len := 3) (p' := 61) (s' := [.int (-1)]) rfl rfl rfl ?_
  exact ev_iret rfl rfl rfl rfl
set_option maxHeartbeats 4000000 in
set_option maxRecDepth 100000 in
/-- GameTextLaw.law([I)Z -/
theorem lw_4n_a0 {d : Nat} {σ : st_S} {q : vz_O × vz_H} {n L : Nat} {xs : Nat → Int32} (hs : gF σ 0 = .inl (0, L, .inl xs)) (hn : n + 6 ≤ L) (hL : L ≤ 3072) (c_1 : ¬ (¬ (σ.1 1 7) = 0)) (c_2 : ¬ (¬ (σ.1 66 11) = 0)) (k : vz_ev P0 (d + 2) 0 615 [(4, .int (nI n)), (3, .ref 187), (2, .ref 66), (1, .ref 1), (0, .ref 0)] [] (hp (st_i (σ) 66 0 0)) q) : vz_ev P0 (d + 2) 0 267 [(4, .int (nI n)), (3, .ref 187), (2, .ref 66), (1, .ref 1), (0, .ref 0)] [] (hp σ) q := by
  refine ev_x (i := .aload_n 1) (len := 1) (p' := 268) (s' := [.ref 1]) rfl rfl rfl ?_
  refine ev_x (i := .aload_n 0) (len := 1) (p' := 269) (s' := [.ref 0, .ref 1]) rfl rfl rfl ?_
  refine ev_x (i := .iload 4) (len := 2) (p' := 271) (s' := [.int (nI n), .ref 0, .ref 1]) rfl rfl rfl ?_
  refine ev_x (i := .iconst 1) (len := 1) (p' := 272) (s' := [.int 1, .int (nI n), .ref 0, .ref 1]) rfl rfl rfl ?_
  refine ev_x (i := .iadd) (len := 1) (p' := 273) (s' := [.int ((nI n) + 1), .ref 0, .ref 1]) rfl rfl rfl ?_
  refine ev_st (st' := [.int (nI (n + 1)), .ref 0, .ref 1]) (congrArg (fun z => Value.int z :: [.ref 0, .ref 1]) (nI_add n 1)) ?_
  refine ev_sg (p' := 274) rfl rfl hs (vp_in_nI (by omega) (by omega)) rfl ?_
  refine ev_st (st' := [.int (xs (n + 1)), .ref 1]) (congrArg (fun z => Value.int (xs z) :: [.ref 1]) (nI_clamp (n := n + 1) (by omega))) ?_
  refine ev_cv (d := d + 1) (As := [.int (xs (n + 1))]) (a := 1) (p' := 277) rfl rfl rfl ly_1 rfl rfl rfl rfl rfl rfl rfl (lz_272 (d := d + 0) (c_1 := c_1)) ?_
  refine ev_st (st' := [.int (-1)]) rfl ?_
  refine ev_x (i := .aload_n 2) (len := 1) (p' := 278) (s' := [.ref 66, .int (-1)]) rfl rfl rfl ?_
  refine ev_x (i := .aload_n 0) (len := 1) (p' := 279) (s' := [.ref 0, .ref 66, .int (-1)]) rfl rfl rfl ?_
  refine ev_x (i := .iload 4) (len := 2) (p' := 281) (s' := [.int (nI n), .ref 0, .ref 66, .int (-1)]) rfl rfl rfl ?_
  refine ev_x (i := .iconst 1) (len := 1) (p' := 282) (s' := [.int 1, .int (nI n), .ref 0, .ref 66, .int (-1)]) rfl rfl rfl ?_
  refine ev_x (i := .iadd) (len := 1) (p' := 283) (s' := [.int ((nI n) + 1), .ref 0, .ref 66, .int (-1)]) rfl rfl rfl ?_
  refine ev_st (st' := [.int (nI (n + 1)), .ref 0, .ref 66, .int (-1)]) (congrArg (fun z => Value.int z :: [.ref 0, .ref 66, .int (-1)]) (nI_add n 1)) ?_
  refine ev_sg (p' := 284) rfl rfl hs (vp_in_nI (by omega) (by omega)) rfl ?_
  refine ev_st (st' := [.int (xs (n + 1)), .ref 66, .int (-1)]) (congrArg (fun z => Value.int (xs z) :: [.ref 66, .int (-1)]) (nI_clamp (n := n + 1) (by omega))) ?_
  refine ev_cv (d := d + 1) (As := [.int (xs (n + 1))]) (a := 66) (p' := 287) rfl rfl rfl ly_66 rfl rfl rfl rfl rfl rfl rfl (lz_273 (d := d + 0) (c_1 := c_2)) ?_
  refine ev_st (st' := [.int (-1), .int (-1)]) rfl ?_
  refine ev_b2 (t := 615) (p' := 615) rfl rfl rfl (by decide) ?_
  exact k
set_option maxHeartbeats 4000000 in
set_option maxRecDepth 100000 in
/-- GameText.items(I)I -/
theorem lz_275 {d : Nat} {σ : st_S} {y_1 : Int32} (hr_1_5 : σ.2.2.1 1 5 = 4) (c_1 : ¬ (σ.1 1 7) = 0) (c_2 : y_1 = 0) : vz_ev P0 (d + 1) 93 0 (lv_args 0 [.ref 1, .int y_1]) [] (hp σ) (.inl (some (.int (σ.1 4 7))), hp (σ)) := by
  refine ev_x (i := .aload_n 0) (len := 1) (p' := 1) (s' := [.ref 1]) rfl rfl rfl ?_
  refine ev_gi (p' := 4) (v := (σ.1 1 7)) rfl rfl rfl ly_1 rfl rfl rfl ?_
  refine ev_b0 (t := 9) (p' := 9) rfl rfl rfl (if_pos c_1) ?_
  refine ev_x (i := .iload_n 1) (len := 1) (p' := 10) (s' := [.int y_1]) rfl rfl rfl ?_
  refine ev_st (st' := [.int 0]) (congrArg (fun z => Value.int z :: []) c_2) ?_
  refine ev_ts (off := 26) (t := 36) rfl rfl (by decide) rfl ?_
  refine ev_x (i := .aload_n 0) (len := 1) (p' := 37) (s' := [.ref 1]) rfl rfl rfl ?_
  refine ev_gr (p' := 40) (v := 4) rfl rfl rfl ly_1 rfl rfl hr_1_5 ?_
  refine ev_gi (p' := 43) (v := (σ.1 4 7)) rfl rfl rfl ly_4 rfl rfl rfl ?_
  exact ev_iret rfl rfl rfl rfl
set_option maxHeartbeats 4000000 in
set_option maxRecDepth 100000 in
/-- GameTextModel.items(I)I -/
theorem lz_276 {d : Nat} {σ : st_S} {y_1 : Int32} (hr_66_9 : σ.2.2.1 66 9 = 79) (c_1 : ¬ (σ.1 66 11) = 0) (c_2 : ¬ (¬ y_1 = 0)) : vz_ev P0 (d + 1) 209 0 (lv_args 0 [.ref 66, .int y_1]) [] (hp σ) (.inl (some (.int (σ.1 79 12))), hp (st_i (σ) 66 0 0)) := by
  refine ev_x (i := .aload_n 0) (len := 1) (p' := 1) (s' := [.ref 66]) rfl rfl rfl ?_
  refine ev_x (i := .iconst 0) (len := 1) (p' := 2) (s' := [.int 0, .ref 66]) rfl rfl rfl ?_
  refine ev_pi (p' := 5) rfl rfl rfl ly_66 rfl rfl rfl rfl ?_
  refine ev_x (i := .aload_n 0) (len := 1) (p' := 6) (s' := [.ref 66]) rfl rfl rfl ?_
  refine ev_gi (p' := 9) (v := (σ.1 66 11)) rfl rfl rfl ly_66 rfl rfl rfl ?_
  refine ev_b0 (t := 16) (p' := 16) rfl rfl rfl (if_pos c_1) ?_
  refine ev_x (i := .iload_n 1) (len := 1) (p' := 17) (s' := [.int y_1]) rfl rfl rfl ?_
  refine ev_b0 (t := 30) (p' := 20) rfl rfl rfl (if_neg c_2) ?_
  refine ev_x (i := .aload_n 0) (len := 1) (p' := 21) (s' := [.ref 66]) rfl rfl rfl ?_
  refine ev_gr (p' := 24) (v := 79) rfl rfl rfl ly_66 rfl rfl hr_66_9 ?_
  refine ev_gi (p' := 27) (v := (σ.1 79 12)) rfl rfl rfl ly_79 rfl rfl rfl ?_
  refine ev_x (i := .goto 34) (len := 3) (p' := 61) (s' := [.int (σ.1 79 12)]) rfl rfl rfl ?_
  exact ev_iret rfl rfl rfl rfl
set_option maxHeartbeats 4000000 in
set_option maxRecDepth 100000 in
/-- GameTextLaw.law([I)Z -/
theorem lw_40_a0 {d : Nat} {σ : st_S} {q : vz_O × vz_H} {n L : Nat} {xs : Nat → Int32} (hs : gF σ 0 = .inl (0, L, .inl xs)) (hn : n + 6 ≤ L) (hL : L ≤ 3072) (hr_1_5 : σ.2.2.1 1 5 = 4) (hr_66_9 : σ.2.2.1 66 9 = 79) (c_1 : ¬ (σ.1 1 7) = 0) (c_2 : (xs (n + 1)) = 0) (c_3 : ¬ (σ.1 66 11) = 0) (c_4 : ¬ (¬ (xs (n + 1)) = 0)) (c_5 : (σ.1 4 7) = (σ.1 79 12)) (k : vz_ev P0 (d + 2) 0 615 [(4, .int (nI n)), (3, .ref 187), (2, .ref 66), (1, .ref 1), (0, .ref 0)] [] (hp (st_i (σ) 66 0 0)) q) : vz_ev P0 (d + 2) 0 267 [(4, .int (nI n)), (3, .ref 187), (2, .ref 66), (1, .ref 1), (0, .ref 0)] [] (hp σ) q := by
  refine ev_x (i := .aload_n 1) (len := 1) (p' := 268) (s' := [.ref 1]) rfl rfl rfl ?_
  refine ev_x (i := .aload_n 0) (len := 1) (p' := 269) (s' := [.ref 0, .ref 1]) rfl rfl rfl ?_
  refine ev_x (i := .iload 4) (len := 2) (p' := 271) (s' := [.int (nI n), .ref 0, .ref 1]) rfl rfl rfl ?_
  refine ev_x (i := .iconst 1) (len := 1) (p' := 272) (s' := [.int 1, .int (nI n), .ref 0, .ref 1]) rfl rfl rfl ?_
  refine ev_x (i := .iadd) (len := 1) (p' := 273) (s' := [.int ((nI n) + 1), .ref 0, .ref 1]) rfl rfl rfl ?_
  refine ev_st (st' := [.int (nI (n + 1)), .ref 0, .ref 1]) (congrArg (fun z => Value.int z :: [.ref 0, .ref 1]) (nI_add n 1)) ?_
  refine ev_sg (p' := 274) rfl rfl hs (vp_in_nI (by omega) (by omega)) rfl ?_
  refine ev_st (st' := [.int (xs (n + 1)), .ref 1]) (congrArg (fun z => Value.int (xs z) :: [.ref 1]) (nI_clamp (n := n + 1) (by omega))) ?_
  refine ev_cv (d := d + 1) (As := [.int (xs (n + 1))]) (a := 1) (p' := 277) rfl rfl rfl ly_1 rfl rfl rfl rfl rfl rfl rfl (lz_275 (d := d + 0) (hr_1_5 := hr_1_5) (c_1 := c_1) (c_2 := c_2)) ?_
  refine ev_st (st' := [.int (σ.1 4 7)]) rfl ?_
  refine ev_x (i := .aload_n 2) (len := 1) (p' := 278) (s' := [.ref 66, .int (σ.1 4 7)]) rfl rfl rfl ?_
  refine ev_x (i := .aload_n 0) (len := 1) (p' := 279) (s' := [.ref 0, .ref 66, .int (σ.1 4 7)]) rfl rfl rfl ?_
  refine ev_x (i := .iload 4) (len := 2) (p' := 281) (s' := [.int (nI n), .ref 0, .ref 66, .int (σ.1 4 7)]) rfl rfl rfl ?_
  refine ev_x (i := .iconst 1) (len := 1) (p' := 282) (s' := [.int 1, .int (nI n), .ref 0, .ref 66, .int (σ.1 4 7)]) rfl rfl rfl ?_
  refine ev_x (i := .iadd) (len := 1) (p' := 283) (s' := [.int ((nI n) + 1), .ref 0, .ref 66, .int (σ.1 4 7)]) rfl rfl rfl ?_
  refine ev_st (st' := [.int (nI (n + 1)), .ref 0, .ref 66, .int (σ.1 4 7)]) (congrArg (fun z => Value.int z :: [.ref 0, .ref 66, .int (σ.1 4 7)]) (nI_add n 1)) ?_
  refine ev_sg (p' := 284) rfl rfl hs (vp_in_nI (by omega) (by omega)) rfl ?_
  refine ev_st (st' := [.int (xs (n + 1)), .ref 66, .int (σ.1 4 7)]) (congrArg (fun z => Value.int (xs z) :: [.ref 66, .int (σ.1 4 7)]) (nI_clamp (n := n + 1) (by omega))) ?_
  refine ev_cv (d := d + 1) (As := [.int (xs (n + 1))]) (a := 66) (p' := 287) rfl rfl rfl ly_66 rfl rfl rfl rfl rfl rfl rfl (lz_276 (d := d + 0) (hr_66_9 := hr_66_9) (c_1 := c_3) (c_2 := c_4)) ?_
  refine ev_st (st' := [.int (σ.1 79 12), .int (σ.1 4 7)]) rfl ?_
  refine ev_b2 (t := 615) (p' := 615) rfl rfl rfl (if_pos c_5) ?_
  exact k
set_option maxHeartbeats 4000000 in
set_option maxRecDepth 100000 in
/-- GameText.items(I)I -/
theorem lz_278 {d : Nat} {σ : st_S} {y_1 : Int32} (hr_1_5 : σ.2.2.1 1 5 = 4) (c_1 : ¬ (σ.1 1 7) = 0) (c_2 : y_1 = 1) : vz_ev P0 (d + 1) 93 0 (lv_args 0 [.ref 1, .int y_1]) [] (hp σ) (.inl (some (.int (σ.1 4 8))), hp (σ)) := by
  refine ev_x (i := .aload_n 0) (len := 1) (p' := 1) (s' := [.ref 1]) rfl rfl rfl ?_
  refine ev_gi (p' := 4) (v := (σ.1 1 7)) rfl rfl rfl ly_1 rfl rfl rfl ?_
  refine ev_b0 (t := 9) (p' := 9) rfl rfl rfl (if_pos c_1) ?_
  refine ev_x (i := .iload_n 1) (len := 1) (p' := 10) (s' := [.int y_1]) rfl rfl rfl ?_
  refine ev_st (st' := [.int 1]) (congrArg (fun z => Value.int z :: []) c_2) ?_
  refine ev_ts (off := 34) (t := 44) rfl rfl (by decide) rfl ?_
  refine ev_x (i := .aload_n 0) (len := 1) (p' := 45) (s' := [.ref 1]) rfl rfl rfl ?_
  refine ev_gr (p' := 48) (v := 4) rfl rfl rfl ly_1 rfl rfl hr_1_5 ?_
  refine ev_gi (p' := 51) (v := (σ.1 4 8)) rfl rfl rfl ly_4 rfl rfl rfl ?_
  exact ev_iret rfl rfl rfl rfl
set_option maxHeartbeats 4000000 in
set_option maxRecDepth 100000 in
/-- GameTextModel.items(I)I -/
theorem lz_279 {d : Nat} {σ : st_S} {y_1 : Int32} (hr_66_9 : σ.2.2.1 66 9 = 79) (c_1 : ¬ (σ.1 66 11) = 0) (c_2 : ¬ y_1 = 0) (c_3 : ¬ (¬ y_1 = 1)) : vz_ev P0 (d + 1) 209 0 (lv_args 0 [.ref 66, .int y_1]) [] (hp σ) (.inl (some (.int (σ.1 79 6))), hp (st_i (σ) 66 0 0)) := by
  refine ev_x (i := .aload_n 0) (len := 1) (p' := 1) (s' := [.ref 66]) rfl rfl rfl ?_
  refine ev_x (i := .iconst 0) (len := 1) (p' := 2) (s' := [.int 0, .ref 66]) rfl rfl rfl ?_
  refine ev_pi (p' := 5) rfl rfl rfl ly_66 rfl rfl rfl rfl ?_
  refine ev_x (i := .aload_n 0) (len := 1) (p' := 6) (s' := [.ref 66]) rfl rfl rfl ?_
  refine ev_gi (p' := 9) (v := (σ.1 66 11)) rfl rfl rfl ly_66 rfl rfl rfl ?_
  refine ev_b0 (t := 16) (p' := 16) rfl rfl rfl (if_pos c_1) ?_
  refine ev_x (i := .iload_n 1) (len := 1) (p' := 17) (s' := [.int y_1]) rfl rfl rfl ?_
  refine ev_b0 (t := 30) (p' := 30) rfl rfl rfl (if_pos c_2) ?_
  refine ev_x (i := .iload_n 1) (len := 1) (p' := 31) (s' := [.int y_1]) rfl rfl rfl ?_
  refine ev_x (i := .iconst 1) (len := 1) (p' := 32) (s' := [.int 1, .int y_1]) rfl rfl rfl ?_
  refine ev_b2 (t := 45) (p' := 35) rfl rfl rfl (if_neg c_3) ?_
  refine ev_x (i := .aload_n 0) (len := 1) (p' := 36) (s' := [.ref 66]) rfl rfl rfl ?_
  refine ev_gr (p' := 39) (v := 79) rfl rfl rfl ly_66 rfl rfl hr_66_9 ?_
  refine ev_gi (p' := 42) (v := (σ.1 79 6)) rfl rfl rfl ly_79 rfl rfl rfl ?_
  refine ev_x (i := .goto 19) (len := 3) (p' := 61) (s' := [.int (σ.1 79 6)]) rfl rfl rfl ?_
  exact ev_iret rfl rfl rfl rfl
set_option maxHeartbeats 4000000 in
set_option maxRecDepth 100000 in
/-- GameTextLaw.law([I)Z -/
theorem lw_41_a0 {d : Nat} {σ : st_S} {q : vz_O × vz_H} {n L : Nat} {xs : Nat → Int32} (hs : gF σ 0 = .inl (0, L, .inl xs)) (hn : n + 6 ≤ L) (hL : L ≤ 3072) (hr_1_5 : σ.2.2.1 1 5 = 4) (hr_66_9 : σ.2.2.1 66 9 = 79) (c_1 : ¬ (σ.1 1 7) = 0) (c_2 : (xs (n + 1)) = 1) (c_3 : ¬ (σ.1 66 11) = 0) (c_4 : ¬ (xs (n + 1)) = 0) (c_5 : ¬ (¬ (xs (n + 1)) = 1)) (c_6 : (σ.1 4 8) = (σ.1 79 6)) (k : vz_ev P0 (d + 2) 0 615 [(4, .int (nI n)), (3, .ref 187), (2, .ref 66), (1, .ref 1), (0, .ref 0)] [] (hp (st_i (σ) 66 0 0)) q) : vz_ev P0 (d + 2) 0 267 [(4, .int (nI n)), (3, .ref 187), (2, .ref 66), (1, .ref 1), (0, .ref 0)] [] (hp σ) q := by
  refine ev_x (i := .aload_n 1) (len := 1) (p' := 268) (s' := [.ref 1]) rfl rfl rfl ?_
  refine ev_x (i := .aload_n 0) (len := 1) (p' := 269) (s' := [.ref 0, .ref 1]) rfl rfl rfl ?_
  refine ev_x (i := .iload 4) (len := 2) (p' := 271) (s' := [.int (nI n), .ref 0, .ref 1]) rfl rfl rfl ?_
  refine ev_x (i := .iconst 1) (len := 1) (p' := 272) (s' := [.int 1, .int (nI n), .ref 0, .ref 1]) rfl rfl rfl ?_
  refine ev_x (i := .iadd) (len := 1) (p' := 273) (s' := [.int ((nI n) + 1), .ref 0, .ref 1]) rfl rfl rfl ?_
  refine ev_st (st' := [.int (nI (n + 1)), .ref 0, .ref 1]) (congrArg (fun z => Value.int z :: [.ref 0, .ref 1]) (nI_add n 1)) ?_
  refine ev_sg (p' := 274) rfl rfl hs (vp_in_nI (by omega) (by omega)) rfl ?_
  refine ev_st (st' := [.int (xs (n + 1)), .ref 1]) (congrArg (fun z => Value.int (xs z) :: [.ref 1]) (nI_clamp (n := n + 1) (by omega))) ?_
  refine ev_cv (d := d + 1) (As := [.int (xs (n + 1))]) (a := 1) (p' := 277) rfl rfl rfl ly_1 rfl rfl rfl rfl rfl rfl rfl (lz_278 (d := d + 0) (hr_1_5 := hr_1_5) (c_1 := c_1) (c_2 := c_2)) ?_
  refine ev_st (st' := [.int (σ.1 4 8)]) rfl ?_
  refine ev_x (i := .aload_n 2) (len := 1) (p' := 278) (s' := [.ref 66, .int (σ.1 4 8)]) rfl rfl rfl ?_
  refine ev_x (i := .aload_n 0) (len := 1) (p' := 279) (s' := [.ref 0, .ref 66, .int (σ.1 4 8)]) rfl rfl rfl ?_
  refine ev_x (i := .iload 4) (len := 2) (p' := 281) (s' := [.int (nI n), .ref 0, .ref 66, .int (σ.1 4 8)]) rfl rfl rfl ?_
  refine ev_x (i := .iconst 1) (len := 1) (p' := 282) (s' := [.int 1, .int (nI n), .ref 0, .ref 66, .int (σ.1 4 8)]) rfl rfl rfl ?_
  refine ev_x (i := .iadd) (len := 1) (p' := 283) (s' := [.int ((nI n) + 1), .ref 0, .ref 66, .int (σ.1 4 8)]) rfl rfl rfl ?_
  refine ev_st (st' := [.int (nI (n + 1)), .ref 0, .ref 66, .int (σ.1 4 8)]) (congrArg (fun z => Value.int z :: [.ref 0, .ref 66, .int (σ.1 4 8)]) (nI_add n 1)) ?_
  refine ev_sg (p' := 284) rfl rfl hs (vp_in_nI (by omega) (by omega)) rfl ?_
  refine ev_st (st' := [.int (xs (n + 1)), .ref 66, .int (σ.1 4 8)]) (congrArg (fun z => Value.int (xs z) :: [.ref 66, .int (σ.1 4 8)]) (nI_clamp (n := n + 1) (by omega))) ?_
  refine ev_cv (d := d + 1) (As := [.int (xs (n + 1))]) (a := 66) (p' := 287) rfl rfl rfl ly_66 rfl rfl rfl rfl rfl rfl rfl (lz_279 (d := d + 0) (hr_66_9 := hr_66_9) (c_1 := c_3) (c_2 := c_4) (c_3 := c_5)) ?_
  refine ev_st (st' := [.int (σ.1 79 6), .int (σ.1 4 8)]) rfl ?_
  refine ev_b2 (t := 615) (p' := 615) rfl rfl rfl (if_pos c_6) ?_
  exact k
set_option maxHeartbeats 4000000 in
set_option maxRecDepth 100000 in
/-- GameText.items(I)I -/
theorem lz_281 {d : Nat} {σ : st_S} {y_1 : Int32} (hr_1_5 : σ.2.2.1 1 5 = 4) (c_1 : ¬ (σ.1 1 7) = 0) (c_2 : y_1 = 2) : vz_ev P0 (d + 1) 93 0 (lv_args 0 [.ref 1, .int y_1]) [] (hp σ) (.inl (some (.int (σ.1 4 10))), hp (σ)) := by
  refine ev_x (i := .aload_n 0) (len := 1) (p' := 1) (s' := [.ref 1]) rfl rfl rfl ?_
  refine ev_gi (p' := 4) (v := (σ.1 1 7)) rfl rfl rfl ly_1 rfl rfl rfl ?_
  refine ev_b0 (t := 9) (p' := 9) rfl rfl rfl (if_pos c_1) ?_
  refine ev_x (i := .iload_n 1) (len := 1) (p' := 10) (s' := [.int y_1]) rfl rfl rfl ?_
  refine ev_st (st' := [.int 2]) (congrArg (fun z => Value.int z :: []) c_2) ?_
  refine ev_ts (off := 42) (t := 52) rfl rfl (by decide) rfl ?_
  refine ev_x (i := .aload_n 0) (len := 1) (p' := 53) (s' := [.ref 1]) rfl rfl rfl ?_
  refine ev_gr (p' := 56) (v := 4) rfl rfl rfl ly_1 rfl rfl hr_1_5 ?_
  refine ev_gi (p' := 59) (v := (σ.1 4 10)) rfl rfl rfl ly_4 rfl rfl rfl ?_
  exact ev_iret rfl rfl rfl rfl
set_option maxHeartbeats 4000000 in
set_option maxRecDepth 100000 in
/-- GameTextModel.items(I)I -/
theorem lz_282 {d : Nat} {σ : st_S} {y_1 : Int32} (hr_66_9 : σ.2.2.1 66 9 = 79) (c_1 : ¬ (σ.1 66 11) = 0) (c_2 : ¬ y_1 = 0) (c_3 : ¬ y_1 = 1) (c_4 : ¬ (¬ y_1 = 2)) : vz_ev P0 (d + 1) 209 0 (lv_args 0 [.ref 66, .int y_1]) [] (hp σ) (.inl (some (.int (σ.1 79 18))), hp (st_i (σ) 66 0 0)) := by
  refine ev_x (i := .aload_n 0) (len := 1) (p' := 1) (s' := [.ref 66]) rfl rfl rfl ?_
  refine ev_x (i := .iconst 0) (len := 1) (p' := 2) (s' := [.int 0, .ref 66]) rfl rfl rfl ?_
  refine ev_pi (p' := 5) rfl rfl rfl ly_66 rfl rfl rfl rfl ?_
  refine ev_x (i := .aload_n 0) (len := 1) (p' := 6) (s' := [.ref 66]) rfl rfl rfl ?_
  refine ev_gi (p' := 9) (v := (σ.1 66 11)) rfl rfl rfl ly_66 rfl rfl rfl ?_
  refine ev_b0 (t := 16) (p' := 16) rfl rfl rfl (if_pos c_1) ?_
  refine ev_x (i := .iload_n 1) (len := 1) (p' := 17) (s' := [.int y_1]) rfl rfl rfl ?_
  refine ev_b0 (t := 30) (p' := 30) rfl rfl rfl (if_pos c_2) ?_
  refine ev_x (i := .iload_n 1) (len := 1) (p' := 31) (s' := [.int y_1]) rfl rfl rfl ?_
  refine ev_x (i := .iconst 1) (len := 1) (p' := 32) (s' := [.int 1, .int y_1]) rfl rfl rfl ?_
  refine ev_b2 (t := 45) (p' := 45) rfl rfl rfl (if_pos c_3) ?_
  refine ev_x (i := .iload_n 1) (len := 1) (p' := 46) (s' := [.int y_1]) rfl rfl rfl ?_
  refine ev_x (i := .iconst 2) (len := 1) (p' := 47) (s' := [.int 2, .int y_1]) rfl rfl rfl ?_
  refine ev_b2 (t := 60) (p' := 50) rfl rfl rfl (if_neg c_4) ?_
  refine ev_x (i := .aload_n 0) (len := 1) (p' := 51) (s' := [.ref 66]) rfl rfl rfl ?_
  refine ev_gr (p' := 54) (v := 79) rfl rfl rfl ly_66 rfl rfl hr_66_9 ?_
  refine ev_gi (p' := 57) (v := (σ.1 79 18)) rfl rfl rfl ly_79 rfl rfl rfl ?_
  refine ev_x (i := .goto 4) (len := 3) (p' := 61) (s' := [.int (σ.1 79 18)]) rfl rfl rfl ?_
  exact ev_iret rfl rfl rfl rfl
set_option maxHeartbeats 4000000 in
set_option maxRecDepth 100000 in
/-- GameTextLaw.law([I)Z -/
theorem lw_42_a0 {d : Nat} {σ : st_S} {q : vz_O × vz_H} {n L : Nat} {xs : Nat → Int32} (hs : gF σ 0 = .inl (0, L, .inl xs)) (hn : n + 6 ≤ L) (hL : L ≤ 3072) (hr_1_5 : σ.2.2.1 1 5 = 4) (hr_66_9 : σ.2.2.1 66 9 = 79) (c_1 : ¬ (σ.1 1 7) = 0) (c_2 : (xs (n + 1)) = 2) (c_3 : ¬ (σ.1 66 11) = 0) (c_4 : ¬ (xs (n + 1)) = 0) (c_5 : ¬ (xs (n + 1)) = 1) (c_6 : ¬ (¬ (xs (n + 1)) = 2)) (c_7 : (σ.1 4 10) = (σ.1 79 18)) (k : vz_ev P0 (d + 2) 0 615 [(4, .int (nI n)), (3, .ref 187), (2, .ref 66), (1, .ref 1), (0, .ref 0)] [] (hp (st_i (σ) 66 0 0)) q) : vz_ev P0 (d + 2) 0 267 [(4, .int (nI n)), (3, .ref 187), (2, .ref 66), (1, .ref 1), (0, .ref 0)] [] (hp σ) q := by
  refine ev_x (i := .aload_n 1) (len := 1) (p' := 268) (s' := [.ref 1]) rfl rfl rfl ?_
  refine ev_x (i := .aload_n 0) (len := 1) (p' := 269) (s' := [.ref 0, .ref 1]) rfl rfl rfl ?_
  refine ev_x (i := .iload 4) (len := 2) (p' := 271) (s' := [.int (nI n), .ref 0, .ref 1]) rfl rfl rfl ?_
  refine ev_x (i := .iconst 1) (len := 1) (p' := 272) (s' := [.int 1, .int (nI n), .ref 0, .ref 1]) rfl rfl rfl ?_
  refine ev_x (i := .iadd) (len := 1) (p' := 273) (s' := [.int ((nI n) + 1), .ref 0, .ref 1]) rfl rfl rfl ?_
  refine ev_st (st' := [.int (nI (n + 1)), .ref 0, .ref 1]) (congrArg (fun z => Value.int z :: [.ref 0, .ref 1]) (nI_add n 1)) ?_
  refine ev_sg (p' := 274) rfl rfl hs (vp_in_nI (by omega) (by omega)) rfl ?_
  refine ev_st (st' := [.int (xs (n + 1)), .ref 1]) (congrArg (fun z => Value.int (xs z) :: [.ref 1]) (nI_clamp (n := n + 1) (by omega))) ?_
  refine ev_cv (d := d + 1) (As := [.int (xs (n + 1))]) (a := 1) (p' := 277) rfl rfl rfl ly_1 rfl rfl rfl rfl rfl rfl rfl (lz_281 (d := d + 0) (hr_1_5 := hr_1_5) (c_1 := c_1) (c_2 := c_2)) ?_
  refine ev_st (st' := [.int (σ.1 4 10)]) rfl ?_
  refine ev_x (i := .aload_n 2) (len := 1) (p' := 278) (s' := [.ref 66, .int (σ.1 4 10)]) rfl rfl rfl ?_
  refine ev_x (i := .aload_n 0) (len := 1) (p' := 279) (s' := [.ref 0, .ref 66, .int (σ.1 4 10)]) rfl rfl rfl ?_
  refine ev_x (i := .iload 4) (len := 2) (p' := 281) (s' := [.int (nI n), .ref 0, .ref 66, .int (σ.1 4 10)]) rfl rfl rfl ?_
  refine ev_x (i := .iconst 1) (len := 1) (p' := 282) (s' := [.int 1, .int (nI n), .ref 0, .ref 66, .int (σ.1 4 10)]) rfl rfl rfl ?_
  refine ev_x (i := .iadd) (len := 1) (p' := 283) (s' := [.int ((nI n) + 1), .ref 0, .ref 66, .int (σ.1 4 10)]) rfl rfl rfl ?_
  refine ev_st (st' := [.int (nI (n + 1)), .ref 0, .ref 66, .int (σ.1 4 10)]) (congrArg (fun z => Value.int z :: [.ref 0, .ref 66, .int (σ.1 4 10)]) (nI_add n 1)) ?_
  refine ev_sg (p' := 284) rfl rfl hs (vp_in_nI (by omega) (by omega)) rfl ?_
  refine ev_st (st' := [.int (xs (n + 1)), .ref 66, .int (σ.1 4 10)]) (congrArg (fun z => Value.int (xs z) :: [.ref 66, .int (σ.1 4 10)]) (nI_clamp (n := n + 1) (by omega))) ?_
  refine ev_cv (d := d + 1) (As := [.int (xs (n + 1))]) (a := 66) (p' := 287) rfl rfl rfl ly_66 rfl rfl rfl rfl rfl rfl rfl (lz_282 (d := d + 0) (hr_66_9 := hr_66_9) (c_1 := c_3) (c_2 := c_4) (c_3 := c_5) (c_4 := c_6)) ?_
  refine ev_st (st' := [.int (σ.1 79 18), .int (σ.1 4 10)]) rfl ?_
  refine ev_b2 (t := 615) (p' := 615) rfl rfl rfl (if_pos c_7) ?_
  exact k
set_option maxHeartbeats 4000000 in
set_option maxRecDepth 100000 in
/-- GameText.items(I)I -/
theorem lz_284 {d : Nat} {σ : st_S} {y_1 : Int32} (c_1 : ¬ (σ.1 1 7) = 0) (c_2 : (y_1 : Int32).toInt < 0 ∨ 2 < (y_1 : Int32).toInt) : vz_ev P0 (d + 1) 93 0 (lv_args 0 [.ref 1, .int y_1]) [] (hp σ) (.inl (some (.int (-1))), hp (σ)) := by
  refine ev_x (i := .aload_n 0) (len := 1) (p' := 1) (s' := [.ref 1]) rfl rfl rfl ?_
  refine ev_gi (p' := 4) (v := (σ.1 1 7)) rfl rfl rfl ly_1 rfl rfl rfl ?_
  refine ev_b0 (t := 9) (p' := 9) rfl rfl rfl (if_pos c_1) ?_
  refine ev_x (i := .iload_n 1) (len := 1) (p' := 10) (s' := [.int y_1]) rfl rfl rfl ?_
  refine ev_ts (off := 50) (t := 60) rfl rfl (if_pos c_2) rfl ?_
  refine ev_x (i := .iconst (-1)) (len := 1) (p' := 61) (s' := [.int (-1)]) rfl rfl rfl ?_
  exact ev_iret rfl rfl rfl rfl
set_option maxHeartbeats 4000000 in
set_option maxRecDepth 100000 in
/-- GameTextModel.items(I)I -/
theorem lz_285 {d : Nat} {σ : st_S} {y_1 : Int32} (c_1 : ¬ (σ.1 66 11) = 0) (c_2 : ¬ y_1 = 0) (c_3 : ¬ y_1 = 1) (c_4 : ¬ y_1 = 2) : vz_ev P0 (d + 1) 209 0 (lv_args 0 [.ref 66, .int y_1]) [] (hp σ) (.inl (some (.int (-1))), hp (st_i (σ) 66 0 0)) := by
  refine ev_x (i := .aload_n 0) (len := 1) (p' := 1) (s' := [.ref 66]) rfl rfl rfl ?_
  refine ev_x (i := .iconst 0) (len := 1) (p' := 2) (s' := [.int 0, .ref 66]) rfl rfl rfl ?_
  refine ev_pi (p' := 5) rfl rfl rfl ly_66 rfl rfl rfl rfl ?_
  refine ev_x (i := .aload_n 0) (len := 1) (p' := 6) (s' := [.ref 66]) rfl rfl rfl ?_
  refine ev_gi (p' := 9) (v := (σ.1 66 11)) rfl rfl rfl ly_66 rfl rfl rfl ?_
  refine ev_b0 (t := 16) (p' := 16) rfl rfl rfl (if_pos c_1) ?_
  refine ev_x (i := .iload_n 1) (len := 1) (p' := 17) (s' := [.int y_1]) rfl rfl rfl ?_
  refine ev_b0 (t := 30) (p' := 30) rfl rfl rfl (if_pos c_2) ?_
  refine ev_x (i := .iload_n 1) (len := 1) (p' := 31) (s' := [.int y_1]) rfl rfl rfl ?_
  refine ev_x (i := .iconst 1) (len := 1) (p' := 32) (s' := [.int 1, .int y_1]) rfl rfl rfl ?_
  refine ev_b2 (t := 45) (p' := 45) rfl rfl rfl (if_pos c_3) ?_
  refine ev_x (i := .iload_n 1) (len := 1) (p' := 46) (s' := [.int y_1]) rfl rfl rfl ?_
  refine ev_x (i := .iconst 2) (len := 1) (p' := 47) (s' := [.int 2, .int y_1]) rfl rfl rfl ?_
  refine ev_b2 (t := 60) (p' := 60) rfl rfl rfl (if_pos c_4) ?_
  refine ev_x (i := .iconst (-1)) (len := 1) (p' := 61) (s' := [.int (-1)]) rfl rfl rfl ?_
  exact ev_iret rfl rfl rfl rfl
set_option maxHeartbeats 4000000 in
set_option maxRecDepth 100000 in
/-- GameTextLaw.law([I)Z -/
theorem lw_4x_a0 {d : Nat} {σ : st_S} {q : vz_O × vz_H} {n L : Nat} {xs : Nat → Int32} (hs : gF σ 0 = .inl (0, L, .inl xs)) (hn : n + 6 ≤ L) (hL : L ≤ 3072) (c_1 : ¬ (σ.1 1 7) = 0) (c_2 : ((xs (n + 1)) : Int32).toInt < 0 ∨ 2 < ((xs (n + 1)) : Int32).toInt) (c_3 : ¬ (σ.1 66 11) = 0) (c_4 : ¬ (xs (n + 1)) = 0) (c_5 : ¬ (xs (n + 1)) = 1) (c_6 : ¬ (xs (n + 1)) = 2) (k : vz_ev P0 (d + 2) 0 615 [(4, .int (nI n)), (3, .ref 187), (2, .ref 66), (1, .ref 1), (0, .ref 0)] [] (hp (st_i (σ) 66 0 0)) q) : vz_ev P0 (d + 2) 0 267 [(4, .int (nI n)), (3, .ref 187), (2, .ref 66), (1, .ref 1), (0, .ref 0)] [] (hp σ) q := by
  refine ev_x (i := .aload_n 1) (len := 1) (p' := 268) (s' := [.ref 1]) rfl rfl rfl ?_
  refine ev_x (i := .aload_n 0) (len := 1) (p' := 269) (s' := [.ref 0, .ref 1]) rfl rfl rfl ?_
  refine ev_x (i := .iload 4) (len := 2) (p' := 271) (s' := [.int (nI n), .ref 0, .ref 1]) rfl rfl rfl ?_
  refine ev_x (i := .iconst 1) (len := 1) (p' := 272) (s' := [.int 1, .int (nI n), .ref 0, .ref 1]) rfl rfl rfl ?_
  refine ev_x (i := .iadd) (len := 1) (p' := 273) (s' := [.int ((nI n) + 1), .ref 0, .ref 1]) rfl rfl rfl ?_
  refine ev_st (st' := [.int (nI (n + 1)), .ref 0, .ref 1]) (congrArg (fun z => Value.int z :: [.ref 0, .ref 1]) (nI_add n 1)) ?_
  refine ev_sg (p' := 274) rfl rfl hs (vp_in_nI (by omega) (by omega)) rfl ?_
  refine ev_st (st' := [.int (xs (n + 1)), .ref 1]) (congrArg (fun z => Value.int (xs z) :: [.ref 1]) (nI_clamp (n := n + 1) (by omega))) ?_
  refine ev_cv (d := d + 1) (As := [.int (xs (n + 1))]) (a := 1) (p' := 277) rfl rfl rfl ly_1 rfl rfl rfl rfl rfl rfl rfl (lz_284 (d := d + 0) (c_1 := c_1) (c_2 := c_2)) ?_
  refine ev_st (st' := [.int (-1)]) rfl ?_
  refine ev_x (i := .aload_n 2) (len := 1) (p' := 278) (s' := [.ref 66, .int (-1)]) rfl rfl rfl ?_
  refine ev_x (i := .aload_n 0) (len := 1) (p' := 279) (s' := [.ref 0, .ref 66, .int (-1)]) rfl rfl rfl ?_
  refine ev_x (i := .iload 4) (len := 2) (p' := 281) (s' := [.int (nI n), .ref 0, .ref 66, .int (-1)]) rfl rfl rfl ?_
  refine ev_x (i := .iconst 1) (len := 1) (p' := 282) (s' := [.int 1, .int (nI n), .ref 0, .ref 66, .int (-1)]) rfl rfl rfl ?_
  refine ev_x (i := .iadd) (len := 1) (p' := 283) (s' := [.int ((nI n) + 1), .ref 0, .ref 66, .int (-1)]) rfl rfl rfl ?_
  refine ev_st (st' := [.int (nI (n + 1)), .ref 0, .ref 66, .int (-1)]) (congrArg (fun z => Value.int z :: [.ref 0, .ref 66, .int (-1)]) (nI_add n 1)) ?_
  refine ev_sg (p' := 284) rfl rfl hs (vp_in_nI (by omega) (by omega)) rfl ?_
  refine ev_st (st' := [.int (xs (n + 1)), .ref 66, .int (-1)]) (congrArg (fun z => Value.int (xs z) :: [.ref 66, .int (-1)]) (nI_clamp (n := n + 1) (by omega))) ?_
  refine ev_cv (d := d + 1) (As := [.int (xs (n + 1))]) (a := 66) (p' := 287) rfl rfl rfl ly_66 rfl rfl rfl rfl rfl rfl rfl (lz_285 (d := d + 0) (c_1 := c_3) (c_2 := c_4) (c_3 := c_5) (c_4 := c_6)) ?_
  refine ev_st (st' := [.int (-1), .int (-1)]) rfl ?_
  refine ev_b2 (t := 615) (p' := 615) rfl rfl rfl (by decide) ?_
  exact k
set_option maxHeartbeats 4000000 in
set_option maxRecDepth 100000 in
/-- GameText.end(I)I -/
theorem lz_287 {d : Nat} {σ : st_S} {y_1 : Int32} (c_1 : y_1 < 0) : vz_ev P0 (d + 8) 105 0 (lv_args 0 [.ref 1, .int y_1]) [] (hp σ) (.inr "java/lang/IllegalArgumentException", hp (st_n (σ) 1 6)) := by
  refine ev_x (i := .iload_n 1) (len := 1) (p' := 1) (s' := [.int y_1]) rfl rfl rfl ?_
  refine ev_b0 (t := 10) (p' := 10) rfl rfl rfl (if_pos c_1) ?_
  exact ev_thr rfl rfl rfl
set_option maxHeartbeats 4000000 in
set_option maxRecDepth 100000 in
/-- GameTextLaw.end(LGameText;I[J)I -/
theorem lz_288 {d : Nat} {σ : st_S} {y_1 : Int32} (c_1 : y_1 < 0) : vz_ev P0 (d + 9) 104 0 (lv_args 0 [.ref 1, .int y_1, .ref 187]) [] (hp σ) (.inl (some (.int 1)), hp (st_n (σ) 1 6)) := by
  refine ev_x (i := .aload_n 2) (len := 1) (p' := 1) (s' := [.ref 187]) rfl rfl rfl ?_
  refine ev_x (i := .iconst 0) (len := 1) (p' := 2) (s' := [.int 0, .ref 187]) rfl rfl rfl ?_
  refine ev_x (i := .aload_n 0) (len := 1) (p' := 3) (s' := [.ref 1, .int 0, .ref 187]) rfl rfl rfl ?_
  refine ev_x (i := .iload_n 1) (len := 1) (p' := 4) (s' := [.int y_1, .ref 1, .int 0, .ref 187]) rfl rfl rfl ?_
  refine ev_caught (d := d + 8) (As := [.int y_1]) (a := 1) (t := ("java/lang/IllegalArgumentException", 13, 3)) (E := "java/lang/IllegalArgumentException") rfl rfl rfl rfl (hp_obj _ ly_1) rfl rfl rfl rfl rfl rfl (beq_self_eq_true _) (lz_287 (d := d + 0) (c_1 := c_1)) ?_
  refine ev_lv (lv' := [(0, .ref 1), (1, .int y_1), (2, .ref 187)]) rfl ?_
  refine ev_pc (pc' := 13) rfl ?_
  refine ev_x (i := .iconst 1) (len := 1) (p' := 14) (s' := [.int 1]) rfl rfl rfl ?_
  exact ev_iret rfl rfl rfl rfl
set_option maxHeartbeats 4000000 in
set_option maxRecDepth 100000 in
/-- GameTextModel.end(I)I -/
theorem lz_289 {d : Nat} {σ : st_S} {y_1 : Int32} (c_1 : y_1 < 0) : vz_ev P0 (d + 1) 134 0 (lv_args 0 [.ref 66, .int y_1]) [] (hp σ) (.inl (some (.int 0)), hp (st_i (σ) 66 0 1)) := by
  refine ev_x (i := .aload_n 0) (len := 1) (p' := 1) (s' := [.ref 66]) rfl rfl rfl ?_
  refine ev_x (i := .iload_n 1) (len := 1) (p' := 2) (s' := [.int y_1, .ref 66]) rfl rfl rfl ?_
  refine ev_b0 (t := 23) (p' := 23) rfl rfl rfl (if_pos c_1) ?_
  refine ev_x (i := .iconst 1) (len := 1) (p' := 24) (s' := [.int 1, .ref 66]) rfl rfl rfl ?_
  refine ev_x (i := .goto 4) (len := 3) (p' := 28) (s' := [.int 1, .ref 66]) rfl rfl rfl ?_
  refine ev_pi (p' := 31) rfl rfl rfl ly_66 rfl rfl rfl rfl ?_
  refine ev_x (i := .aload_n 0) (len := 1) (p' := 32) (s' := [.ref 66]) rfl rfl rfl ?_
  refine ev_gi (p' := 35) (v := 1) rfl rfl rfl ly_66 rfl rfl rfl ?_
  refine ev_b0 (t := 40) (p' := 38) rfl rfl rfl (by decide) ?_
  refine ev_x (i := .iconst 0) (len := 1) (p' := 39) (s' := [.int 0]) rfl rfl rfl ?_
  exact ev_iret rfl rfl rfl rfl
set_option maxHeartbeats 4000000 in
set_option maxRecDepth 100000 in
/-- GameTextLaw.law([I)Z -/
theorem lw_1n_a0 {d : Nat} {σ : st_S} {q : vz_O × vz_H} {n L : Nat} {xs : Nat → Int32} (hs : gF σ 0 = .inl (0, L, .inl xs)) (hn : n + 6 ≤ L) (hL : L ≤ 3072) (c_1 : (xs (n + 1)) < 0) (k : vz_ev P0 (d + 10) 0 615 [(6, .int 0), (5, .int 1), (4, .int (nI n)), (3, .ref 187), (2, .ref 66), (1, .ref 1), (0, .ref 0)] [] (hp (st_i (st_n (σ) 1 6) 66 0 1)) q) : vz_ev P0 (d + 10) 0 185 [(4, .int (nI n)), (3, .ref 187), (2, .ref 66), (1, .ref 1), (0, .ref 0)] [] (hp σ) q := by
  refine ev_x (i := .aload_n 1) (len := 1) (p' := 186) (s' := [.ref 1]) rfl rfl rfl ?_
  refine ev_x (i := .aload_n 0) (len := 1) (p' := 187) (s' := [.ref 0, .ref 1]) rfl rfl rfl ?_
  refine ev_x (i := .iload 4) (len := 2) (p' := 189) (s' := [.int (nI n), .ref 0, .ref 1]) rfl rfl rfl ?_
  refine ev_x (i := .iconst 1) (len := 1) (p' := 190) (s' := [.int 1, .int (nI n), .ref 0, .ref 1]) rfl rfl rfl ?_
  refine ev_x (i := .iadd) (len := 1) (p' := 191) (s' := [.int ((nI n) + 1), .ref 0, .ref 1]) rfl rfl rfl ?_
  refine ev_st (st' := [.int (nI (n + 1)), .ref 0, .ref 1]) (congrArg (fun z => Value.int z :: [.ref 0, .ref 1]) (nI_add n 1)) ?_
  refine ev_sg (p' := 192) rfl rfl hs (vp_in_nI (by omega) (by omega)) rfl ?_
  refine ev_st (st' := [.int (xs (n + 1)), .ref 1]) (congrArg (fun z => Value.int (xs z) :: [.ref 1]) (nI_clamp (n := n + 1) (by omega))) ?_
  refine ev_x (i := .aload_n 3) (len := 1) (p' := 193) (s' := [.ref 187, .int (xs (n + 1)), .ref 1]) rfl rfl rfl ?_
  refine ev_callS (d := d + 9) (As := [.ref 1, .int (xs (n + 1)), .ref 187]) rfl rfl rfl (by decide) rfl rfl rfl rfl rfl (lz_288 (d := d + 0) (c_1 := c_1)) ?_
  refine ev_st (st' := [.int 1]) rfl ?_
  refine ev_pc (pc' := 196) rfl ?_
  refine ev_x (i := .istore 5) (len := 2) (p' := 198) (s' := []) (l' := [(5, .int 1), (4, .int (nI n)), (3, .ref 187), (2, .ref 66), (1, .ref 1), (0, .ref 0)]) rfl rfl rfl ?_
  refine ev_x (i := .aload_n 2) (len := 1) (p' := 199) (s' := [.ref 66]) rfl rfl rfl ?_
  refine ev_x (i := .aload_n 0) (len := 1) (p' := 200) (s' := [.ref 0, .ref 66]) rfl rfl rfl ?_
  refine ev_x (i := .iload 4) (len := 2) (p' := 202) (s' := [.int (nI n), .ref 0, .ref 66]) rfl rfl rfl ?_
  refine ev_x (i := .iconst 1) (len := 1) (p' := 203) (s' := [.int 1, .int (nI n), .ref 0, .ref 66]) rfl rfl rfl ?_
  refine ev_x (i := .iadd) (len := 1) (p' := 204) (s' := [.int ((nI n) + 1), .ref 0, .ref 66]) rfl rfl rfl ?_
  refine ev_st (st' := [.int (nI (n + 1)), .ref 0, .ref 66]) (congrArg (fun z => Value.int z :: [.ref 0, .ref 66]) (nI_add n 1)) ?_
  refine ev_sg (p' := 205) rfl rfl hs (vp_in_nI (by omega) (by omega)) rfl ?_
  refine ev_st (st' := [.int (xs (n + 1)), .ref 66]) (congrArg (fun z => Value.int (xs z) :: [.ref 66]) (nI_clamp (n := n + 1) (by omega))) ?_
  refine ev_cv (d := d + 9) (As := [.int (xs (n + 1))]) (a := 66) (p' := 208) rfl rfl rfl ly_66 rfl rfl rfl rfl rfl rfl rfl (lz_289 (d := d + 8) (c_1 := c_1)) ?_
  refine ev_st (st' := [.int 0]) rfl ?_
  refine ev_x (i := .istore 6) (len := 2) (p' := 210) (s' := []) (l' := [(6, .int 0), (5, .int 1), (4, .int (nI n)), (3, .ref 187), (2, .ref 66), (1, .ref 1), (0, .ref 0)]) rfl rfl rfl ?_
  refine ev_x (i := .aload_n 2) (len := 1) (p' := 211) (s' := [.ref 66]) rfl rfl rfl ?_
  refine ev_cv (d := d + 9) (As := []) (a := 66) (p' := 214) rfl rfl rfl ly_66 rfl rfl rfl rfl rfl rfl rfl (lz_246 (d := d + 8) (hi_66_0 := rfl)) ?_
  refine ev_st (st' := [.int 1]) rfl ?_
  refine ev_x (i := .iload 5) (len := 2) (p' := 216) (s' := [.int 1, .int 1]) rfl rfl rfl ?_
  refine ev_b2 (t := 221) (p' := 221) rfl rfl rfl (by decide) ?_
  refine ev_x (i := .iload 5) (len := 2) (p' := 223) (s' := [.int 1]) rfl rfl rfl ?_
  refine ev_b0 (t := 238) (p' := 238) rfl rfl rfl (by decide) ?_
  refine ev_x (i := .goto 377) (len := 3) (p' := 615) (s' := []) rfl rfl rfl ?_
  exact k
set_option maxHeartbeats 4000000 in
set_option maxRecDepth 100000 in
/-- GameText.end(I)I -/
theorem lz_292 {d : Nat} {σ : st_S} {y_1 : Int32} (c_1 : ¬ (y_1 < 0)) (c_2 : ¬ (y_1 ≤ 20)) : vz_ev P0 (d + 8) 105 0 (lv_args 0 [.ref 1, .int y_1]) [] (hp σ) (.inr "java/lang/IllegalArgumentException", hp (st_n (σ) 1 6)) := by
  refine ev_x (i := .iload_n 1) (len := 1) (p' := 1) (s' := [.int y_1]) rfl rfl rfl ?_
  refine ev_b0 (t := 10) (p' := 4) rfl rfl rfl (if_neg c_1) ?_
  refine ev_x (i := .iload_n 1) (len := 1) (p' := 5) (s' := [.int y_1]) rfl rfl rfl ?_
  refine ev_x (i := .bipush 20) (len := 2) (p' := 7) (s' := [.int 20, .int y_1]) rfl rfl rfl ?_
  refine ev_b2 (t := 20) (p' := 10) rfl rfl rfl (if_neg c_2) ?_
  exact ev_thr rfl rfl rfl
set_option maxHeartbeats 4000000 in
set_option maxRecDepth 100000 in
/-- GameTextLaw.end(LGameText;I[J)I -/
theorem lz_293 {d : Nat} {σ : st_S} {y_1 : Int32} (c_1 : ¬ (y_1 < 0)) (c_2 : ¬ (y_1 ≤ 20)) : vz_ev P0 (d + 9) 104 0 (lv_args 0 [.ref 1, .int y_1, .ref 187]) [] (hp σ) (.inl (some (.int 1)), hp (st_n (σ) 1 6)) := by
  refine ev_x (i := .aload_n 2) (len := 1) (p' := 1) (s' := [.ref 187]) rfl rfl rfl ?_
  refine ev_x (i := .iconst 0) (len := 1) (p' := 2) (s' := [.int 0, .ref 187]) rfl rfl rfl ?_
  refine ev_x (i := .aload_n 0) (len := 1) (p' := 3) (s' := [.ref 1, .int 0, .ref 187]) rfl rfl rfl ?_
  refine ev_x (i := .iload_n 1) (len := 1) (p' := 4) (s' := [.int y_1, .ref 1, .int 0, .ref 187]) rfl rfl rfl ?_
  refine ev_caught (d := d + 8) (As := [.int y_1]) (a := 1) (t := ("java/lang/IllegalArgumentException", 13, 3)) (E := "java/lang/IllegalArgumentException") rfl rfl rfl rfl (hp_obj _ ly_1) rfl rfl rfl rfl rfl rfl (beq_self_eq_true _) (lz_292 (d := d + 0) (c_1 := c_1) (c_2 := c_2)) ?_
  refine ev_lv (lv' := [(0, .ref 1), (1, .int y_1), (2, .ref 187)]) rfl ?_
  refine ev_pc (pc' := 13) rfl ?_
  refine ev_x (i := .iconst 1) (len := 1) (p' := 14) (s' := [.int 1]) rfl rfl rfl ?_
  exact ev_iret rfl rfl rfl rfl
set_option maxHeartbeats 4000000 in
set_option maxRecDepth 100000 in
/-- GameTextModel.end(I)I -/
theorem lz_294 {d : Nat} {σ : st_S} {y_1 : Int32} (c_1 : ¬ (y_1 < 0)) (c_2 : 20 < y_1) : vz_ev P0 (d + 1) 134 0 (lv_args 0 [.ref 66, .int y_1]) [] (hp σ) (.inl (some (.int 0)), hp (st_i (σ) 66 0 1)) := by
  refine ev_x (i := .aload_n 0) (len := 1) (p' := 1) (s' := [.ref 66]) rfl rfl rfl ?_
  refine ev_x (i := .iload_n 1) (len := 1) (p' := 2) (s' := [.int y_1, .ref 66]) rfl rfl rfl ?_
  refine ev_b0 (t := 23) (p' := 5) rfl rfl rfl (if_neg c_1) ?_
  refine ev_x (i := .iload_n 1) (len := 1) (p' := 6) (s' := [.int y_1, .ref 66]) rfl rfl rfl ?_
  refine ev_x (i := .bipush 20) (len := 2) (p' := 8) (s' := [.int 20, .int y_1, .ref 66]) rfl rfl rfl ?_
  refine ev_b2 (t := 23) (p' := 23) rfl rfl rfl (if_pos c_2) ?_
  refine ev_x (i := .iconst 1) (len := 1) (p' := 24) (s' := [.int 1, .ref 66]) rfl rfl rfl ?_
  refine ev_x (i := .goto 4) (len := 3) (p' := 28) (s' := [.int 1, .ref 66]) rfl rfl rfl ?_
  refine ev_pi (p' := 31) rfl rfl rfl ly_66 rfl rfl rfl rfl ?_
  refine ev_x (i := .aload_n 0) (len := 1) (p' := 32) (s' := [.ref 66]) rfl rfl rfl ?_
  refine ev_gi (p' := 35) (v := 1) rfl rfl rfl ly_66 rfl rfl rfl ?_
  refine ev_b0 (t := 40) (p' := 38) rfl rfl rfl (by decide) ?_
  refine ev_x (i := .iconst 0) (len := 1) (p' := 39) (s' := [.int 0]) rfl rfl rfl ?_
  exact ev_iret rfl rfl rfl rfl
set_option maxHeartbeats 4000000 in
set_option maxRecDepth 100000 in
/-- GameTextLaw.law([I)Z -/
theorem lw_1g_a0 {d : Nat} {σ : st_S} {q : vz_O × vz_H} {n L : Nat} {xs : Nat → Int32} (hs : gF σ 0 = .inl (0, L, .inl xs)) (hn : n + 6 ≤ L) (hL : L ≤ 3072) (c_1 : ¬ ((xs (n + 1)) < 0)) (c_2 : ¬ ((xs (n + 1)) ≤ 20)) (c_3 : 20 < (xs (n + 1))) (k : vz_ev P0 (d + 10) 0 615 [(6, .int 0), (5, .int 1), (4, .int (nI n)), (3, .ref 187), (2, .ref 66), (1, .ref 1), (0, .ref 0)] [] (hp (st_i (st_n (σ) 1 6) 66 0 1)) q) : vz_ev P0 (d + 10) 0 185 [(4, .int (nI n)), (3, .ref 187), (2, .ref 66), (1, .ref 1), (0, .ref 0)] [] (hp σ) q := by
  refine ev_x (i := .aload_n 1) (len := 1) (p' := 186) (s' := [.ref 1]) rfl rfl rfl ?_
  refine ev_x (i := .aload_n 0) (len := 1) (p' := 187) (s' := [.ref 0, .ref 1]) rfl rfl rfl ?_
  refine ev_x (i := .iload 4) (len := 2) (p' := 189) (s' := [.int (nI n), .ref 0, .ref 1]) rfl rfl rfl ?_
  refine ev_x (i := .iconst 1) (len := 1) (p' := 190) (s' := [.int 1, .int (nI n), .ref 0, .ref 1]) rfl rfl rfl ?_
  refine ev_x (i := .iadd) (len := 1) (p' := 191) (s' := [.int ((nI n) + 1), .ref 0, .ref 1]) rfl rfl rfl ?_
  refine ev_st (st' := [.int (nI (n + 1)), .ref 0, .ref 1]) (congrArg (fun z => Value.int z :: [.ref 0, .ref 1]) (nI_add n 1)) ?_
  refine ev_sg (p' := 192) rfl rfl hs (vp_in_nI (by omega) (by omega)) rfl ?_
  refine ev_st (st' := [.int (xs (n + 1)), .ref 1]) (congrArg (fun z => Value.int (xs z) :: [.ref 1]) (nI_clamp (n := n + 1) (by omega))) ?_
  refine ev_x (i := .aload_n 3) (len := 1) (p' := 193) (s' := [.ref 187, .int (xs (n + 1)), .ref 1]) rfl rfl rfl ?_
  refine ev_callS (d := d + 9) (As := [.ref 1, .int (xs (n + 1)), .ref 187]) rfl rfl rfl (by decide) rfl rfl rfl rfl rfl (lz_293 (d := d + 0) (c_1 := c_1) (c_2 := c_2)) ?_
  refine ev_st (st' := [.int 1]) rfl ?_
  refine ev_pc (pc' := 196) rfl ?_
  refine ev_x (i := .istore 5) (len := 2) (p' := 198) (s' := []) (l' := [(5, .int 1), (4, .int (nI n)), (3, .ref 187), (2, .ref 66), (1, .ref 1), (0, .ref 0)]) rfl rfl rfl ?_
  refine ev_x (i := .aload_n 2) (len := 1) (p' := 199) (s' := [.ref 66]) rfl rfl rfl ?_
  refine ev_x (i := .aload_n 0) (len := 1) (p' := 200) (s' := [.ref 0, .ref 66]) rfl rfl rfl ?_
  refine ev_x (i := .iload 4) (len := 2) (p' := 202) (s' := [.int (nI n), .ref 0, .ref 66]) rfl rfl rfl ?_
  refine ev_x (i := .iconst 1) (len := 1) (p' := 203) (s' := [.int 1, .int (nI n), .ref 0, .ref 66]) rfl rfl rfl ?_
  refine ev_x (i := .iadd) (len := 1) (p' := 204) (s' := [.int ((nI n) + 1), .ref 0, .ref 66]) rfl rfl rfl ?_
  refine ev_st (st' := [.int (nI (n + 1)), .ref 0, .ref 66]) (congrArg (fun z => Value.int z :: [.ref 0, .ref 66]) (nI_add n 1)) ?_
  refine ev_sg (p' := 205) rfl rfl hs (vp_in_nI (by omega) (by omega)) rfl ?_
  refine ev_st (st' := [.int (xs (n + 1)), .ref 66]) (congrArg (fun z => Value.int (xs z) :: [.ref 66]) (nI_clamp (n := n + 1) (by omega))) ?_
  refine ev_cv (d := d + 9) (As := [.int (xs (n + 1))]) (a := 66) (p' := 208) rfl rfl rfl ly_66 rfl rfl rfl rfl rfl rfl rfl (lz_294 (d := d + 8) (c_1 := c_1) (c_2 := c_3)) ?_
  refine ev_st (st' := [.int 0]) rfl ?_
  refine ev_x (i := .istore 6) (len := 2) (p' := 210) (s' := []) (l' := [(6, .int 0), (5, .int 1), (4, .int (nI n)), (3, .ref 187), (2, .ref 66), (1, .ref 1), (0, .ref 0)]) rfl rfl rfl ?_
  refine ev_x (i := .aload_n 2) (len := 1) (p' := 211) (s' := [.ref 66]) rfl rfl rfl ?_
  refine ev_cv (d := d + 9) (As := []) (a := 66) (p' := 214) rfl rfl rfl ly_66 rfl rfl rfl rfl rfl rfl rfl (lz_246 (d := d + 8) (hi_66_0 := rfl)) ?_
  refine ev_st (st' := [.int 1]) rfl ?_
  refine ev_x (i := .iload 5) (len := 2) (p' := 216) (s' := [.int 1, .int 1]) rfl rfl rfl ?_
  refine ev_b2 (t := 221) (p' := 221) rfl rfl rfl (by decide) ?_
  refine ev_x (i := .iload 5) (len := 2) (p' := 223) (s' := [.int 1]) rfl rfl rfl ?_
  refine ev_b0 (t := 238) (p' := 238) rfl rfl rfl (by decide) ?_
  refine ev_x (i := .goto 377) (len := 3) (p' := 615) (s' := []) rfl rfl rfl ?_
  exact k
set_option maxHeartbeats 4000000 in
set_option maxRecDepth 100000 in
/-- GameText.end(I)I -/
theorem lz_297 {d : Nat} {σ : st_S} {y_1 : Int32} (c_1 : ¬ (y_1 < 0)) (c_2 : y_1 ≤ 20) (c_3 : ¬ (20 ≤ (σ.1 2 1))) : vz_ev P0 (d + 8) 105 0 (lv_args 0 [.ref 1, .int y_1]) [] (hp σ) (.inr "java/lang/IllegalArgumentException", hp (st_n (σ) 1 6)) := by
  refine ev_x (i := .iload_n 1) (len := 1) (p' := 1) (s' := [.int y_1]) rfl rfl rfl ?_
  refine ev_b0 (t := 10) (p' := 4) rfl rfl rfl (if_neg c_1) ?_
  refine ev_x (i := .iload_n 1) (len := 1) (p' := 5) (s' := [.int y_1]) rfl rfl rfl ?_
  refine ev_x (i := .bipush 20) (len := 2) (p' := 7) (s' := [.int 20, .int y_1]) rfl rfl rfl ?_
  refine ev_b2 (t := 20) (p' := 20) rfl rfl rfl (if_pos c_2) ?_
  refine ev_x (i := .aload_n 0) (len := 1) (p' := 21) (s' := [.ref 1]) rfl rfl rfl ?_
  refine ev_gc (p' := 24) (v := 2) rfl rfl rfl ly_1 rfl rfl ?_
  refine ev_gi (p' := 27) (v := (σ.1 2 1)) rfl rfl rfl ly_2 rfl rfl rfl ?_
  refine ev_x (i := .bipush 20) (len := 2) (p' := 29) (s' := [.int 20, .int (σ.1 2 1)]) rfl rfl rfl ?_
  refine ev_b2 (t := 42) (p' := 32) rfl rfl rfl (if_neg c_3) ?_
  exact ev_thr rfl rfl rfl
set_option maxHeartbeats 4000000 in
set_option maxRecDepth 100000 in
/-- GameTextLaw.end(LGameText;I[J)I -/
theorem lz_298 {d : Nat} {σ : st_S} {y_1 : Int32} (c_1 : ¬ (y_1 < 0)) (c_2 : y_1 ≤ 20) (c_3 : ¬ (20 ≤ (σ.1 2 1))) : vz_ev P0 (d + 9) 104 0 (lv_args 0 [.ref 1, .int y_1, .ref 187]) [] (hp σ) (.inl (some (.int 1)), hp (st_n (σ) 1 6)) := by
  refine ev_x (i := .aload_n 2) (len := 1) (p' := 1) (s' := [.ref 187]) rfl rfl rfl ?_
  refine ev_x (i := .iconst 0) (len := 1) (p' := 2) (s' := [.int 0, .ref 187]) rfl rfl rfl ?_
  refine ev_x (i := .aload_n 0) (len := 1) (p' := 3) (s' := [.ref 1, .int 0, .ref 187]) rfl rfl rfl ?_
  refine ev_x (i := .iload_n 1) (len := 1) (p' := 4) (s' := [.int y_1, .ref 1, .int 0, .ref 187]) rfl rfl rfl ?_
  refine ev_caught (d := d + 8) (As := [.int y_1]) (a := 1) (t := ("java/lang/IllegalArgumentException", 13, 3)) (E := "java/lang/IllegalArgumentException") rfl rfl rfl rfl (hp_obj _ ly_1) rfl rfl rfl rfl rfl rfl (beq_self_eq_true _) (lz_297 (d := d + 0) (c_1 := c_1) (c_2 := c_2) (c_3 := c_3)) ?_
  refine ev_lv (lv' := [(0, .ref 1), (1, .int y_1), (2, .ref 187)]) rfl ?_
  refine ev_pc (pc' := 13) rfl ?_
  refine ev_x (i := .iconst 1) (len := 1) (p' := 14) (s' := [.int 1]) rfl rfl rfl ?_
  exact ev_iret rfl rfl rfl rfl
set_option maxHeartbeats 4000000 in
set_option maxRecDepth 100000 in
/-- GameTextModel.end(I)I -/
theorem lz_299 {d : Nat} {σ : st_S} {y_1 : Int32} (hr_66_1 : σ.2.2.1 66 1 = 67) (c_1 : ¬ (y_1 < 0)) (c_2 : ¬ (20 < y_1)) (c_3 : ¬ (20 ≤ (σ.1 67 1))) : vz_ev P0 (d + 1) 134 0 (lv_args 0 [.ref 66, .int y_1]) [] (hp σ) (.inl (some (.int 0)), hp (st_i (σ) 66 0 1)) := by
  refine ev_x (i := .aload_n 0) (len := 1) (p' := 1) (s' := [.ref 66]) rfl rfl rfl ?_
  refine ev_x (i := .iload_n 1) (len := 1) (p' := 2) (s' := [.int y_1, .ref 66]) rfl rfl rfl ?_
  refine ev_b0 (t := 23) (p' := 5) rfl rfl rfl (if_neg c_1) ?_
  refine ev_x (i := .iload_n 1) (len := 1) (p' := 6) (s' := [.int y_1, .ref 66]) rfl rfl rfl ?_
  refine ev_x (i := .bipush 20) (len := 2) (p' := 8) (s' := [.int 20, .int y_1, .ref 66]) rfl rfl rfl ?_
  refine ev_b2 (t := 23) (p' := 11) rfl rfl rfl (if_neg c_2) ?_
  refine ev_x (i := .aload_n 0) (len := 1) (p' := 12) (s' := [.ref 66, .ref 66]) rfl rfl rfl ?_
  refine ev_gr (p' := 15) (v := 67) rfl rfl rfl ly_66 rfl rfl hr_66_1 ?_
  refine ev_gi (p' := 18) (v := (σ.1 67 1)) rfl rfl rfl ly_67 rfl rfl rfl ?_
  refine ev_x (i := .bipush 20) (len := 2) (p' := 20) (s' := [.int 20, .int (σ.1 67 1), .ref 66]) rfl rfl rfl ?_
  refine ev_b2 (t := 27) (p' := 23) rfl rfl rfl (if_neg c_3) ?_
  refine ev_x (i := .iconst 1) (len := 1) (p' := 24) (s' := [.int 1, .ref 66]) rfl rfl rfl ?_
  refine ev_x (i := .goto 4) (len := 3) (p' := 28) (s' := [.int 1, .ref 66]) rfl rfl rfl ?_
  refine ev_pi (p' := 31) rfl rfl rfl ly_66 rfl rfl rfl rfl ?_
  refine ev_x (i := .aload_n 0) (len := 1) (p' := 32) (s' := [.ref 66]) rfl rfl rfl ?_
  refine ev_gi (p' := 35) (v := 1) rfl rfl rfl ly_66 rfl rfl rfl ?_
  refine ev_b0 (t := 40) (p' := 38) rfl rfl rfl (by decide) ?_
  refine ev_x (i := .iconst 0) (len := 1) (p' := 39) (s' := [.int 0]) rfl rfl rfl ?_
  exact ev_iret rfl rfl rfl rfl
set_option maxHeartbeats 4000000 in
set_option maxRecDepth 100000 in
/-- GameTextLaw.law([I)Z -/
theorem lw_1f_a0 {d : Nat} {σ : st_S} {q : vz_O × vz_H} {n L : Nat} {xs : Nat → Int32} (hs : gF σ 0 = .inl (0, L, .inl xs)) (hn : n + 6 ≤ L) (hL : L ≤ 3072) (hr_66_1 : σ.2.2.1 66 1 = 67) (c_1 : ¬ ((xs (n + 1)) < 0)) (c_2 : (xs (n + 1)) ≤ 20) (c_3 : ¬ (20 ≤ (σ.1 2 1))) (c_4 : ¬ (20 < (xs (n + 1)))) (c_5 : ¬ (20 ≤ (σ.1 67 1))) (k : vz_ev P0 (d + 10) 0 615 [(6, .int 0), (5, .int 1), (4, .int (nI n)), (3, .ref 187), (2, .ref 66), (1, .ref 1), (0, .ref 0)] [] (hp (st_i (st_n (σ) 1 6) 66 0 1)) q) : vz_ev P0 (d + 10) 0 185 [(4, .int (nI n)), (3, .ref 187), (2, .ref 66), (1, .ref 1), (0, .ref 0)] [] (hp σ) q := by
  refine ev_x (i := .aload_n 1) (len := 1) (p' := 186) (s' := [.ref 1]) rfl rfl rfl ?_
  refine ev_x (i := .aload_n 0) (len := 1) (p' := 187) (s' := [.ref 0, .ref 1]) rfl rfl rfl ?_
  refine ev_x (i := .iload 4) (len := 2) (p' := 189) (s' := [.int (nI n), .ref 0, .ref 1]) rfl rfl rfl ?_
  refine ev_x (i := .iconst 1) (len := 1) (p' := 190) (s' := [.int 1, .int (nI n), .ref 0, .ref 1]) rfl rfl rfl ?_
  refine ev_x (i := .iadd) (len := 1) (p' := 191) (s' := [.int ((nI n) + 1), .ref 0, .ref 1]) rfl rfl rfl ?_
  refine ev_st (st' := [.int (nI (n + 1)), .ref 0, .ref 1]) (congrArg (fun z => Value.int z :: [.ref 0, .ref 1]) (nI_add n 1)) ?_
  refine ev_sg (p' := 192) rfl rfl hs (vp_in_nI (by omega) (by omega)) rfl ?_
  refine ev_st (st' := [.int (xs (n + 1)), .ref 1]) (congrArg (fun z => Value.int (xs z) :: [.ref 1]) (nI_clamp (n := n + 1) (by omega))) ?_
  refine ev_x (i := .aload_n 3) (len := 1) (p' := 193) (s' := [.ref 187, .int (xs (n + 1)), .ref 1]) rfl rfl rfl ?_
  refine ev_callS (d := d + 9) (As := [.ref 1, .int (xs (n + 1)), .ref 187]) rfl rfl rfl (by decide) rfl rfl rfl rfl rfl (lz_298 (d := d + 0) (c_1 := c_1) (c_2 := c_2) (c_3 := c_3)) ?_
  refine ev_st (st' := [.int 1]) rfl ?_
  refine ev_pc (pc' := 196) rfl ?_
  refine ev_x (i := .istore 5) (len := 2) (p' := 198) (s' := []) (l' := [(5, .int 1), (4, .int (nI n)), (3, .ref 187), (2, .ref 66), (1, .ref 1), (0, .ref 0)]) rfl rfl rfl ?_
  refine ev_x (i := .aload_n 2) (len := 1) (p' := 199) (s' := [.ref 66]) rfl rfl rfl ?_
  refine ev_x (i := .aload_n 0) (len := 1) (p' := 200) (s' := [.ref 0, .ref 66]) rfl rfl rfl ?_
  refine ev_x (i := .iload 4) (len := 2) (p' := 202) (s' := [.int (nI n), .ref 0, .ref 66]) rfl rfl rfl ?_
  refine ev_x (i := .iconst 1) (len := 1) (p' := 203) (s' := [.int 1, .int (nI n), .ref 0, .ref 66]) rfl rfl rfl ?_
  refine ev_x (i := .iadd) (len := 1) (p' := 204) (s' := [.int ((nI n) + 1), .ref 0, .ref 66]) rfl rfl rfl ?_
  refine ev_st (st' := [.int (nI (n + 1)), .ref 0, .ref 66]) (congrArg (fun z => Value.int z :: [.ref 0, .ref 66]) (nI_add n 1)) ?_
  refine ev_sg (p' := 205) rfl rfl hs (vp_in_nI (by omega) (by omega)) rfl ?_
  refine ev_st (st' := [.int (xs (n + 1)), .ref 66]) (congrArg (fun z => Value.int (xs z) :: [.ref 66]) (nI_clamp (n := n + 1) (by omega))) ?_
  refine ev_cv (d := d + 9) (As := [.int (xs (n + 1))]) (a := 66) (p' := 208) rfl rfl rfl ly_66 rfl rfl rfl rfl rfl rfl rfl (lz_299 (d := d + 8) (hr_66_1 := hr_66_1) (c_1 := c_1) (c_2 := c_4) (c_3 := c_5)) ?_
  refine ev_st (st' := [.int 0]) rfl ?_
  refine ev_x (i := .istore 6) (len := 2) (p' := 210) (s' := []) (l' := [(6, .int 0), (5, .int 1), (4, .int (nI n)), (3, .ref 187), (2, .ref 66), (1, .ref 1), (0, .ref 0)]) rfl rfl rfl ?_
  refine ev_x (i := .aload_n 2) (len := 1) (p' := 211) (s' := [.ref 66]) rfl rfl rfl ?_
  refine ev_cv (d := d + 9) (As := []) (a := 66) (p' := 214) rfl rfl rfl ly_66 rfl rfl rfl rfl rfl rfl rfl (lz_246 (d := d + 8) (hi_66_0 := rfl)) ?_
  refine ev_st (st' := [.int 1]) rfl ?_
  refine ev_x (i := .iload 5) (len := 2) (p' := 216) (s' := [.int 1, .int 1]) rfl rfl rfl ?_
  refine ev_b2 (t := 221) (p' := 221) rfl rfl rfl (by decide) ?_
  refine ev_x (i := .iload 5) (len := 2) (p' := 223) (s' := [.int 1]) rfl rfl rfl ?_
  refine ev_b0 (t := 238) (p' := 238) rfl rfl rfl (by decide) ?_
  refine ev_x (i := .goto 377) (len := 3) (p' := 615) (s' := []) rfl rfl rfl ?_
  exact k
set_option maxHeartbeats 4000000 in
set_option maxRecDepth 100000 in
/-- GameText.end(I)I -/
theorem lz_302 {d : Nat} {σ : st_S} {y_1 : Int32} (c_1 : ¬ (y_1 < 0)) (c_2 : y_1 ≤ 20) (c_3 : 20 ≤ (σ.1 2 1)) : vz_ev P0 (d + 1) 105 0 (lv_args 0 [.ref 1, .int y_1]) [] (hp σ) (.inl (some (.int (((σ.1 2 1) - 20) + y_1))), hp (st_i (σ) 2 1 (((σ.1 2 1) - 20) + y_1))) := by
  refine ev_x (i := .iload_n 1) (len := 1) (p' := 1) (s' := [.int y_1]) rfl rfl rfl ?_
  refine ev_b0 (t := 10) (p' := 4) rfl rfl rfl (if_neg c_1) ?_
  refine ev_x (i := .iload_n 1) (len := 1) (p' := 5) (s' := [.int y_1]) rfl rfl rfl ?_
  refine ev_x (i := .bipush 20) (len := 2) (p' := 7) (s' := [.int 20, .int y_1]) rfl rfl rfl ?_
  refine ev_b2 (t := 20) (p' := 20) rfl rfl rfl (if_pos c_2) ?_
  refine ev_x (i := .aload_n 0) (len := 1) (p' := 21) (s' := [.ref 1]) rfl rfl rfl ?_
  refine ev_gc (p' := 24) (v := 2) rfl rfl rfl ly_1 rfl rfl ?_
  refine ev_gi (p' := 27) (v := (σ.1 2 1)) rfl rfl rfl ly_2 rfl rfl rfl ?_
  refine ev_x (i := .bipush 20) (len := 2) (p' := 29) (s' := [.int 20, .int (σ.1 2 1)]) rfl rfl rfl ?_
  refine ev_b2 (t := 42) (p' := 42) rfl rfl rfl (if_pos c_3) ?_
  refine ev_x (i := .aload_n 0) (len := 1) (p' := 43) (s' := [.ref 1]) rfl rfl rfl ?_
  refine ev_gc (p' := 46) (v := 2) rfl rfl rfl ly_1 rfl rfl ?_
  refine ev_x (i := .aload_n 0) (len := 1) (p' := 47) (s' := [.ref 1, .ref 2]) rfl rfl rfl ?_
  refine ev_gc (p' := 50) (v := 2) rfl rfl rfl ly_1 rfl rfl ?_
  refine ev_gi (p' := 53) (v := (σ.1 2 1)) rfl rfl rfl ly_2 rfl rfl rfl ?_
  refine ev_x (i := .bipush 20) (len := 2) (p' := 55) (s' := [.int 20, .int (σ.1 2 1), .ref 2]) rfl rfl rfl ?_
  refine ev_x (i := .isub) (len := 1) (p' := 56) (s' := [.int ((σ.1 2 1) - 20), .ref 2]) rfl rfl rfl ?_
  refine ev_x (i := .iload_n 1) (len := 1) (p' := 57) (s' := [.int y_1, .int ((σ.1 2 1) - 20), .ref 2]) rfl rfl rfl ?_
  refine ev_x (i := .iadd) (len := 1) (p' := 58) (s' := [.int (((σ.1 2 1) - 20) + y_1), .ref 2]) rfl rfl rfl ?_
  refine ev_pi (p' := 61) rfl rfl rfl ly_2 rfl rfl rfl rfl ?_
  refine ev_x (i := .aload_n 0) (len := 1) (p' := 62) (s' := [.ref 1]) rfl rfl rfl ?_
  refine ev_gc (p' := 65) (v := 2) rfl rfl rfl ly_1 rfl rfl ?_
  refine ev_gi (p' := 68) (v := (((σ.1 2 1) - 20) + y_1)) rfl rfl rfl ly_2 rfl rfl rfl ?_
  exact ev_iret rfl rfl rfl rfl
set_option maxHeartbeats 4000000 in
set_option maxRecDepth 100000 in
/-- GameTextLaw.end(LGameText;I[J)I -/
theorem lz_303 {d : Nat} {σ : st_S} {y_1 : Int32} (c_1 : ¬ (y_1 < 0)) (c_2 : y_1 ≤ 20) (c_3 : 20 ≤ (σ.1 2 1)) (c_4 : vp_in 0 (gN σ 187)) : vz_ev P0 (d + 2) 104 0 (lv_args 0 [.ref 1, .int y_1, .ref 187]) [] (hp σ) (.inl (some (.int 0)), hp (st_E (st_i (σ) 2 1 (((σ.1 2 1) - 20) + y_1)) 187 0 ((((σ.1 2 1) - 20) + y_1) : Int32).toInt64)) := by
  refine ev_x (i := .aload_n 2) (len := 1) (p' := 1) (s' := [.ref 187]) rfl rfl rfl ?_
  refine ev_x (i := .iconst 0) (len := 1) (p' := 2) (s' := [.int 0, .ref 187]) rfl rfl rfl ?_
  refine ev_x (i := .aload_n 0) (len := 1) (p' := 3) (s' := [.ref 1, .int 0, .ref 187]) rfl rfl rfl ?_
  refine ev_x (i := .iload_n 1) (len := 1) (p' := 4) (s' := [.int y_1, .ref 1, .int 0, .ref 187]) rfl rfl rfl ?_
  refine ev_cv (d := d + 1) (As := [.int y_1]) (a := 1) (p' := 7) rfl rfl rfl ly_1 rfl rfl rfl rfl rfl rfl rfl (lz_302 (d := d + 0) (c_1 := c_1) (c_2 := c_2) (c_3 := c_3)) ?_
  refine ev_st (st' := [.int (((σ.1 2 1) - 20) + y_1), .int 0, .ref 187]) rfl ?_
  refine ev_x (i := .i2l) (len := 1) (p' := 8) (s' := [.long ((((σ.1 2 1) - 20) + y_1) : Int32).toInt64, .int 0, .ref 187]) rfl rfl rfl ?_
  refine ev_pL (j := 0) (p' := 9) rfl rfl ly_187 rfl c_4 rfl ?_
  refine ev_x (i := .goto 6) (len := 3) (p' := 15) (s' := []) rfl rfl rfl ?_
  refine ev_x (i := .iconst 0) (len := 1) (p' := 16) (s' := [.int 0]) rfl rfl rfl ?_
  exact ev_iret rfl rfl rfl rfl
set_option maxHeartbeats 4000000 in
set_option maxRecDepth 100000 in
/-- GameTextModel.end(I)I -/
theorem lz_304 {d : Nat} {σ : st_S} {y_1 : Int32} (hr_66_1 : σ.2.2.1 66 1 = 67) (c_1 : ¬ (y_1 < 0)) (c_2 : ¬ (20 < y_1)) (c_3 : 20 ≤ (σ.1 67 1)) : vz_ev P0 (d + 1) 134 0 (lv_args 0 [.ref 66, .int y_1]) [] (hp σ) (.inl (some (.int (((σ.1 67 1) - 20) + y_1))), hp (st_i (st_i (σ) 66 0 0) 67 1 (((σ.1 67 1) - 20) + y_1))) := by
  refine ev_x (i := .aload_n 0) (len := 1) (p' := 1) (s' := [.ref 66]) rfl rfl rfl ?_
  refine ev_x (i := .iload_n 1) (len := 1) (p' := 2) (s' := [.int y_1, .ref 66]) rfl rfl rfl ?_
  refine ev_b0 (t := 23) (p' := 5) rfl rfl rfl (if_neg c_1) ?_
  refine ev_x (i := .iload_n 1) (len := 1) (p' := 6) (s' := [.int y_1, .ref 66]) rfl rfl rfl ?_
  refine ev_x (i := .bipush 20) (len := 2) (p' := 8) (s' := [.int 20, .int y_1, .ref 66]) rfl rfl rfl ?_
  refine ev_b2 (t := 23) (p' := 11) rfl rfl rfl (if_neg c_2) ?_
  refine ev_x (i := .aload_n 0) (len := 1) (p' := 12) (s' := [.ref 66, .ref 66]) rfl rfl rfl ?_
  refine ev_gr (p' := 15) (v := 67) rfl rfl rfl ly_66 rfl rfl hr_66_1 ?_
  refine ev_gi (p' := 18) (v := (σ.1 67 1)) rfl rfl rfl ly_67 rfl rfl rfl ?_
  refine ev_x (i := .bipush 20) (len := 2) (p' := 20) (s' := [.int 20, .int (σ.1 67 1), .ref 66]) rfl rfl rfl ?_
  refine ev_b2 (t := 27) (p' := 27) rfl rfl rfl (if_pos c_3) ?_
  refine ev_x (i := .iconst 0) (len := 1) (p' := 28) (s' := [.int 0, .ref 66]) rfl rfl rfl ?_
  refine ev_pi (p' := 31) rfl rfl rfl ly_66 rfl rfl rfl rfl ?_
  refine ev_x (i := .aload_n 0) (len := 1) (p' := 32) (s' := [.ref 66]) rfl rfl rfl ?_
  refine ev_gi (p' := 35) (v := 0) rfl rfl rfl ly_66 rfl rfl rfl ?_
  refine ev_b0 (t := 40) (p' := 40) rfl rfl rfl (by decide) ?_
  refine ev_x (i := .aload_n 0) (len := 1) (p' := 41) (s' := [.ref 66]) rfl rfl rfl ?_
  refine ev_gr (p' := 44) (v := 67) rfl rfl rfl ly_66 rfl rfl hr_66_1 ?_
  refine ev_x (i := .aload_n 0) (len := 1) (p' := 45) (s' := [.ref 66, .ref 67]) rfl rfl rfl ?_
  refine ev_gr (p' := 48) (v := 67) rfl rfl rfl ly_66 rfl rfl hr_66_1 ?_
  refine ev_gi (p' := 51) (v := (σ.1 67 1)) rfl rfl rfl ly_67 rfl rfl rfl ?_
  refine ev_x (i := .bipush 20) (len := 2) (p' := 53) (s' := [.int 20, .int (σ.1 67 1), .ref 67]) rfl rfl rfl ?_
  refine ev_x (i := .isub) (len := 1) (p' := 54) (s' := [.int ((σ.1 67 1) - 20), .ref 67]) rfl rfl rfl ?_
  refine ev_x (i := .iload_n 1) (len := 1) (p' := 55) (s' := [.int y_1, .int ((σ.1 67 1) - 20), .ref 67]) rfl rfl rfl ?_
  refine ev_x (i := .iadd) (len := 1) (p' := 56) (s' := [.int (((σ.1 67 1) - 20) + y_1), .ref 67]) rfl rfl rfl ?_
  refine ev_pi (p' := 59) rfl rfl rfl ly_67 rfl rfl rfl rfl ?_
  refine ev_x (i := .aload_n 0) (len := 1) (p' := 60) (s' := [.ref 66]) rfl rfl rfl ?_
  refine ev_gr (p' := 63) (v := 67) rfl rfl rfl ly_66 rfl rfl hr_66_1 ?_
  refine ev_gi (p' := 66) (v := (((σ.1 67 1) - 20) + y_1)) rfl rfl rfl ly_67 rfl rfl rfl ?_
  exact ev_iret rfl rfl rfl rfl
set_option maxHeartbeats 4000000 in
set_option maxRecDepth 100000 in
/-- GameTextLaw.law([I)Z -/
theorem lw_1o_a0 {d : Nat} {σ : st_S} {q : vz_O × vz_H} {n L : Nat} {xs : Nat → Int32} (hs : gF σ 0 = .inl (0, L, .inl xs)) (hn : n + 6 ≤ L) (hL : L ≤ 3072) (hr_66_1 : σ.2.2.1 66 1 = 67) (c_1 : ¬ ((xs (n + 1)) < 0)) (c_2 : (xs (n + 1)) ≤ 20) (c_3 : 20 ≤ (σ.1 2 1)) (c_4 : vp_in 0 (gN σ 187)) (c_5 : ¬ (20 < (xs (n + 1)))) (c_6 : 20 ≤ (σ.1 67 1)) (c_7 : (lg_cmp ((((σ.1 2 1) - 20) + (xs (n + 1))) : Int32).toInt64 ((((σ.1 67 1) - 20) + (xs (n + 1))) : Int32).toInt64) = 0) (k : vz_ev P0 (d + 3) 0 615 [(6, .int (((σ.1 67 1) - 20) + (xs (n + 1)))), (5, .int 0), (4, .int (nI n)), (3, .ref 187), (2, .ref 66), (1, .ref 1), (0, .ref 0)] [] (hp (st_i (st_i (st_E (st_i (σ) 2 1 (((σ.1 2 1) - 20) + (xs (n + 1)))) 187 0 ((((σ.1 2 1) - 20) + (xs (n + 1))) : Int32).toInt64) 66 0 0) 67 1 (((σ.1 67 1) - 20) + (xs (n + 1))))) q) : vz_ev P0 (d + 3) 0 185 [(4, .int (nI n)), (3, .ref 187), (2, .ref 66), (1, .ref 1), (0, .ref 0)] [] (hp σ) q := by
  refine ev_x (i := .aload_n 1) (len := 1) (p' := 186) (s' := [.ref 1]) rfl rfl rfl ?_
  refine ev_x (i := .aload_n 0) (len := 1) (p' := 187) (s' := [.ref 0, .ref 1]) rfl rfl rfl ?_
  refine ev_x (i := .iload 4) (len := 2) (p' := 189) (s' := [.int (nI n), .ref 0, .ref 1]) rfl rfl rfl ?_
  refine ev_x (i := .iconst 1) (len := 1) (p' := 190) (s' := [.int 1, .int (nI n), .ref 0, .ref 1]) rfl rfl rfl ?_
  refine ev_x (i := .iadd) (len := 1) (p' := 191) (s' := [.int ((nI n) + 1), .ref 0, .ref 1]) rfl rfl rfl ?_
  refine ev_st (st' := [.int (nI (n + 1)), .ref 0, .ref 1]) (congrArg (fun z => Value.int z :: [.ref 0, .ref 1]) (nI_add n 1)) ?_
  refine ev_sg (p' := 192) rfl rfl hs (vp_in_nI (by omega) (by omega)) rfl ?_
  refine ev_st (st' := [.int (xs (n + 1)), .ref 1]) (congrArg (fun z => Value.int (xs z) :: [.ref 1]) (nI_clamp (n := n + 1) (by omega))) ?_
  refine ev_x (i := .aload_n 3) (len := 1) (p' := 193) (s' := [.ref 187, .int (xs (n + 1)), .ref 1]) rfl rfl rfl ?_
  refine ev_callS (d := d + 2) (As := [.ref 1, .int (xs (n + 1)), .ref 187]) rfl rfl rfl (by decide) rfl rfl rfl rfl rfl (lz_303 (d := d + 0) (c_1 := c_1) (c_2 := c_2) (c_3 := c_3) (c_4 := c_4)) ?_
  refine ev_st (st' := [.int 0]) rfl ?_
  refine ev_pc (pc' := 196) rfl ?_
  refine ev_x (i := .istore 5) (len := 2) (p' := 198) (s' := []) (l' := [(5, .int 0), (4, .int (nI n)), (3, .ref 187), (2, .ref 66), (1, .ref 1), (0, .ref 0)]) rfl rfl rfl ?_
  refine ev_x (i := .aload_n 2) (len := 1) (p' := 199) (s' := [.ref 66]) rfl rfl rfl ?_
  refine ev_x (i := .aload_n 0) (len := 1) (p' := 200) (s' := [.ref 0, .ref 66]) rfl rfl rfl ?_
  refine ev_x (i := .iload 4) (len := 2) (p' := 202) (s' := [.int (nI n), .ref 0, .ref 66]) rfl rfl rfl ?_
  refine ev_x (i := .iconst 1) (len := 1) (p' := 203) (s' := [.int 1, .int (nI n), .ref 0, .ref 66]) rfl rfl rfl ?_
  refine ev_x (i := .iadd) (len := 1) (p' := 204) (s' := [.int ((nI n) + 1), .ref 0, .ref 66]) rfl rfl rfl ?_
  refine ev_st (st' := [.int (nI (n + 1)), .ref 0, .ref 66]) (congrArg (fun z => Value.int z :: [.ref 0, .ref 66]) (nI_add n 1)) ?_
  refine ev_sg (p' := 205) rfl rfl hs (vp_in_nI (by omega) (by omega)) rfl ?_
  refine ev_st (st' := [.int (xs (n + 1)), .ref 66]) (congrArg (fun z => Value.int (xs z) :: [.ref 66]) (nI_clamp (n := n + 1) (by omega))) ?_
  refine ev_cv (d := d + 2) (As := [.int (xs (n + 1))]) (a := 66) (p' := 208) rfl rfl rfl ly_66 rfl rfl rfl rfl rfl rfl rfl (lz_304 (d := d + 1) (hr_66_1 := hr_66_1) (c_1 := c_1) (c_2 := c_5) (c_3 := c_6)) ?_
  refine ev_st (st' := [.int (((σ.1 67 1) - 20) + (xs (n + 1)))]) rfl ?_
  refine ev_x (i := .istore 6) (len := 2) (p' := 210) (s' := []) (l' := [(6, .int (((σ.1 67 1) - 20) + (xs (n + 1)))), (5, .int 0), (4, .int (nI n)), (3, .ref 187), (2, .ref 66), (1, .ref 1), (0, .ref 0)]) rfl rfl rfl ?_
  refine ev_x (i := .aload_n 2) (len := 1) (p' := 211) (s' := [.ref 66]) rfl rfl rfl ?_
  refine ev_cv (d := d + 2) (As := []) (a := 66) (p' := 214) rfl rfl rfl ly_66 rfl rfl rfl rfl rfl rfl rfl (lz_270 (d := d + 1) (hi_66_0 := rfl)) ?_
  refine ev_st (st' := [.int 0]) rfl ?_
  refine ev_x (i := .iload 5) (len := 2) (p' := 216) (s' := [.int 0, .int 0]) rfl rfl rfl ?_
  refine ev_b2 (t := 221) (p' := 221) rfl rfl rfl (by decide) ?_
  refine ev_x (i := .iload 5) (len := 2) (p' := 223) (s' := [.int 0]) rfl rfl rfl ?_
  refine ev_b0 (t := 238) (p' := 226) rfl rfl rfl (by decide) ?_
  refine ev_x (i := .aload_n 3) (len := 1) (p' := 227) (s' := [.ref 187]) rfl rfl rfl ?_
  refine ev_x (i := .iconst 0) (len := 1) (p' := 228) (s' := [.int 0, .ref 187]) rfl rfl rfl ?_
  refine ev_gL (p' := 229) (v := ((((σ.1 2 1) - 20) + (xs (n + 1))) : Int32).toInt64) rfl rfl ly_187 rfl c_4 rfl ?_
  refine ev_x (i := .iload 6) (len := 2) (p' := 231) (s' := [.int (((σ.1 67 1) - 20) + (xs (n + 1))), .long ((((σ.1 2 1) - 20) + (xs (n + 1))) : Int32).toInt64]) rfl rfl rfl ?_
  refine ev_x (i := .i2l) (len := 1) (p' := 232) (s' := [.long ((((σ.1 67 1) - 20) + (xs (n + 1))) : Int32).toInt64, .long ((((σ.1 2 1) - 20) + (xs (n + 1))) : Int32).toInt64]) rfl rfl rfl ?_
  refine ev_x (i := .lcmp) (len := 1) (p' := 233) (s' := [.int (lg_cmp ((((σ.1 2 1) - 20) + (xs (n + 1))) : Int32).toInt64 ((((σ.1 67 1) - 20) + (xs (n + 1))) : Int32).toInt64)]) rfl rfl rfl ?_
  refine ev_b0 (t := 238) (p' := 238) rfl rfl rfl (if_pos c_7) ?_
  refine ev_x (i := .goto 377) (len := 3) (p' := 615) (s' := []) rfl rfl rfl ?_
  exact k
set_option maxHeartbeats 4000000 in
set_option maxRecDepth 100000 in
/-- GameText.explore()I -/
theorem lz_307 {d : Nat} {σ : st_S} (c_1 : ¬ (¬ (σ.1 1 7) = 0)) : vz_ev P0 (d + 8) 107 0 (lv_args 0 [.ref 1]) [] (hp σ) (.inr "java/lang/IllegalStateException", hp (st_n (σ) 1 6)) := by
  refine ev_x (i := .aload_n 0) (len := 1) (p' := 1) (s' := [.ref 1]) rfl rfl rfl ?_
  refine ev_gi (p' := 4) (v := (σ.1 1 7)) rfl rfl rfl ly_1 rfl rfl rfl ?_
  refine ev_b0 (t := 17) (p' := 7) rfl rfl rfl (if_neg c_1) ?_
  exact ev_thr rfl rfl rfl
set_option maxHeartbeats 4000000 in
set_option maxRecDepth 100000 in
/-- GameTextLaw.explore(LGameText;[J)I -/
theorem lz_308 {d : Nat} {σ : st_S} (c_1 : ¬ (¬ (σ.1 1 7) = 0)) : vz_ev P0 (d + 9) 106 0 (lv_args 0 [.ref 1, .ref 187]) [] (hp σ) (.inl (some (.int 1)), hp (st_n (σ) 1 6)) := by
  refine ev_x (i := .aload_n 1) (len := 1) (p' := 1) (s' := [.ref 187]) rfl rfl rfl ?_
  refine ev_x (i := .iconst 0) (len := 1) (p' := 2) (s' := [.int 0, .ref 187]) rfl rfl rfl ?_
  refine ev_x (i := .aload_n 0) (len := 1) (p' := 3) (s' := [.ref 1, .int 0, .ref 187]) rfl rfl rfl ?_
  refine ev_caught (d := d + 8) (As := []) (a := 1) (t := ("java/lang/IllegalStateException", 12, 2)) (E := "java/lang/IllegalStateException") rfl rfl rfl rfl (hp_obj _ ly_1) rfl rfl rfl rfl rfl rfl (beq_self_eq_true _) (lz_307 (d := d + 0) (c_1 := c_1)) ?_
  refine ev_lv (lv' := [(0, .ref 1), (1, .ref 187)]) rfl ?_
  refine ev_pc (pc' := 12) rfl ?_
  refine ev_x (i := .iconst 1) (len := 1) (p' := 13) (s' := [.int 1]) rfl rfl rfl ?_
  exact ev_iret rfl rfl rfl rfl
set_option maxHeartbeats 4000000 in
set_option maxRecDepth 100000 in
/-- GameTextModel.explore()I -/
theorem lz_309 {d : Nat} {σ : st_S} (c_1 : (σ.1 66 11) = 0) : vz_ev P0 (d + 1) 210 0 (lv_args 0 [.ref 66]) [] (hp σ) (.inl (some (.int 0)), hp (st_i (σ) 66 0 1)) := by
  refine ev_x (i := .aload_n 0) (len := 1) (p' := 1) (s' := [.ref 66]) rfl rfl rfl ?_
  refine ev_x (i := .aload_n 0) (len := 1) (p' := 2) (s' := [.ref 66, .ref 66]) rfl rfl rfl ?_
  refine ev_gi (p' := 5) (v := (σ.1 66 11)) rfl rfl rfl ly_66 rfl rfl rfl ?_
  refine ev_b0 (t := 12) (p' := 12) rfl rfl rfl (if_pos c_1) ?_
  refine ev_x (i := .iconst 1) (len := 1) (p' := 13) (s' := [.int 1, .ref 66]) rfl rfl rfl ?_
  refine ev_pi (p' := 16) rfl rfl rfl ly_66 rfl rfl rfl rfl ?_
  refine ev_x (i := .aload_n 0) (len := 1) (p' := 17) (s' := [.ref 66]) rfl rfl rfl ?_
  refine ev_gi (p' := 20) (v := 1) rfl rfl rfl ly_66 rfl rfl rfl ?_
  refine ev_b0 (t := 25) (p' := 23) rfl rfl rfl (by decide) ?_
  refine ev_x (i := .iconst 0) (len := 1) (p' := 24) (s' := [.int 0]) rfl rfl rfl ?_
  exact ev_iret rfl rfl rfl rfl
set_option maxHeartbeats 4000000 in
set_option maxRecDepth 100000 in
/-- GameTextLaw.law([I)Z -/
theorem lw_5n_a0 {d : Nat} {σ : st_S} {q : vz_O × vz_H} {n L : Nat} {xs : Nat → Int32} (hs : gF σ 0 = .inl (0, L, .inl xs)) (hn : n + 6 ≤ L) (hL : L ≤ 3072) (c_1 : ¬ (¬ (σ.1 1 7) = 0)) (c_2 : (σ.1 66 11) = 0) (k : vz_ev P0 (d + 10) 0 615 [(6, .int 0), (5, .int 1), (4, .int (nI n)), (3, .ref 187), (2, .ref 66), (1, .ref 1), (0, .ref 0)] [] (hp (st_i (st_n (σ) 1 6) 66 0 1)) q) : vz_ev P0 (d + 10) 0 292 [(4, .int (nI n)), (3, .ref 187), (2, .ref 66), (1, .ref 1), (0, .ref 0)] [] (hp σ) q := by
  refine ev_x (i := .aload_n 1) (len := 1) (p' := 293) (s' := [.ref 1]) rfl rfl rfl ?_
  refine ev_x (i := .aload_n 3) (len := 1) (p' := 294) (s' := [.ref 187, .ref 1]) rfl rfl rfl ?_
  refine ev_callS (d := d + 9) (As := [.ref 1, .ref 187]) rfl rfl rfl (by decide) rfl rfl rfl rfl rfl (lz_308 (d := d + 0) (c_1 := c_1)) ?_
  refine ev_st (st' := [.int 1]) rfl ?_
  refine ev_pc (pc' := 297) rfl ?_
  refine ev_x (i := .istore 5) (len := 2) (p' := 299) (s' := []) (l' := [(5, .int 1), (4, .int (nI n)), (3, .ref 187), (2, .ref 66), (1, .ref 1), (0, .ref 0)]) rfl rfl rfl ?_
  refine ev_x (i := .aload_n 2) (len := 1) (p' := 300) (s' := [.ref 66]) rfl rfl rfl ?_
  refine ev_cv (d := d + 9) (As := []) (a := 66) (p' := 303) rfl rfl rfl ly_66 rfl rfl rfl rfl rfl rfl rfl (lz_309 (d := d + 8) (c_1 := c_2)) ?_
  refine ev_st (st' := [.int 0]) rfl ?_
  refine ev_x (i := .istore 6) (len := 2) (p' := 305) (s' := []) (l' := [(6, .int 0), (5, .int 1), (4, .int (nI n)), (3, .ref 187), (2, .ref 66), (1, .ref 1), (0, .ref 0)]) rfl rfl rfl ?_
  refine ev_x (i := .aload_n 2) (len := 1) (p' := 306) (s' := [.ref 66]) rfl rfl rfl ?_
  refine ev_cv (d := d + 9) (As := []) (a := 66) (p' := 309) rfl rfl rfl ly_66 rfl rfl rfl rfl rfl rfl rfl (lz_246 (d := d + 8) (hi_66_0 := rfl)) ?_
  refine ev_st (st' := [.int 1]) rfl ?_
  refine ev_x (i := .iload 5) (len := 2) (p' := 311) (s' := [.int 1, .int 1]) rfl rfl rfl ?_
  refine ev_b2 (t := 316) (p' := 316) rfl rfl rfl (by decide) ?_
  refine ev_x (i := .iload 5) (len := 2) (p' := 318) (s' := [.int 1]) rfl rfl rfl ?_
  refine ev_b0 (t := 333) (p' := 333) rfl rfl rfl (by decide) ?_
  refine ev_x (i := .goto 282) (len := 3) (p' := 615) (s' := []) rfl rfl rfl ?_
  exact k
set_option maxHeartbeats 4000000 in
set_option maxRecDepth 100000 in
/-- GameTextLaw.law([I)Z -/
theorem lw_8m_b0 {d : Nat} {σ : st_S} {q : vz_O × vz_H} {n L : Nat} {xs : Nat → Int32} (hs : gF σ 0 = .inl (0, L, .inl xs)) (hn : n + 6 ≤ L) (hL : L ≤ 3072) (c_1 : ¬ ((xs (n + 1)) < 0)) (c_2 : ¬ ((σ.1 52 10) ≤ (xs (n + 1)))) (c_3 : (xs (n + 2)) < 0) (c_4 : ¬ ((σ.1 66 29) ≤ (xs (n + 1)))) (k : vz_ev P0 (d + 10) 0 615 [(6, .int 0), (5, .int 1), (4, .int (nI n)), (3, .ref 187), (2, .ref 66), (1, .ref 1), (0, .ref 0)] [] (hp (st_i (st_n (σ) 1 6) 66 0 1)) q) : vz_ev P0 (d + 10) 0 362 [(4, .int (nI n)), (3, .ref 187), (2, .ref 66), (1, .ref 1), (0, .ref 0)] [] (hp σ) q := by
  refine ev_x (i := .aload_n 1) (len := 1) (p' := 363) (s' := [.ref 1]) rfl rfl rfl ?_
  refine ev_x (i := .aload_n 0) (len := 1) (p' := 364) (s' := [.ref 0, .ref 1]) rfl rfl rfl ?_
  refine ev_x (i := .iload 4) (len := 2) (p' := 366) (s' := [.int (nI n), .ref 0, .ref 1]) rfl rfl rfl ?_
  refine ev_x (i := .iconst 1) (len := 1) (p' := 367) (s' := [.int 1, .int (nI n), .ref 0, .ref 1]) rfl rfl rfl ?_
  refine ev_x (i := .iadd) (len := 1) (p' := 368) (s' := [.int ((nI n) + 1), .ref 0, .ref 1]) rfl rfl rfl ?_
  refine ev_st (st' := [.int (nI (n + 1)), .ref 0, .ref 1]) (congrArg (fun z => Value.int z :: [.ref 0, .ref 1]) (nI_add n 1)) ?_
  refine ev_sg (p' := 369) rfl rfl hs (vp_in_nI (by omega) (by omega)) rfl ?_
  refine ev_st (st' := [.int (xs (n + 1)), .ref 1]) (congrArg (fun z => Value.int (xs z) :: [.ref 1]) (nI_clamp (n := n + 1) (by omega))) ?_
  refine ev_x (i := .aload_n 0) (len := 1) (p' := 370) (s' := [.ref 0, .int (xs (n + 1)), .ref 1]) rfl rfl rfl ?_
  refine ev_x (i := .iload 4) (len := 2) (p' := 372) (s' := [.int (nI n), .ref 0, .int (xs (n + 1)), .ref 1]) rfl rfl rfl ?_
  refine ev_x (i := .iconst 2) (len := 1) (p' := 373) (s' := [.int 2, .int (nI n), .ref 0, .int (xs (n + 1)), .ref 1]) rfl rfl rfl ?_
  refine ev_x (i := .iadd) (len := 1) (p' := 374) (s' := [.int ((nI n) + 2), .ref 0, .int (xs (n + 1)), .ref 1]) rfl rfl rfl ?_
  refine ev_st (st' := [.int (nI (n + 2)), .ref 0, .int (xs (n + 1)), .ref 1]) (congrArg (fun z => Value.int z :: [.ref 0, .int (xs (n + 1)), .ref 1]) (nI_add n 2)) ?_
  refine ev_sg (p' := 375) rfl rfl hs (vp_in_nI (by omega) (by omega)) rfl ?_
  refine ev_st (st' := [.int (xs (n + 2)), .int (xs (n + 1)), .ref 1]) (congrArg (fun z => Value.int (xs z) :: [.int (xs (n + 1)), .ref 1]) (nI_clamp (n := n + 2) (by omega))) ?_
  refine ev_x (i := .aload_n 3) (len := 1) (p' := 376) (s' := [.ref 187, .int (xs (n + 2)), .int (xs (n + 1)), .ref 1]) rfl rfl rfl ?_
  refine ev_callS (d := d + 9) (As := [.ref 1, .int (xs (n + 1)), .int (xs (n + 2)), .ref 187]) rfl rfl rfl (by decide) rfl rfl rfl rfl rfl (lz_256 (d := d + 0) (c_1 := c_1) (c_2 := c_2) (c_3 := c_3)) ?_
  refine ev_st (st' := [.int 1]) rfl ?_
  refine ev_pc (pc' := 379) rfl ?_
  refine ev_x (i := .istore 5) (len := 2) (p' := 381) (s' := []) (l' := [(5, .int 1), (4, .int (nI n)), (3, .ref 187), (2, .ref 66), (1, .ref 1), (0, .ref 0)]) rfl rfl rfl ?_
  refine ev_x (i := .aload_n 2) (len := 1) (p' := 382) (s' := [.ref 66]) rfl rfl rfl ?_
  refine ev_x (i := .aload_n 0) (len := 1) (p' := 383) (s' := [.ref 0, .ref 66]) rfl rfl rfl ?_
  refine ev_x (i := .iload 4) (len := 2) (p' := 385) (s' := [.int (nI n), .ref 0, .ref 66]) rfl rfl rfl ?_
  refine ev_x (i := .iconst 1) (len := 1) (p' := 386) (s' := [.int 1, .int (nI n), .ref 0, .ref 66]) rfl rfl rfl ?_
  refine ev_x (i := .iadd) (len := 1) (p' := 387) (s' := [.int ((nI n) + 1), .ref 0, .ref 66]) rfl rfl rfl ?_
  refine ev_st (st' := [.int (nI (n + 1)), .ref 0, .ref 66]) (congrArg (fun z => Value.int z :: [.ref 0, .ref 66]) (nI_add n 1)) ?_
  refine ev_sg (p' := 388) rfl rfl hs (vp_in_nI (by omega) (by omega)) rfl ?_
  refine ev_st (st' := [.int (xs (n + 1)), .ref 66]) (congrArg (fun z => Value.int (xs z) :: [.ref 66]) (nI_clamp (n := n + 1) (by omega))) ?_
  refine ev_x (i := .aload_n 0) (len := 1) (p' := 389) (s' := [.ref 0, .int (xs (n + 1)), .ref 66]) rfl rfl rfl ?_
  refine ev_x (i := .iload 4) (len := 2) (p' := 391) (s' := [.int (nI n), .ref 0, .int (xs (n + 1)), .ref 66]) rfl rfl rfl ?_
  refine ev_x (i := .iconst 2) (len := 1) (p' := 392) (s' := [.int 2, .int (nI n), .ref 0, .int (xs (n + 1)), .ref 66]) rfl rfl rfl ?_
  refine ev_x (i := .iadd) (len := 1) (p' := 393) (s' := [.int ((nI n) + 2), .ref 0, .int (xs (n + 1)), .ref 66]) rfl rfl rfl ?_
  refine ev_st (st' := [.int (nI (n + 2)), .ref 0, .int (xs (n + 1)), .ref 66]) (congrArg (fun z => Value.int z :: [.ref 0, .int (xs (n + 1)), .ref 66]) (nI_add n 2)) ?_
  refine ev_sg (p' := 394) rfl rfl hs (vp_in_nI (by omega) (by omega)) rfl ?_
  refine ev_st (st' := [.int (xs (n + 2)), .int (xs (n + 1)), .ref 66]) (congrArg (fun z => Value.int (xs z) :: [.int (xs (n + 1)), .ref 66]) (nI_clamp (n := n + 2) (by omega))) ?_
  refine ev_cv (d := d + 9) (As := [.int (xs (n + 1)), .int (xs (n + 2))]) (a := 66) (p' := 397) rfl rfl rfl ly_66 rfl rfl rfl rfl rfl rfl rfl (lz_257 (d := d + 8) (c_1 := c_1) (c_2 := c_4) (c_3 := c_3)) ?_
  refine ev_st (st' := [.int 0]) rfl ?_
  refine ev_x (i := .istore 6) (len := 2) (p' := 399) (s' := []) (l' := [(6, .int 0), (5, .int 1), (4, .int (nI n)), (3, .ref 187), (2, .ref 66), (1, .ref 1), (0, .ref 0)]) rfl rfl rfl ?_
  refine ev_x (i := .aload_n 2) (len := 1) (p' := 400) (s' := [.ref 66]) rfl rfl rfl ?_
  refine ev_cv (d := d + 9) (As := []) (a := 66) (p' := 403) rfl rfl rfl ly_66 rfl rfl rfl rfl rfl rfl rfl (lz_246 (d := d + 8) (hi_66_0 := rfl)) ?_
  refine ev_st (st' := [.int 1]) rfl ?_
  refine ev_x (i := .iload 5) (len := 2) (p' := 405) (s' := [.int 1, .int 1]) rfl rfl rfl ?_
  refine ev_b2 (t := 410) (p' := 410) rfl rfl rfl (by decide) ?_
  refine ev_x (i := .iload 5) (len := 2) (p' := 412) (s' := [.int 1]) rfl rfl rfl ?_
  refine ev_b0 (t := 427) (p' := 427) rfl rfl rfl (by decide) ?_
  refine ev_x (i := .goto 188) (len := 3) (p' := 615) (s' := []) rfl rfl rfl ?_
  exact k
set_option maxHeartbeats 4000000 in
set_option maxRecDepth 100000 in
/-- GameTextModel.variable(II)I -/
theorem lz_321 {d : Nat} {σ : st_S} {y_1 y_2 : Int32} (hr_66_9 : σ.2.2.1 66 9 = 115) (c_1 : ¬ (y_1 < 0)) (c_2 : ¬ ((σ.1 66 29) ≤ y_1)) (c_3 : ¬ (y_2 < 0)) (c_4 : ¬ (y_2 < (σ.1 115 12))) : vz_ev P0 (d + 1) 222 0 (lv_args 0 [.ref 66, .int y_1, .int y_2]) [] (hp σ) (.inl (some (.int 0)), hp (st_i (σ) 66 0 1)) := by
  refine ev_x (i := .aload_n 0) (len := 1) (p' := 1) (s' := [.ref 66]) rfl rfl rfl ?_
  refine ev_x (i := .iload_n 1) (len := 1) (p' := 2) (s' := [.int y_1, .ref 66]) rfl rfl rfl ?_
  refine ev_b0 (t := 28) (p' := 5) rfl rfl rfl (if_neg c_1) ?_
  refine ev_x (i := .iload_n 1) (len := 1) (p' := 6) (s' := [.int y_1, .ref 66]) rfl rfl rfl ?_
  refine ev_x (i := .aload_n 0) (len := 1) (p' := 7) (s' := [.ref 66, .int y_1, .ref 66]) rfl rfl rfl ?_
  refine ev_gi (p' := 10) (v := (σ.1 66 29)) rfl rfl rfl ly_66 rfl rfl rfl ?_
  refine ev_b2 (t := 28) (p' := 13) rfl rfl rfl (if_neg c_2) ?_
  refine ev_x (i := .iload_n 2) (len := 1) (p' := 14) (s' := [.int y_2, .ref 66]) rfl rfl rfl ?_
  refine ev_b0 (t := 28) (p' := 17) rfl rfl rfl (if_neg c_3) ?_
  refine ev_x (i := .iload_n 2) (len := 1) (p' := 18) (s' := [.int y_2, .ref 66]) rfl rfl rfl ?_
  refine ev_x (i := .aload_n 0) (len := 1) (p' := 19) (s' := [.ref 66, .int y_2, .ref 66]) rfl rfl rfl ?_
  refine ev_gr (p' := 22) (v := 115) rfl rfl rfl ly_66 rfl rfl hr_66_9 ?_
  refine ev_gi (p' := 25) (v := (σ.1 115 12)) rfl rfl rfl ly_115 rfl rfl rfl ?_
  refine ev_b2 (t := 32) (p' := 28) rfl rfl rfl (if_neg c_4) ?_
  refine ev_x (i := .iconst 1) (len := 1) (p' := 29) (s' := [.int 1, .ref 66]) rfl rfl rfl ?_
  refine ev_x (i := .goto 4) (len := 3) (p' := 33) (s' := [.int 1, .ref 66]) rfl rfl rfl ?_
  refine ev_pi (p' := 36) rfl rfl rfl ly_66 rfl rfl rfl rfl ?_
  refine ev_x (i := .aload_n 0) (len := 1) (p' := 37) (s' := [.ref 66]) rfl rfl rfl ?_
  refine ev_gi (p' := 40) (v := 1) rfl rfl rfl ly_66 rfl rfl rfl ?_
  refine ev_b0 (t := 47) (p' := 43) rfl rfl rfl (by decide) ?_
  refine ev_x (i := .iconst 0) (len := 1) (p' := 44) (s' := [.int 0]) rfl rfl rfl ?_
  refine ev_x (i := .goto 14) (len := 3) (p' := 58) (s' := [.int 0]) rfl rfl rfl ?_
  exact ev_iret rfl rfl rfl rfl
set_option maxHeartbeats 4000000 in
set_option maxRecDepth 100000 in
/-- GameTextLaw.law([I)Z -/
theorem lw_8h_b0 {d : Nat} {σ : st_S} {q : vz_O × vz_H} {n L : Nat} {xs : Nat → Int32} (hs : gF σ 0 = .inl (0, L, .inl xs)) (hn : n + 6 ≤ L) (hL : L ≤ 3072) (hr_66_9 : σ.2.2.1 66 9 = 115) (c_1 : ¬ ((xs (n + 1)) < 0)) (c_2 : ¬ ((σ.1 52 10) ≤ (xs (n + 1)))) (c_3 : ¬ ((xs (n + 2)) < 0)) (c_4 : ¬ ((xs (n + 2)) < (σ.1 52 9))) (c_5 : ¬ ((σ.1 66 29) ≤ (xs (n + 1)))) (c_6 : ¬ ((xs (n + 2)) < (σ.1 115 12))) (k : vz_ev P0 (d + 10) 0 615 [(6, .int 0), (5, .int 1), (4, .int (nI n)), (3, .ref 187), (2, .ref 66), (1, .ref 1), (0, .ref 0)] [] (hp (st_i (st_n (σ) 1 6) 66 0 1)) q) : vz_ev P0 (d + 10) 0 362 [(4, .int (nI n)), (3, .ref 187), (2, .ref 66), (1, .ref 1), (0, .ref 0)] [] (hp σ) q := by
  refine ev_x (i := .aload_n 1) (len := 1) (p' := 363) (s' := [.ref 1]) rfl rfl rfl ?_
  refine ev_x (i := .aload_n 0) (len := 1) (p' := 364) (s' := [.ref 0, .ref 1]) rfl rfl rfl ?_
  refine ev_x (i := .iload 4) (len := 2) (p' := 366) (s' := [.int (nI n), .ref 0, .ref 1]) rfl rfl rfl ?_
  refine ev_x (i := .iconst 1) (len := 1) (p' := 367) (s' := [.int 1, .int (nI n), .ref 0, .ref 1]) rfl rfl rfl ?_
  refine ev_x (i := .iadd) (len := 1) (p' := 368) (s' := [.int ((nI n) + 1), .ref 0, .ref 1]) rfl rfl rfl ?_
  refine ev_st (st' := [.int (nI (n + 1)), .ref 0, .ref 1]) (congrArg (fun z => Value.int z :: [.ref 0, .ref 1]) (nI_add n 1)) ?_
  refine ev_sg (p' := 369) rfl rfl hs (vp_in_nI (by omega) (by omega)) rfl ?_
  refine ev_st (st' := [.int (xs (n + 1)), .ref 1]) (congrArg (fun z => Value.int (xs z) :: [.ref 1]) (nI_clamp (n := n + 1) (by omega))) ?_
  refine ev_x (i := .aload_n 0) (len := 1) (p' := 370) (s' := [.ref 0, .int (xs (n + 1)), .ref 1]) rfl rfl rfl ?_
  refine ev_x (i := .iload 4) (len := 2) (p' := 372) (s' := [.int (nI n), .ref 0, .int (xs (n + 1)), .ref 1]) rfl rfl rfl ?_
  refine ev_x (i := .iconst 2) (len := 1) (p' := 373) (s' := [.int 2, .int (nI n), .ref 0, .int (xs (n + 1)), .ref 1]) rfl rfl rfl ?_
  refine ev_x (i := .iadd) (len := 1) (p' := 374) (s' := [.int ((nI n) + 2), .ref 0, .int (xs (n + 1)), .ref 1]) rfl rfl rfl ?_
  refine ev_st (st' := [.int (nI (n + 2)), .ref 0, .int (xs (n + 1)), .ref 1]) (congrArg (fun z => Value.int z :: [.ref 0, .int (xs (n + 1)), .ref 1]) (nI_add n 2)) ?_
  refine ev_sg (p' := 375) rfl rfl hs (vp_in_nI (by omega) (by omega)) rfl ?_
  refine ev_st (st' := [.int (xs (n + 2)), .int (xs (n + 1)), .ref 1]) (congrArg (fun z => Value.int (xs z) :: [.int (xs (n + 1)), .ref 1]) (nI_clamp (n := n + 2) (by omega))) ?_
  refine ev_x (i := .aload_n 3) (len := 1) (p' := 376) (s' := [.ref 187, .int (xs (n + 2)), .int (xs (n + 1)), .ref 1]) rfl rfl rfl ?_
  refine ev_callS (d := d + 9) (As := [.ref 1, .int (xs (n + 1)), .int (xs (n + 2)), .ref 187]) rfl rfl rfl (by decide) rfl rfl rfl rfl rfl (lz_262 (d := d + 0) (c_1 := c_1) (c_2 := c_2) (c_3 := c_3) (c_4 := c_4)) ?_
  refine ev_st (st' := [.int 1]) rfl ?_
  refine ev_pc (pc' := 379) rfl ?_
  refine ev_x (i := .istore 5) (len := 2) (p' := 381) (s' := []) (l' := [(5, .int 1), (4, .int (nI n)), (3, .ref 187), (2, .ref 66), (1, .ref 1), (0, .ref 0)]) rfl rfl rfl ?_
  refine ev_x (i := .aload_n 2) (len := 1) (p' := 382) (s' := [.ref 66]) rfl rfl rfl ?_
  refine ev_x (i := .aload_n 0) (len := 1) (p' := 383) (s' := [.ref 0, .ref 66]) rfl rfl rfl ?_
  refine ev_x (i := .iload 4) (len := 2) (p' := 385) (s' := [.int (nI n), .ref 0, .ref 66]) rfl rfl rfl ?_
  refine ev_x (i := .iconst 1) (len := 1) (p' := 386) (s' := [.int 1, .int (nI n), .ref 0, .ref 66]) rfl rfl rfl ?_
  refine ev_x (i := .iadd) (len := 1) (p' := 387) (s' := [.int ((nI n) + 1), .ref 0, .ref 66]) rfl rfl rfl ?_
  refine ev_st (st' := [.int (nI (n + 1)), .ref 0, .ref 66]) (congrArg (fun z => Value.int z :: [.ref 0, .ref 66]) (nI_add n 1)) ?_
  refine ev_sg (p' := 388) rfl rfl hs (vp_in_nI (by omega) (by omega)) rfl ?_
  refine ev_st (st' := [.int (xs (n + 1)), .ref 66]) (congrArg (fun z => Value.int (xs z) :: [.ref 66]) (nI_clamp (n := n + 1) (by omega))) ?_
  refine ev_x (i := .aload_n 0) (len := 1) (p' := 389) (s' := [.ref 0, .int (xs (n + 1)), .ref 66]) rfl rfl rfl ?_
  refine ev_x (i := .iload 4) (len := 2) (p' := 391) (s' := [.int (nI n), .ref 0, .int (xs (n + 1)), .ref 66]) rfl rfl rfl ?_
  refine ev_x (i := .iconst 2) (len := 1) (p' := 392) (s' := [.int 2, .int (nI n), .ref 0, .int (xs (n + 1)), .ref 66]) rfl rfl rfl ?_
  refine ev_x (i := .iadd) (len := 1) (p' := 393) (s' := [.int ((nI n) + 2), .ref 0, .int (xs (n + 1)), .ref 66]) rfl rfl rfl ?_
  refine ev_st (st' := [.int (nI (n + 2)), .ref 0, .int (xs (n + 1)), .ref 66]) (congrArg (fun z => Value.int z :: [.ref 0, .int (xs (n + 1)), .ref 66]) (nI_add n 2)) ?_
  refine ev_sg (p' := 394) rfl rfl hs (vp_in_nI (by omega) (by omega)) rfl ?_
  refine ev_st (st' := [.int (xs (n + 2)), .int (xs (n + 1)), .ref 66]) (congrArg (fun z => Value.int (xs z) :: [.int (xs (n + 1)), .ref 66]) (nI_clamp (n := n + 2) (by omega))) ?_
  refine ev_cv (d := d + 9) (As := [.int (xs (n + 1)), .int (xs (n + 2))]) (a := 66) (p' := 397) rfl rfl rfl ly_66 rfl rfl rfl rfl rfl rfl rfl (lz_321 (d := d + 8) (hr_66_9 := hr_66_9) (c_1 := c_1) (c_2 := c_5) (c_3 := c_3) (c_4 := c_6)) ?_
  refine ev_st (st' := [.int 0]) rfl ?_
  refine ev_x (i := .istore 6) (len := 2) (p' := 399) (s' := []) (l' := [(6, .int 0), (5, .int 1), (4, .int (nI n)), (3, .ref 187), (2, .ref 66), (1, .ref 1), (0, .ref 0)]) rfl rfl rfl ?_
  refine ev_x (i := .aload_n 2) (len := 1) (p' := 400) (s' := [.ref 66]) rfl rfl rfl ?_
  refine ev_cv (d := d + 9) (As := []) (a := 66) (p' := 403) rfl rfl rfl ly_66 rfl rfl rfl rfl rfl rfl rfl (lz_246 (d := d + 8) (hi_66_0 := rfl)) ?_
  refine ev_st (st' := [.int 1]) rfl ?_
  refine ev_x (i := .iload 5) (len := 2) (p' := 405) (s' := [.int 1, .int 1]) rfl rfl rfl ?_
  refine ev_b2 (t := 410) (p' := 410) rfl rfl rfl (by decide) ?_
  refine ev_x (i := .iload 5) (len := 2) (p' := 412) (s' := [.int 1]) rfl rfl rfl ?_
  refine ev_b0 (t := 427) (p' := 427) rfl rfl rfl (by decide) ?_
  refine ev_x (i := .goto 188) (len := 3) (p' := 615) (s' := []) rfl rfl rfl ?_
  exact k
set_option maxHeartbeats 4000000 in
set_option maxRecDepth 100000 in
/-- GameTextModel.variable(II)I -/
theorem lz_327 {d : Nat} {σ : st_S} {y_1 y_2 : Int32} (hr_66_9 : σ.2.2.1 66 9 = 115) (c_1 : ¬ (y_1 < 0)) (c_2 : ¬ ((σ.1 66 29) ≤ y_1)) (c_3 : ¬ (y_2 < 0)) (c_4 : y_2 < (σ.1 115 12)) (c_5 : vp_in ((12 * y_1) + y_2) (gN σ 171)) : vz_ev P0 (d + 1) 222 0 (lv_args 0 [.ref 66, .int y_1, .int y_2]) [] (hp σ) (.inl (some (.int (gE σ 171 ((((12 * y_1) + y_2)).toNatClampNeg)))), hp (st_i (σ) 66 0 0)) := by
  refine ev_x (i := .aload_n 0) (len := 1) (p' := 1) (s' := [.ref 66]) rfl rfl rfl ?_
  refine ev_x (i := .iload_n 1) (len := 1) (p' := 2) (s' := [.int y_1, .ref 66]) rfl rfl rfl ?_
  refine ev_b0 (t := 28) (p' := 5) rfl rfl rfl (if_neg c_1) ?_
  refine ev_x (i := .iload_n 1) (len := 1) (p' := 6) (s' := [.int y_1, .ref 66]) rfl rfl rfl ?_
  refine ev_x (i := .aload_n 0) (len := 1) (p' := 7) (s' := [.ref 66, .int y_1, .ref 66]) rfl rfl rfl ?_
  refine ev_gi (p' := 10) (v := (σ.1 66 29)) rfl rfl rfl ly_66 rfl rfl rfl ?_
  refine ev_b2 (t := 28) (p' := 13) rfl rfl rfl (if_neg c_2) ?_
  refine ev_x (i := .iload_n 2) (len := 1) (p' := 14) (s' := [.int y_2, .ref 66]) rfl rfl rfl ?_
  refine ev_b0 (t := 28) (p' := 17) rfl rfl rfl (if_neg c_3) ?_
  refine ev_x (i := .iload_n 2) (len := 1) (p' := 18) (s' := [.int y_2, .ref 66]) rfl rfl rfl ?_
  refine ev_x (i := .aload_n 0) (len := 1) (p' := 19) (s' := [.ref 66, .int y_2, .ref 66]) rfl rfl rfl ?_
  refine ev_gr (p' := 22) (v := 115) rfl rfl rfl ly_66 rfl rfl hr_66_9 ?_
  refine ev_gi (p' := 25) (v := (σ.1 115 12)) rfl rfl rfl ly_115 rfl rfl rfl ?_
  refine ev_b2 (t := 32) (p' := 32) rfl rfl rfl (if_pos c_4) ?_
  refine ev_x (i := .iconst 0) (len := 1) (p' := 33) (s' := [.int 0, .ref 66]) rfl rfl rfl ?_
  refine ev_pi (p' := 36) rfl rfl rfl ly_66 rfl rfl rfl rfl ?_
  refine ev_x (i := .aload_n 0) (len := 1) (p' := 37) (s' := [.ref 66]) rfl rfl rfl ?_
  refine ev_gi (p' := 40) (v := 0) rfl rfl rfl ly_66 rfl rfl rfl ?_
  refine ev_b0 (t := 47) (p' := 47) rfl rfl rfl (by decide) ?_
  refine ev_x (i := .aload_n 0) (len := 1) (p' := 48) (s' := [.ref 66]) rfl rfl rfl ?_
  refine ev_gc (p' := 51) (v := 171) rfl rfl rfl ly_66 rfl rfl ?_
  refine ev_x (i := .bipush 12) (len := 2) (p' := 53) (s' := [.int 12, .ref 171]) rfl rfl rfl ?_
  refine ev_x (i := .iload_n 1) (len := 1) (p' := 54) (s' := [.int y_1, .int 12, .ref 171]) rfl rfl rfl ?_
  refine ev_x (i := .imul) (len := 1) (p' := 55) (s' := [.int (12 * y_1), .ref 171]) rfl rfl rfl ?_
  refine ev_x (i := .iload_n 2) (len := 1) (p' := 56) (s' := [.int y_2, .int (12 * y_1), .ref 171]) rfl rfl rfl ?_
  refine ev_x (i := .iadd) (len := 1) (p' := 57) (s' := [.int ((12 * y_1) + y_2), .ref 171]) rfl rfl rfl ?_
  refine ev_ga (p' := 58) (v := (gE σ 171 ((((12 * y_1) + y_2)).toNatClampNeg))) rfl rfl ly_171 rfl c_5 rfl ?_
  exact ev_iret rfl rfl rfl rfl
set_option maxHeartbeats 4000000 in
set_option maxRecDepth 100000 in
/-- GameTextLaw.law([I)Z -/
theorem lw_8o_b0 {d : Nat} {σ : st_S} {q : vz_O × vz_H} {n L : Nat} {xs : Nat → Int32} (hs : gF σ 0 = .inl (0, L, .inl xs)) (hn : n + 6 ≤ L) (hL : L ≤ 3072) (hr_66_9 : σ.2.2.1 66 9 = 115) (c_1 : ¬ ((xs (n + 1)) < 0)) (c_2 : ¬ ((σ.1 52 10) ≤ (xs (n + 1)))) (c_3 : ¬ ((xs (n + 2)) < 0)) (c_4 : (xs (n + 2)) < (σ.1 52 9)) (c_5 : vp_in (((xs (n + 1)) * 12) + (xs (n + 2))) (gN σ 54)) (c_6 : vp_in 0 (gN σ 187)) (c_7 : ¬ ((σ.1 66 29) ≤ (xs (n + 1)))) (c_8 : (xs (n + 2)) < (σ.1 115 12)) (c_9 : vp_in ((12 * (xs (n + 1))) + (xs (n + 2))) (gN σ 171)) (c_10 : (lg_cmp ((gE σ 54 (((((xs (n + 1)) * 12) + (xs (n + 2)))).toNatClampNeg)) : Int32).toInt64 ((gE σ 171 ((((12 * (xs (n + 1))) + (xs (n + 2)))).toNatClampNeg)) : Int32).toInt64) = 0) (k : vz_ev P0 (d + 4) 0 615 [(6, .int (gE σ 171 ((((12 * (xs (n + 1))) + (xs (n + 2)))).toNatClampNeg))), (5, .int 0), (4, .int (nI n)), (3, .ref 187), (2, .ref 66), (1, .ref 1), (0, .ref 0)] [] (hp (st_i (st_E (σ) 187 0 ((gE σ 54 (((((xs (n + 1)) * 12) + (xs (n + 2)))).toNatClampNeg)) : Int32).toInt64) 66 0 0)) q) : vz_ev P0 (d + 4) 0 362 [(4, .int (nI n)), (3, .ref 187), (2, .ref 66), (1, .ref 1), (0, .ref 0)] [] (hp σ) q := by
  refine ev_x (i := .aload_n 1) (len := 1) (p' := 363) (s' := [.ref 1]) rfl rfl rfl ?_
  refine ev_x (i := .aload_n 0) (len := 1) (p' := 364) (s' := [.ref 0, .ref 1]) rfl rfl rfl ?_
  refine ev_x (i := .iload 4) (len := 2) (p' := 366) (s' := [.int (nI n), .ref 0, .ref 1]) rfl rfl rfl ?_
  refine ev_x (i := .iconst 1) (len := 1) (p' := 367) (s' := [.int 1, .int (nI n), .ref 0, .ref 1]) rfl rfl rfl ?_
  refine ev_x (i := .iadd) (len := 1) (p' := 368) (s' := [.int ((nI n) + 1), .ref 0, .ref 1]) rfl rfl rfl ?_
  refine ev_st (st' := [.int (nI (n + 1)), .ref 0, .ref 1]) (congrArg (fun z => Value.int z :: [.ref 0, .ref 1]) (nI_add n 1)) ?_
  refine ev_sg (p' := 369) rfl rfl hs (vp_in_nI (by omega) (by omega)) rfl ?_
  refine ev_st (st' := [.int (xs (n + 1)), .ref 1]) (congrArg (fun z => Value.int (xs z) :: [.ref 1]) (nI_clamp (n := n + 1) (by omega))) ?_
  refine ev_x (i := .aload_n 0) (len := 1) (p' := 370) (s' := [.ref 0, .int (xs (n + 1)), .ref 1]) rfl rfl rfl ?_
  refine ev_x (i := .iload 4) (len := 2) (p' := 372) (s' := [.int (nI n), .ref 0, .int (xs (n + 1)), .ref 1]) rfl rfl rfl ?_
  refine ev_x (i := .iconst 2) (len := 1) (p' := 373) (s' := [.int 2, .int (nI n), .ref 0, .int (xs (n + 1)), .ref 1]) rfl rfl rfl ?_
  refine ev_x (i := .iadd) (len := 1) (p' := 374) (s' := [.int ((nI n) + 2), .ref 0, .int (xs (n + 1)), .ref 1]) rfl rfl rfl ?_
  refine ev_st (st' := [.int (nI (n + 2)), .ref 0, .int (xs (n + 1)), .ref 1]) (congrArg (fun z => Value.int z :: [.ref 0, .int (xs (n + 1)), .ref 1]) (nI_add n 2)) ?_
  refine ev_sg (p' := 375) rfl rfl hs (vp_in_nI (by omega) (by omega)) rfl ?_
  refine ev_st (st' := [.int (xs (n + 2)), .int (xs (n + 1)), .ref 1]) (congrArg (fun z => Value.int (xs z) :: [.int (xs (n + 1)), .ref 1]) (nI_clamp (n := n + 2) (by omega))) ?_
  refine ev_x (i := .aload_n 3) (len := 1) (p' := 376) (s' := [.ref 187, .int (xs (n + 2)), .int (xs (n + 1)), .ref 1]) rfl rfl rfl ?_
  refine ev_callS (d := d + 3) (As := [.ref 1, .int (xs (n + 1)), .int (xs (n + 2)), .ref 187]) rfl rfl rfl (by decide) rfl rfl rfl rfl rfl (lz_268 (d := d + 0) (c_1 := c_1) (c_2 := c_2) (c_3 := c_3) (c_4 := c_4) (c_5 := c_5) (c_6 := c_6)) ?_
  refine ev_st (st' := [.int 0]) rfl ?_
  refine ev_pc (pc' := 379) rfl ?_
  refine ev_x (i := .istore 5) (len := 2) (p' := 381) (s' := []) (l' := [(5, .int 0), (4, .int (nI n)), (3, .ref 187), (2, .ref 66), (1, .ref 1), (0, .ref 0)]) rfl rfl rfl ?_
  refine ev_x (i := .aload_n 2) (len := 1) (p' := 382) (s' := [.ref 66]) rfl rfl rfl ?_
  refine ev_x (i := .aload_n 0) (len := 1) (p' := 383) (s' := [.ref 0, .ref 66]) rfl rfl rfl ?_
  refine ev_x (i := .iload 4) (len := 2) (p' := 385) (s' := [.int (nI n), .ref 0, .ref 66]) rfl rfl rfl ?_
  refine ev_x (i := .iconst 1) (len := 1) (p' := 386) (s' := [.int 1, .int (nI n), .ref 0, .ref 66]) rfl rfl rfl ?_
  refine ev_x (i := .iadd) (len := 1) (p' := 387) (s' := [.int ((nI n) + 1), .ref 0, .ref 66]) rfl rfl rfl ?_
  refine ev_st (st' := [.int (nI (n + 1)), .ref 0, .ref 66]) (congrArg (fun z => Value.int z :: [.ref 0, .ref 66]) (nI_add n 1)) ?_
  refine ev_sg (p' := 388) rfl rfl hs (vp_in_nI (by omega) (by omega)) rfl ?_
  refine ev_st (st' := [.int (xs (n + 1)), .ref 66]) (congrArg (fun z => Value.int (xs z) :: [.ref 66]) (nI_clamp (n := n + 1) (by omega))) ?_
  refine ev_x (i := .aload_n 0) (len := 1) (p' := 389) (s' := [.ref 0, .int (xs (n + 1)), .ref 66]) rfl rfl rfl ?_
  refine ev_x (i := .iload 4) (len := 2) (p' := 391) (s' := [.int (nI n), .ref 0, .int (xs (n + 1)), .ref 66]) rfl rfl rfl ?_
  refine ev_x (i := .iconst 2) (len := 1) (p' := 392) (s' := [.int 2, .int (nI n), .ref 0, .int (xs (n + 1)), .ref 66]) rfl rfl rfl ?_
  refine ev_x (i := .iadd) (len := 1) (p' := 393) (s' := [.int ((nI n) + 2), .ref 0, .int (xs (n + 1)), .ref 66]) rfl rfl rfl ?_
  refine ev_st (st' := [.int (nI (n + 2)), .ref 0, .int (xs (n + 1)), .ref 66]) (congrArg (fun z => Value.int z :: [.ref 0, .int (xs (n + 1)), .ref 66]) (nI_add n 2)) ?_
  refine ev_sg (p' := 394) rfl rfl hs (vp_in_nI (by omega) (by omega)) rfl ?_
  refine ev_st (st' := [.int (xs (n + 2)), .int (xs (n + 1)), .ref 66]) (congrArg (fun z => Value.int (xs z) :: [.int (xs (n + 1)), .ref 66]) (nI_clamp (n := n + 2) (by omega))) ?_
  refine ev_cv (d := d + 3) (As := [.int (xs (n + 1)), .int (xs (n + 2))]) (a := 66) (p' := 397) rfl rfl rfl ly_66 rfl rfl rfl rfl rfl rfl rfl (lz_327 (d := d + 2) (hr_66_9 := hr_66_9) (c_1 := c_1) (c_2 := c_7) (c_3 := c_3) (c_4 := c_8) (c_5 := c_9)) ?_
  refine ev_st (st' := [.int (gE σ 171 ((((12 * (xs (n + 1))) + (xs (n + 2)))).toNatClampNeg))]) rfl ?_
  refine ev_x (i := .istore 6) (len := 2) (p' := 399) (s' := []) (l' := [(6, .int (gE σ 171 ((((12 * (xs (n + 1))) + (xs (n + 2)))).toNatClampNeg))), (5, .int 0), (4, .int (nI n)), (3, .ref 187), (2, .ref 66), (1, .ref 1), (0, .ref 0)]) rfl rfl rfl ?_
  refine ev_x (i := .aload_n 2) (len := 1) (p' := 400) (s' := [.ref 66]) rfl rfl rfl ?_
  refine ev_cv (d := d + 3) (As := []) (a := 66) (p' := 403) rfl rfl rfl ly_66 rfl rfl rfl rfl rfl rfl rfl (lz_270 (d := d + 2) (hi_66_0 := rfl)) ?_
  refine ev_st (st' := [.int 0]) rfl ?_
  refine ev_x (i := .iload 5) (len := 2) (p' := 405) (s' := [.int 0, .int 0]) rfl rfl rfl ?_
  refine ev_b2 (t := 410) (p' := 410) rfl rfl rfl (by decide) ?_
  refine ev_x (i := .iload 5) (len := 2) (p' := 412) (s' := [.int 0]) rfl rfl rfl ?_
  refine ev_b0 (t := 427) (p' := 415) rfl rfl rfl (by decide) ?_
  refine ev_x (i := .aload_n 3) (len := 1) (p' := 416) (s' := [.ref 187]) rfl rfl rfl ?_
  refine ev_x (i := .iconst 0) (len := 1) (p' := 417) (s' := [.int 0, .ref 187]) rfl rfl rfl ?_
  refine ev_gL (p' := 418) (v := ((gE σ 54 (((((xs (n + 1)) * 12) + (xs (n + 2)))).toNatClampNeg)) : Int32).toInt64) rfl rfl ly_187 rfl c_6 rfl ?_
  refine ev_x (i := .iload 6) (len := 2) (p' := 420) (s' := [.int (gE σ 171 ((((12 * (xs (n + 1))) + (xs (n + 2)))).toNatClampNeg)), .long ((gE σ 54 (((((xs (n + 1)) * 12) + (xs (n + 2)))).toNatClampNeg)) : Int32).toInt64]) rfl rfl rfl ?_
  refine ev_x (i := .i2l) (len := 1) (p' := 421) (s' := [.long ((gE σ 171 ((((12 * (xs (n + 1))) + (xs (n + 2)))).toNatClampNeg)) : Int32).toInt64, .long ((gE σ 54 (((((xs (n + 1)) * 12) + (xs (n + 2)))).toNatClampNeg)) : Int32).toInt64]) rfl rfl rfl ?_
  refine ev_x (i := .lcmp) (len := 1) (p' := 422) (s' := [.int (lg_cmp ((gE σ 54 (((((xs (n + 1)) * 12) + (xs (n + 2)))).toNatClampNeg)) : Int32).toInt64 ((gE σ 171 ((((12 * (xs (n + 1))) + (xs (n + 2)))).toNatClampNeg)) : Int32).toInt64)]) rfl rfl rfl ?_
  refine ev_b0 (t := 427) (p' := 427) rfl rfl rfl (if_pos c_10) ?_
  refine ev_x (i := .goto 188) (len := 3) (p' := 615) (s' := []) rfl rfl rfl ?_
  exact k
set_option maxHeartbeats 4000000 in
set_option maxRecDepth 100000 in
/-- GameText.items(I)I -/
theorem lz_330 {d : Nat} {σ : st_S} {y_1 : Int32} (hr_1_5 : σ.2.2.1 1 5 = 20) (c_1 : ¬ (σ.1 1 7) = 0) (c_2 : y_1 = 0) : vz_ev P0 (d + 1) 93 0 (lv_args 0 [.ref 1, .int y_1]) [] (hp σ) (.inl (some (.int (σ.1 20 7))), hp (σ)) := by
  refine ev_x (i := .aload_n 0) (len := 1) (p' := 1) (s' := [.ref 1]) rfl rfl rfl ?_
  refine ev_gi (p' := 4) (v := (σ.1 1 7)) rfl rfl rfl ly_1 rfl rfl rfl ?_
  refine ev_b0 (t := 9) (p' := 9) rfl rfl rfl (if_pos c_1) ?_
  refine ev_x (i := .iload_n 1) (len := 1) (p' := 10) (s' := [.int y_1]) rfl rfl rfl ?_
  refine ev_st (st' := [.int 0]) (congrArg (fun z => Value.int z :: []) c_2) ?_
  refine ev_ts (off := 26) (t := 36) rfl rfl (by decide) rfl ?_
  refine ev_x (i := .aload_n 0) (len := 1) (p' := 37) (s' := [.ref 1]) rfl rfl rfl ?_
  refine ev_gr (p' := 40) (v := 20) rfl rfl rfl ly_1 rfl rfl hr_1_5 ?_
  refine ev_gi (p' := 43) (v := (σ.1 20 7)) rfl rfl rfl ly_20 rfl rfl rfl ?_
  exact ev_iret rfl rfl rfl rfl
set_option maxHeartbeats 4000000 in
set_option maxRecDepth 100000 in
/-- GameTextModel.items(I)I -/
theorem lz_331 {d : Nat} {σ : st_S} {y_1 : Int32} (hr_66_9 : σ.2.2.1 66 9 = 115) (c_1 : ¬ (σ.1 66 11) = 0) (c_2 : ¬ (¬ y_1 = 0)) : vz_ev P0 (d + 1) 209 0 (lv_args 0 [.ref 66, .int y_1]) [] (hp σ) (.inl (some (.int (σ.1 115 12))), hp (st_i (σ) 66 0 0)) := by
  refine ev_x (i := .aload_n 0) (len := 1) (p' := 1) (s' := [.ref 66]) rfl rfl rfl ?_
  refine ev_x (i := .iconst 0) (len := 1) (p' := 2) (s' := [.int 0, .ref 66]) rfl rfl rfl ?_
  refine ev_pi (p' := 5) rfl rfl rfl ly_66 rfl rfl rfl rfl ?_
  refine ev_x (i := .aload_n 0) (len := 1) (p' := 6) (s' := [.ref 66]) rfl rfl rfl ?_
  refine ev_gi (p' := 9) (v := (σ.1 66 11)) rfl rfl rfl ly_66 rfl rfl rfl ?_
  refine ev_b0 (t := 16) (p' := 16) rfl rfl rfl (if_pos c_1) ?_
  refine ev_x (i := .iload_n 1) (len := 1) (p' := 17) (s' := [.int y_1]) rfl rfl rfl ?_
  refine ev_b0 (t := 30) (p' := 20) rfl rfl rfl (if_neg c_2) ?_
  refine ev_x (i := .aload_n 0) (len := 1) (p' := 21) (s' := [.ref 66]) rfl rfl rfl ?_
  refine ev_gr (p' := 24) (v := 115) rfl rfl rfl ly_66 rfl rfl hr_66_9 ?_
  refine ev_gi (p' := 27) (v := (σ.1 115 12)) rfl rfl rfl ly_115 rfl rfl rfl ?_
  refine ev_x (i := .goto 34) (len := 3) (p' := 61) (s' := [.int (σ.1 115 12)]) rfl rfl rfl ?_
  exact ev_iret rfl rfl rfl rfl
set_option maxHeartbeats 4000000 in
set_option maxRecDepth 100000 in
/-- GameTextLaw.law([I)Z -/
theorem lw_40_b0 {d : Nat} {σ : st_S} {q : vz_O × vz_H} {n L : Nat} {xs : Nat → Int32} (hs : gF σ 0 = .inl (0, L, .inl xs)) (hn : n + 6 ≤ L) (hL : L ≤ 3072) (hr_1_5 : σ.2.2.1 1 5 = 20) (hr_66_9 : σ.2.2.1 66 9 = 115) (c_1 : ¬ (σ.1 1 7) = 0) (c_2 : (xs (n + 1)) = 0) (c_3 : ¬ (σ.1 66 11) = 0) (c_4 : ¬ (¬ (xs (n + 1)) = 0)) (c_5 : (σ.1 20 7) = (σ.1 115 12)) (k : vz_ev P0 (d + 2) 0 615 [(4, .int (nI n)), (3, .ref 187), (2, .ref 66), (1, .ref 1), (0, .ref 0)] [] (hp (st_i (σ) 66 0 0)) q) : vz_ev P0 (d + 2) 0 267 [(4, .int (nI n)), (3, .ref 187), (2, .ref 66), (1, .ref 1), (0, .ref 0)] [] (hp σ) q := by
  refine ev_x (i := .aload_n 1) (len := 1) (p' := 268) (s' := [.ref 1]) rfl rfl rfl ?_
  refine ev_x (i := .aload_n 0) (len := 1) (p' := 269) (s' := [.ref 0, .ref 1]) rfl rfl rfl ?_
  refine ev_x (i := .iload 4) (len := 2) (p' := 271) (s' := [.int (nI n), .ref 0, .ref 1]) rfl rfl rfl ?_
  refine ev_x (i := .iconst 1) (len := 1) (p' := 272) (s' := [.int 1, .int (nI n), .ref 0, .ref 1]) rfl rfl rfl ?_
  refine ev_x (i := .iadd) (len := 1) (p' := 273) (s' := [.int ((nI n) + 1), .ref 0, .ref 1]) rfl rfl rfl ?_
  refine ev_st (st' := [.int (nI (n + 1)), .ref 0, .ref 1]) (congrArg (fun z => Value.int z :: [.ref 0, .ref 1]) (nI_add n 1)) ?_
  refine ev_sg (p' := 274) rfl rfl hs (vp_in_nI (by omega) (by omega)) rfl ?_
  refine ev_st (st' := [.int (xs (n + 1)), .ref 1]) (congrArg (fun z => Value.int (xs z) :: [.ref 1]) (nI_clamp (n := n + 1) (by omega))) ?_
  refine ev_cv (d := d + 1) (As := [.int (xs (n + 1))]) (a := 1) (p' := 277) rfl rfl rfl ly_1 rfl rfl rfl rfl rfl rfl rfl (lz_330 (d := d + 0) (hr_1_5 := hr_1_5) (c_1 := c_1) (c_2 := c_2)) ?_
  refine ev_st (st' := [.int (σ.1 20 7)]) rfl ?_
  refine ev_x (i := .aload_n 2) (len := 1) (p' := 278) (s' := [.ref 66, .int (σ.1 20 7)]) rfl rfl rfl ?_
  refine ev_x (i := .aload_n 0) (len := 1) (p' := 279) (s' := [.ref 0, .ref 66, .int (σ.1 20 7)]) rfl rfl rfl ?_
  refine ev_x (i := .iload 4) (len := 2) (p' := 281) (s' := [.int (nI n), .ref 0, .ref 66, .int (σ.1 20 7)]) rfl rfl rfl ?_
  refine ev_x (i := .iconst 1) (len := 1) (p' := 282) (s' := [.int 1, .int (nI n), .ref 0, .ref 66, .int (σ.1 20 7)]) rfl rfl rfl ?_
  refine ev_x (i := .iadd) (len := 1) (p' := 283) (s' := [.int ((nI n) + 1), .ref 0, .ref 66, .int (σ.1 20 7)]) rfl rfl rfl ?_
  refine ev_st (st' := [.int (nI (n + 1)), .ref 0, .ref 66, .int (σ.1 20 7)]) (congrArg (fun z => Value.int z :: [.ref 0, .ref 66, .int (σ.1 20 7)]) (nI_add n 1)) ?_
  refine ev_sg (p' := 284) rfl rfl hs (vp_in_nI (by omega) (by omega)) rfl ?_
  refine ev_st (st' := [.int (xs (n + 1)), .ref 66, .int (σ.1 20 7)]) (congrArg (fun z => Value.int (xs z) :: [.ref 66, .int (σ.1 20 7)]) (nI_clamp (n := n + 1) (by omega))) ?_
  refine ev_cv (d := d + 1) (As := [.int (xs (n + 1))]) (a := 66) (p' := 287) rfl rfl rfl ly_66 rfl rfl rfl rfl rfl rfl rfl (lz_331 (d := d + 0) (hr_66_9 := hr_66_9) (c_1 := c_3) (c_2 := c_4)) ?_
  refine ev_st (st' := [.int (σ.1 115 12), .int (σ.1 20 7)]) rfl ?_
  refine ev_b2 (t := 615) (p' := 615) rfl rfl rfl (if_pos c_5) ?_
  exact k
set_option maxHeartbeats 4000000 in
set_option maxRecDepth 100000 in
/-- GameText.items(I)I -/
theorem lz_333 {d : Nat} {σ : st_S} {y_1 : Int32} (hr_1_5 : σ.2.2.1 1 5 = 20) (c_1 : ¬ (σ.1 1 7) = 0) (c_2 : y_1 = 1) : vz_ev P0 (d + 1) 93 0 (lv_args 0 [.ref 1, .int y_1]) [] (hp σ) (.inl (some (.int (σ.1 20 8))), hp (σ)) := by
  refine ev_x (i := .aload_n 0) (len := 1) (p' := 1) (s' := [.ref 1]) rfl rfl rfl ?_
  refine ev_gi (p' := 4) (v := (σ.1 1 7)) rfl rfl rfl ly_1 rfl rfl rfl ?_
  refine ev_b0 (t := 9) (p' := 9) rfl rfl rfl (if_pos c_1) ?_
  refine ev_x (i := .iload_n 1) (len := 1) (p' := 10) (s' := [.int y_1]) rfl rfl rfl ?_
  refine ev_st (st' := [.int 1]) (congrArg (fun z => Value.int z :: []) c_2) ?_
  refine ev_ts (off := 34) (t := 44) rfl rfl (by decide) rfl ?_
  refine ev_x (i := .aload_n 0) (len := 1) (p' := 45) (s' := [.ref 1]) rfl rfl rfl ?_
  refine ev_gr (p' := 48) (v := 20) rfl rfl rfl ly_1 rfl rfl hr_1_5 ?_
  refine ev_gi (p' := 51) (v := (σ.1 20 8)) rfl rfl rfl ly_20 rfl rfl rfl ?_
  exact ev_iret rfl rfl rfl rfl
set_option maxHeartbeats 4000000 in
set_option maxRecDepth 100000 in
/-- GameTextModel.items(I)I -/
theorem lz_334 {d : Nat} {σ : st_S} {y_1 : Int32} (hr_66_9 : σ.2.2.1 66 9 = 115) (c_1 : ¬ (σ.1 66 11) = 0) (c_2 : ¬ y_1 = 0) (c_3 : ¬ (¬ y_1 = 1)) : vz_ev P0 (d + 1) 209 0 (lv_args 0 [.ref 66, .int y_1]) [] (hp σ) (.inl (some (.int (σ.1 115 6))), hp (st_i (σ) 66 0 0)) := by
  refine ev_x (i := .aload_n 0) (len := 1) (p' := 1) (s' := [.ref 66]) rfl rfl rfl ?_
  refine ev_x (i := .iconst 0) (len := 1) (p' := 2) (s' := [.int 0, .ref 66]) rfl rfl rfl ?_
  refine ev_pi (p' := 5) rfl rfl rfl ly_66 rfl rfl rfl rfl ?_
  refine ev_x (i := .aload_n 0) (len := 1) (p' := 6) (s' := [.ref 66]) rfl rfl rfl ?_
  refine ev_gi (p' := 9) (v := (σ.1 66 11)) rfl rfl rfl ly_66 rfl rfl rfl ?_
  refine ev_b0 (t := 16) (p' := 16) rfl rfl rfl (if_pos c_1) ?_
  refine ev_x (i := .iload_n 1) (len := 1) (p' := 17) (s' := [.int y_1]) rfl rfl rfl ?_
  refine ev_b0 (t := 30) (p' := 30) rfl rfl rfl (if_pos c_2) ?_
  refine ev_x (i := .iload_n 1) (len := 1) (p' := 31) (s' := [.int y_1]) rfl rfl rfl ?_
  refine ev_x (i := .iconst 1) (len := 1) (p' := 32) (s' := [.int 1, .int y_1]) rfl rfl rfl ?_
  refine ev_b2 (t := 45) (p' := 35) rfl rfl rfl (if_neg c_3) ?_
  refine ev_x (i := .aload_n 0) (len := 1) (p' := 36) (s' := [.ref 66]) rfl rfl rfl ?_
  refine ev_gr (p' := 39) (v := 115) rfl rfl rfl ly_66 rfl rfl hr_66_9 ?_
  refine ev_gi (p' := 42) (v := (σ.1 115 6)) rfl rfl rfl ly_115 rfl rfl rfl ?_
  refine ev_x (i := .goto 19) (len := 3) (p' := 61) (s' := [.int (σ.1 115 6)]) rfl rfl rfl ?_
  exact ev_iret rfl rfl rfl rfl
set_option maxHeartbeats 4000000 in
set_option maxRecDepth 100000 in
/-- GameTextLaw.law([I)Z -/
theorem lw_41_b0 {d : Nat} {σ : st_S} {q : vz_O × vz_H} {n L : Nat} {xs : Nat → Int32} (hs : gF σ 0 = .inl (0, L, .inl xs)) (hn : n + 6 ≤ L) (hL : L ≤ 3072) (hr_1_5 : σ.2.2.1 1 5 = 20) (hr_66_9 : σ.2.2.1 66 9 = 115) (c_1 : ¬ (σ.1 1 7) = 0) (c_2 : (xs (n + 1)) = 1) (c_3 : ¬ (σ.1 66 11) = 0) (c_4 : ¬ (xs (n + 1)) = 0) (c_5 : ¬ (¬ (xs (n + 1)) = 1)) (c_6 : (σ.1 20 8) = (σ.1 115 6)) (k : vz_ev P0 (d + 2) 0 615 [(4, .int (nI n)), (3, .ref 187), (2, .ref 66), (1, .ref 1), (0, .ref 0)] [] (hp (st_i (σ) 66 0 0)) q) : vz_ev P0 (d + 2) 0 267 [(4, .int (nI n)), (3, .ref 187), (2, .ref 66), (1, .ref 1), (0, .ref 0)] [] (hp σ) q := by
  refine ev_x (i := .aload_n 1) (len := 1) (p' := 268) (s' := [.ref 1]) rfl rfl rfl ?_
  refine ev_x (i := .aload_n 0) (len := 1) (p' := 269) (s' := [.ref 0, .ref 1]) rfl rfl rfl ?_
  refine ev_x (i := .iload 4) (len := 2) (p' := 271) (s' := [.int (nI n), .ref 0, .ref 1]) rfl rfl rfl ?_
  refine ev_x (i := .iconst 1) (len := 1) (p' := 272) (s' := [.int 1, .int (nI n), .ref 0, .ref 1]) rfl rfl rfl ?_
  refine ev_x (i := .iadd) (len := 1) (p' := 273) (s' := [.int ((nI n) + 1), .ref 0, .ref 1]) rfl rfl rfl ?_
  refine ev_st (st' := [.int (nI (n + 1)), .ref 0, .ref 1]) (congrArg (fun z => Value.int z :: [.ref 0, .ref 1]) (nI_add n 1)) ?_
  refine ev_sg (p' := 274) rfl rfl hs (vp_in_nI (by omega) (by omega)) rfl ?_
  refine ev_st (st' := [.int (xs (n + 1)), .ref 1]) (congrArg (fun z => Value.int (xs z) :: [.ref 1]) (nI_clamp (n := n + 1) (by omega))) ?_
  refine ev_cv (d := d + 1) (As := [.int (xs (n + 1))]) (a := 1) (p' := 277) rfl rfl rfl ly_1 rfl rfl rfl rfl rfl rfl rfl (lz_333 (d := d + 0) (hr_1_5 := hr_1_5) (c_1 := c_1) (c_2 := c_2)) ?_
  refine ev_st (st' := [.int (σ.1 20 8)]) rfl ?_
  refine ev_x (i := .aload_n 2) (len := 1) (p' := 278) (s' := [.ref 66, .int (σ.1 20 8)]) rfl rfl rfl ?_
  refine ev_x (i := .aload_n 0) (len := 1) (p' := 279) (s' := [.ref 0, .ref 66, .int (σ.1 20 8)]) rfl rfl rfl ?_
  refine ev_x (i := .iload 4) (len := 2) (p' := 281) (s' := [.int (nI n), .ref 0, .ref 66, .int (σ.1 20 8)]) rfl rfl rfl ?_
  refine ev_x (i := .iconst 1) (len := 1) (p' := 282) (s' := [.int 1, .int (nI n), .ref 0, .ref 66, .int (σ.1 20 8)]) rfl rfl rfl ?_
  refine ev_x (i := .iadd) (len := 1) (p' := 283) (s' := [.int ((nI n) + 1), .ref 0, .ref 66, .int (σ.1 20 8)]) rfl rfl rfl ?_
  refine ev_st (st' := [.int (nI (n + 1)), .ref 0, .ref 66, .int (σ.1 20 8)]) (congrArg (fun z => Value.int z :: [.ref 0, .ref 66, .int (σ.1 20 8)]) (nI_add n 1)) ?_
  refine ev_sg (p' := 284) rfl rfl hs (vp_in_nI (by omega) (by omega)) rfl ?_
  refine ev_st (st' := [.int (xs (n + 1)), .ref 66, .int (σ.1 20 8)]) (congrArg (fun z => Value.int (xs z) :: [.ref 66, .int (σ.1 20 8)]) (nI_clamp (n := n + 1) (by omega))) ?_
  refine ev_cv (d := d + 1) (As := [.int (xs (n + 1))]) (a := 66) (p' := 287) rfl rfl rfl ly_66 rfl rfl rfl rfl rfl rfl rfl (lz_334 (d := d + 0) (hr_66_9 := hr_66_9) (c_1 := c_3) (c_2 := c_4) (c_3 := c_5)) ?_
  refine ev_st (st' := [.int (σ.1 115 6), .int (σ.1 20 8)]) rfl ?_
  refine ev_b2 (t := 615) (p' := 615) rfl rfl rfl (if_pos c_6) ?_
  exact k
set_option maxHeartbeats 4000000 in
set_option maxRecDepth 100000 in
/-- GameText.items(I)I -/
theorem lz_336 {d : Nat} {σ : st_S} {y_1 : Int32} (hr_1_5 : σ.2.2.1 1 5 = 20) (c_1 : ¬ (σ.1 1 7) = 0) (c_2 : y_1 = 2) : vz_ev P0 (d + 1) 93 0 (lv_args 0 [.ref 1, .int y_1]) [] (hp σ) (.inl (some (.int (σ.1 20 10))), hp (σ)) := by
  refine ev_x (i := .aload_n 0) (len := 1) (p' := 1) (s' := [.ref 1]) rfl rfl rfl ?_
  refine ev_gi (p' := 4) (v := (σ.1 1 7)) rfl rfl rfl ly_1 rfl rfl rfl ?_
  refine ev_b0 (t := 9) (p' := 9) rfl rfl rfl (if_pos c_1) ?_
  refine ev_x (i := .iload_n 1) (len := 1) (p' := 10) (s' := [.int y_1]) rfl rfl rfl ?_
  refine ev_st (st' := [.int 2]) (congrArg (fun z => Value.int z :: []) c_2) ?_
  refine ev_ts (off := 42) (t := 52) rfl rfl (by decide) rfl ?_
  refine ev_x (i := .aload_n 0) (len := 1) (p' := 53) (s' := [.ref 1]) rfl rfl rfl ?_
  refine ev_gr (p' := 56) (v := 20) rfl rfl rfl ly_1 rfl rfl hr_1_5 ?_
  refine ev_gi (p' := 59) (v := (σ.1 20 10)) rfl rfl rfl ly_20 rfl rfl rfl ?_
  exact ev_iret rfl rfl rfl rfl
set_option maxHeartbeats 4000000 in
set_option maxRecDepth 100000 in
/-- GameTextModel.items(I)I -/
theorem lz_337 {d : Nat} {σ : st_S} {y_1 : Int32} (hr_66_9 : σ.2.2.1 66 9 = 115) (c_1 : ¬ (σ.1 66 11) = 0) (c_2 : ¬ y_1 = 0) (c_3 : ¬ y_1 = 1) (c_4 : ¬ (¬ y_1 = 2)) : vz_ev P0 (d + 1) 209 0 (lv_args 0 [.ref 66, .int y_1]) [] (hp σ) (.inl (some (.int (σ.1 115 18))), hp (st_i (σ) 66 0 0)) := by
  refine ev_x (i := .aload_n 0) (len := 1) (p' := 1) (s' := [.ref 66]) rfl rfl rfl ?_
  refine ev_x (i := .iconst 0) (len := 1) (p' := 2) (s' := [.int 0, .ref 66]) rfl rfl rfl ?_
  refine ev_pi (p' := 5) rfl rfl rfl ly_66 rfl rfl rfl rfl ?_
  refine ev_x (i := .aload_n 0) (len := 1) (p' := 6) (s' := [.ref 66]) rfl rfl rfl ?_
  refine ev_gi (p' := 9) (v := (σ.1 66 11)) rfl rfl rfl ly_66 rfl rfl rfl ?_
  refine ev_b0 (t := 16) (p' := 16) rfl rfl rfl (if_pos c_1) ?_
  refine ev_x (i := .iload_n 1) (len := 1) (p' := 17) (s' := [.int y_1]) rfl rfl rfl ?_
  refine ev_b0 (t := 30) (p' := 30) rfl rfl rfl (if_pos c_2) ?_
  refine ev_x (i := .iload_n 1) (len := 1) (p' := 31) (s' := [.int y_1]) rfl rfl rfl ?_
  refine ev_x (i := .iconst 1) (len := 1) (p' := 32) (s' := [.int 1, .int y_1]) rfl rfl rfl ?_
  refine ev_b2 (t := 45) (p' := 45) rfl rfl rfl (if_pos c_3) ?_
  refine ev_x (i := .iload_n 1) (len := 1) (p' := 46) (s' := [.int y_1]) rfl rfl rfl ?_
  refine ev_x (i := .iconst 2) (len := 1) (p' := 47) (s' := [.int 2, .int y_1]) rfl rfl rfl ?_
  refine ev_b2 (t := 60) (p' := 50) rfl rfl rfl (if_neg c_4) ?_
  refine ev_x (i := .aload_n 0) (len := 1) (p' := 51) (s' := [.ref 66]) rfl rfl rfl ?_
  refine ev_gr (p' := 54) (v := 115) rfl rfl rfl ly_66 rfl rfl hr_66_9 ?_
  refine ev_gi (p' := 57) (v := (σ.1 115 18)) rfl rfl rfl ly_115 rfl rfl rfl ?_
  refine ev_x (i := .goto 4) (len := 3) (p' := 61) (s' := [.int (σ.1 115 18)]) rfl rfl rfl ?_
  exact ev_iret rfl rfl rfl rfl
set_option maxHeartbeats 4000000 in
set_option maxRecDepth 100000 in
/-- GameTextLaw.law([I)Z -/
theorem lw_42_b0 {d : Nat} {σ : st_S} {q : vz_O × vz_H} {n L : Nat} {xs : Nat → Int32} (hs : gF σ 0 = .inl (0, L, .inl xs)) (hn : n + 6 ≤ L) (hL : L ≤ 3072) (hr_1_5 : σ.2.2.1 1 5 = 20) (hr_66_9 : σ.2.2.1 66 9 = 115) (c_1 : ¬ (σ.1 1 7) = 0) (c_2 : (xs (n + 1)) = 2) (c_3 : ¬ (σ.1 66 11) = 0) (c_4 : ¬ (xs (n + 1)) = 0) (c_5 : ¬ (xs (n + 1)) = 1) (c_6 : ¬ (¬ (xs (n + 1)) = 2)) (c_7 : (σ.1 20 10) = (σ.1 115 18)) (k : vz_ev P0 (d + 2) 0 615 [(4, .int (nI n)), (3, .ref 187), (2, .ref 66), (1, .ref 1), (0, .ref 0)] [] (hp (st_i (σ) 66 0 0)) q) : vz_ev P0 (d + 2) 0 267 [(4, .int (nI n)), (3, .ref 187), (2, .ref 66), (1, .ref 1), (0, .ref 0)] [] (hp σ) q := by
  refine ev_x (i := .aload_n 1) (len := 1) (p' := 268) (s' := [.ref 1]) rfl rfl rfl ?_
  refine ev_x (i := .aload_n 0) (len := 1) (p' := 269) (s' := [.ref 0, .ref 1]) rfl rfl rfl ?_
  refine ev_x (i := .iload 4) (len := 2) (p' := 271) (s' := [.int (nI n), .ref 0, .ref 1]) rfl rfl rfl ?_
  refine ev_x (i := .iconst 1) (len := 1) (p' := 272) (s' := [.int 1, .int (nI n), .ref 0, .ref 1]) rfl rfl rfl ?_
  refine ev_x (i := .iadd) (len := 1) (p' := 273) (s' := [.int ((nI n) + 1), .ref 0, .ref 1]) rfl rfl rfl ?_
  refine ev_st (st' := [.int (nI (n + 1)), .ref 0, .ref 1]) (congrArg (fun z => Value.int z :: [.ref 0, .ref 1]) (nI_add n 1)) ?_
  refine ev_sg (p' := 274) rfl rfl hs (vp_in_nI (by omega) (by omega)) rfl ?_
  refine ev_st (st' := [.int (xs (n + 1)), .ref 1]) (congrArg (fun z => Value.int (xs z) :: [.ref 1]) (nI_clamp (n := n + 1) (by omega))) ?_
  refine ev_cv (d := d + 1) (As := [.int (xs (n + 1))]) (a := 1) (p' := 277) rfl rfl rfl ly_1 rfl rfl rfl rfl rfl rfl rfl (lz_336 (d := d + 0) (hr_1_5 := hr_1_5) (c_1 := c_1) (c_2 := c_2)) ?_
  refine ev_st (st' := [.int (σ.1 20 10)]) rfl ?_
  refine ev_x (i := .aload_n 2) (len := 1) (p' := 278) (s' := [.ref 66, .int (σ.1 20 10)]) rfl rfl rfl ?_
  refine ev_x (i := .aload_n 0) (len := 1) (p' := 279) (s' := [.ref 0, .ref 66, .int (σ.1 20 10)]) rfl rfl rfl ?_
  refine ev_x (i := .iload 4) (len := 2) (p' := 281) (s' := [.int (nI n), .ref 0, .ref 66, .int (σ.1 20 10)]) rfl rfl rfl ?_
  refine ev_x (i := .iconst 1) (len := 1) (p' := 282) (s' := [.int 1, .int (nI n), .ref 0, .ref 66, .int (σ.1 20 10)]) rfl rfl rfl ?_
  refine ev_x (i := .iadd) (len := 1) (p' := 283) (s' := [.int ((nI n) + 1), .ref 0, .ref 66, .int (σ.1 20 10)]) rfl rfl rfl ?_
  refine ev_st (st' := [.int (nI (n + 1)), .ref 0, .ref 66, .int (σ.1 20 10)]) (congrArg (fun z => Value.int z :: [.ref 0, .ref 66, .int (σ.1 20 10)]) (nI_add n 1)) ?_
  refine ev_sg (p' := 284) rfl rfl hs (vp_in_nI (by omega) (by omega)) rfl ?_
  refine ev_st (st' := [.int (xs (n + 1)), .ref 66, .int (σ.1 20 10)]) (congrArg (fun z => Value.int (xs z) :: [.ref 66, .int (σ.1 20 10)]) (nI_clamp (n := n + 1) (by omega))) ?_
  refine ev_cv (d := d + 1) (As := [.int (xs (n + 1))]) (a := 66) (p' := 287) rfl rfl rfl ly_66 rfl rfl rfl rfl rfl rfl rfl (lz_337 (d := d + 0) (hr_66_9 := hr_66_9) (c_1 := c_3) (c_2 := c_4) (c_3 := c_5) (c_4 := c_6)) ?_
  refine ev_st (st' := [.int (σ.1 115 18), .int (σ.1 20 10)]) rfl ?_
  refine ev_b2 (t := 615) (p' := 615) rfl rfl rfl (if_pos c_7) ?_
  exact k
set_option maxHeartbeats 4000000 in
set_option maxRecDepth 100000 in
/-- GameTextModel.end(I)I -/
theorem lz_341 {d : Nat} {σ : st_S} {y_1 : Int32} (hr_66_1 : σ.2.2.1 66 1 = 69) (c_1 : ¬ (y_1 < 0)) (c_2 : ¬ (20 < y_1)) (c_3 : ¬ (20 ≤ (σ.1 69 1))) : vz_ev P0 (d + 1) 134 0 (lv_args 0 [.ref 66, .int y_1]) [] (hp σ) (.inl (some (.int 0)), hp (st_i (σ) 66 0 1)) := by
  refine ev_x (i := .aload_n 0) (len := 1) (p' := 1) (s' := [.ref 66]) rfl rfl rfl ?_
  refine ev_x (i := .iload_n 1) (len := 1) (p' := 2) (s' := [.int y_1, .ref 66]) rfl rfl rfl ?_
  refine ev_b0 (t := 23) (p' := 5) rfl rfl rfl (if_neg c_1) ?_
  refine ev_x (i := .iload_n 1) (len := 1) (p' := 6) (s' := [.int y_1, .ref 66]) rfl rfl rfl ?_
  refine ev_x (i := .bipush 20) (len := 2) (p' := 8) (s' := [.int 20, .int y_1, .ref 66]) rfl rfl rfl ?_
  refine ev_b2 (t := 23) (p' := 11) rfl rfl rfl (if_neg c_2) ?_
  refine ev_x (i := .aload_n 0) (len := 1) (p' := 12) (s' := [.ref 66, .ref 66]) rfl rfl rfl ?_
  refine ev_gr (p' := 15) (v := 69) rfl rfl rfl ly_66 rfl rfl hr_66_1 ?_
  refine ev_gi (p' := 18) (v := (σ.1 69 1)) rfl rfl rfl ly_69 rfl rfl rfl ?_
  refine ev_x (i := .bipush 20) (len := 2) (p' := 20) (s' := [.int 20, .int (σ.1 69 1), .ref 66]) rfl rfl rfl ?_
  refine ev_b2 (t := 27) (p' := 23) rfl rfl rfl (if_neg c_3) ?_
  refine ev_x (i := .iconst 1) (len := 1) (p' := 24) (s' := [.int 1, .ref 66]) rfl rfl rfl ?_
  refine ev_x (i := .goto 4) (len := 3) (p' := 28) (s' := [.int 1, .ref 66]) rfl rfl rfl ?_
  refine ev_pi (p' := 31) rfl rfl rfl ly_66 rfl rfl rfl rfl ?_
  refine ev_x (i := .aload_n 0) (len := 1) (p' := 32) (s' := [.ref 66]) rfl rfl rfl ?_
  refine ev_gi (p' := 35) (v := 1) rfl rfl rfl ly_66 rfl rfl rfl ?_
  refine ev_b0 (t := 40) (p' := 38) rfl rfl rfl (by decide) ?_
  refine ev_x (i := .iconst 0) (len := 1) (p' := 39) (s' := [.int 0]) rfl rfl rfl ?_
  exact ev_iret rfl rfl rfl rfl
set_option maxHeartbeats 4000000 in
set_option maxRecDepth 100000 in
/-- GameTextLaw.law([I)Z -/
theorem lw_1f_b0 {d : Nat} {σ : st_S} {q : vz_O × vz_H} {n L : Nat} {xs : Nat → Int32} (hs : gF σ 0 = .inl (0, L, .inl xs)) (hn : n + 6 ≤ L) (hL : L ≤ 3072) (hr_66_1 : σ.2.2.1 66 1 = 69) (c_1 : ¬ ((xs (n + 1)) < 0)) (c_2 : (xs (n + 1)) ≤ 20) (c_3 : ¬ (20 ≤ (σ.1 2 1))) (c_4 : ¬ (20 < (xs (n + 1)))) (c_5 : ¬ (20 ≤ (σ.1 69 1))) (k : vz_ev P0 (d + 10) 0 615 [(6, .int 0), (5, .int 1), (4, .int (nI n)), (3, .ref 187), (2, .ref 66), (1, .ref 1), (0, .ref 0)] [] (hp (st_i (st_n (σ) 1 6) 66 0 1)) q) : vz_ev P0 (d + 10) 0 185 [(4, .int (nI n)), (3, .ref 187), (2, .ref 66), (1, .ref 1), (0, .ref 0)] [] (hp σ) q := by
  refine ev_x (i := .aload_n 1) (len := 1) (p' := 186) (s' := [.ref 1]) rfl rfl rfl ?_
  refine ev_x (i := .aload_n 0) (len := 1) (p' := 187) (s' := [.ref 0, .ref 1]) rfl rfl rfl ?_
  refine ev_x (i := .iload 4) (len := 2) (p' := 189) (s' := [.int (nI n), .ref 0, .ref 1]) rfl rfl rfl ?_
  refine ev_x (i := .iconst 1) (len := 1) (p' := 190) (s' := [.int 1, .int (nI n), .ref 0, .ref 1]) rfl rfl rfl ?_
  refine ev_x (i := .iadd) (len := 1) (p' := 191) (s' := [.int ((nI n) + 1), .ref 0, .ref 1]) rfl rfl rfl ?_
  refine ev_st (st' := [.int (nI (n + 1)), .ref 0, .ref 1]) (congrArg (fun z => Value.int z :: [.ref 0, .ref 1]) (nI_add n 1)) ?_
  refine ev_sg (p' := 192) rfl rfl hs (vp_in_nI (by omega) (by omega)) rfl ?_
  refine ev_st (st' := [.int (xs (n + 1)), .ref 1]) (congrArg (fun z => Value.int (xs z) :: [.ref 1]) (nI_clamp (n := n + 1) (by omega))) ?_
  refine ev_x (i := .aload_n 3) (len := 1) (p' := 193) (s' := [.ref 187, .int (xs (n + 1)), .ref 1]) rfl rfl rfl ?_
  refine ev_callS (d := d + 9) (As := [.ref 1, .int (xs (n + 1)), .ref 187]) rfl rfl rfl (by decide) rfl rfl rfl rfl rfl (lz_298 (d := d + 0) (c_1 := c_1) (c_2 := c_2) (c_3 := c_3)) ?_
  refine ev_st (st' := [.int 1]) rfl ?_
  refine ev_pc (pc' := 196) rfl ?_
  refine ev_x (i := .istore 5) (len := 2) (p' := 198) (s' := []) (l' := [(5, .int 1), (4, .int (nI n)), (3, .ref 187), (2, .ref 66), (1, .ref 1), (0, .ref 0)]) rfl rfl rfl ?_
  refine ev_x (i := .aload_n 2) (len := 1) (p' := 199) (s' := [.ref 66]) rfl rfl rfl ?_
  refine ev_x (i := .aload_n 0) (len := 1) (p' := 200) (s' := [.ref 0, .ref 66]) rfl rfl rfl ?_
  refine ev_x (i := .iload 4) (len := 2) (p' := 202) (s' := [.int (nI n), .ref 0, .ref 66]) rfl rfl rfl ?_
  refine ev_x (i := .iconst 1) (len := 1) (p' := 203) (s' := [.int 1, .int (nI n), .ref 0, .ref 66]) rfl rfl rfl ?_
  refine ev_x (i := .iadd) (len := 1) (p' := 204) (s' := [.int ((nI n) + 1), .ref 0, .ref 66]) rfl rfl rfl ?_
  refine ev_st (st' := [.int (nI (n + 1)), .ref 0, .ref 66]) (congrArg (fun z => Value.int z :: [.ref 0, .ref 66]) (nI_add n 1)) ?_
  refine ev_sg (p' := 205) rfl rfl hs (vp_in_nI (by omega) (by omega)) rfl ?_
  refine ev_st (st' := [.int (xs (n + 1)), .ref 66]) (congrArg (fun z => Value.int (xs z) :: [.ref 66]) (nI_clamp (n := n + 1) (by omega))) ?_
  refine ev_cv (d := d + 9) (As := [.int (xs (n + 1))]) (a := 66) (p' := 208) rfl rfl rfl ly_66 rfl rfl rfl rfl rfl rfl rfl (lz_341 (d := d + 8) (hr_66_1 := hr_66_1) (c_1 := c_1) (c_2 := c_4) (c_3 := c_5)) ?_
  refine ev_st (st' := [.int 0]) rfl ?_
  refine ev_x (i := .istore 6) (len := 2) (p' := 210) (s' := []) (l' := [(6, .int 0), (5, .int 1), (4, .int (nI n)), (3, .ref 187), (2, .ref 66), (1, .ref 1), (0, .ref 0)]) rfl rfl rfl ?_
  refine ev_x (i := .aload_n 2) (len := 1) (p' := 211) (s' := [.ref 66]) rfl rfl rfl ?_
  refine ev_cv (d := d + 9) (As := []) (a := 66) (p' := 214) rfl rfl rfl ly_66 rfl rfl rfl rfl rfl rfl rfl (lz_246 (d := d + 8) (hi_66_0 := rfl)) ?_
  refine ev_st (st' := [.int 1]) rfl ?_
  refine ev_x (i := .iload 5) (len := 2) (p' := 216) (s' := [.int 1, .int 1]) rfl rfl rfl ?_
  refine ev_b2 (t := 221) (p' := 221) rfl rfl rfl (by decide) ?_
  refine ev_x (i := .iload 5) (len := 2) (p' := 223) (s' := [.int 1]) rfl rfl rfl ?_
  refine ev_b0 (t := 238) (p' := 238) rfl rfl rfl (by decide) ?_
  refine ev_x (i := .goto 377) (len := 3) (p' := 615) (s' := []) rfl rfl rfl ?_
  exact k
set_option maxHeartbeats 4000000 in
set_option maxRecDepth 100000 in
/-- GameTextModel.end(I)I -/
theorem lz_346 {d : Nat} {σ : st_S} {y_1 : Int32} (hr_66_1 : σ.2.2.1 66 1 = 69) (c_1 : ¬ (y_1 < 0)) (c_2 : ¬ (20 < y_1)) (c_3 : 20 ≤ (σ.1 69 1)) : vz_ev P0 (d + 1) 134 0 (lv_args 0 [.ref 66, .int y_1]) [] (hp σ) (.inl (some (.int (((σ.1 69 1) - 20) + y_1))), hp (st_i (st_i (σ) 66 0 0) 69 1 (((σ.1 69 1) - 20) + y_1))) := by
  refine ev_x (i := .aload_n 0) (len := 1) (p' := 1) (s' := [.ref 66]) rfl rfl rfl ?_
  refine ev_x (i := .iload_n 1) (len := 1) (p' := 2) (s' := [.int y_1, .ref 66]) rfl rfl rfl ?_
  refine ev_b0 (t := 23) (p' := 5) rfl rfl rfl (if_neg c_1) ?_
  refine ev_x (i := .iload_n 1) (len := 1) (p' := 6) (s' := [.int y_1, .ref 66]) rfl rfl rfl ?_
  refine ev_x (i := .bipush 20) (len := 2) (p' := 8) (s' := [.int 20, .int y_1, .ref 66]) rfl rfl rfl ?_
  refine ev_b2 (t := 23) (p' := 11) rfl rfl rfl (if_neg c_2) ?_
  refine ev_x (i := .aload_n 0) (len := 1) (p' := 12) (s' := [.ref 66, .ref 66]) rfl rfl rfl ?_
  refine ev_gr (p' := 15) (v := 69) rfl rfl rfl ly_66 rfl rfl hr_66_1 ?_
  refine ev_gi (p' := 18) (v := (σ.1 69 1)) rfl rfl rfl ly_69 rfl rfl rfl ?_
  refine ev_x (i := .bipush 20) (len := 2) (p' := 20) (s' := [.int 20, .int (σ.1 69 1), .ref 66]) rfl rfl rfl ?_
  refine ev_b2 (t := 27) (p' := 27) rfl rfl rfl (if_pos c_3) ?_
  refine ev_x (i := .iconst 0) (len := 1) (p' := 28) (s' := [.int 0, .ref 66]) rfl rfl rfl ?_
  refine ev_pi (p' := 31) rfl rfl rfl ly_66 rfl rfl rfl rfl ?_
  refine ev_x (i := .aload_n 0) (len := 1) (p' := 32) (s' := [.ref 66]) rfl rfl rfl ?_
  refine ev_gi (p' := 35) (v := 0) rfl rfl rfl ly_66 rfl rfl rfl ?_
  refine ev_b0 (t := 40) (p' := 40) rfl rfl rfl (by decide) ?_
  refine ev_x (i := .aload_n 0) (len := 1) (p' := 41) (s' := [.ref 66]) rfl rfl rfl ?_
  refine ev_gr (p' := 44) (v := 69) rfl rfl rfl ly_66 rfl rfl hr_66_1 ?_
  refine ev_x (i := .aload_n 0) (len := 1) (p' := 45) (s' := [.ref 66, .ref 69]) rfl rfl rfl ?_
  refine ev_gr (p' := 48) (v := 69) rfl rfl rfl ly_66 rfl rfl hr_66_1 ?_
  refine ev_gi (p' := 51) (v := (σ.1 69 1)) rfl rfl rfl ly_69 rfl rfl rfl ?_
  refine ev_x (i := .bipush 20) (len := 2) (p' := 53) (s' := [.int 20, .int (σ.1 69 1), .ref 69]) rfl rfl rfl ?_
  refine ev_x (i := .isub) (len := 1) (p' := 54) (s' := [.int ((σ.1 69 1) - 20), .ref 69]) rfl rfl rfl ?_
  refine ev_x (i := .iload_n 1) (len := 1) (p' := 55) (s' := [.int y_1, .int ((σ.1 69 1) - 20), .ref 69]) rfl rfl rfl ?_
  refine ev_x (i := .iadd) (len := 1) (p' := 56) (s' := [.int (((σ.1 69 1) - 20) + y_1), .ref 69]) rfl rfl rfl ?_
  refine ev_pi (p' := 59) rfl rfl rfl ly_69 rfl rfl rfl rfl ?_
  refine ev_x (i := .aload_n 0) (len := 1) (p' := 60) (s' := [.ref 66]) rfl rfl rfl ?_
  refine ev_gr (p' := 63) (v := 69) rfl rfl rfl ly_66 rfl rfl hr_66_1 ?_
  refine ev_gi (p' := 66) (v := (((σ.1 69 1) - 20) + y_1)) rfl rfl rfl ly_69 rfl rfl rfl ?_
  exact ev_iret rfl rfl rfl rfl
set_option maxHeartbeats 4000000 in
set_option maxRecDepth 100000 in
/-- GameTextLaw.law([I)Z -/
theorem lw_1o_b0 {d : Nat} {σ : st_S} {q : vz_O × vz_H} {n L : Nat} {xs : Nat → Int32} (hs : gF σ 0 = .inl (0, L, .inl xs)) (hn : n + 6 ≤ L) (hL : L ≤ 3072) (hr_66_1 : σ.2.2.1 66 1 = 69) (c_1 : ¬ ((xs (n + 1)) < 0)) (c_2 : (xs (n + 1)) ≤ 20) (c_3 : 20 ≤ (σ.1 2 1)) (c_4 : vp_in 0 (gN σ 187)) (c_5 : ¬ (20 < (xs (n + 1)))) (c_6 : 20 ≤ (σ.1 69 1)) (c_7 : (lg_cmp ((((σ.1 2 1) - 20) + (xs (n + 1))) : Int32).toInt64 ((((σ.1 69 1) - 20) + (xs (n + 1))) : Int32).toInt64) = 0) (k : vz_ev P0 (d + 3) 0 615 [(6, .int (((σ.1 69 1) - 20) + (xs (n + 1)))), (5, .int 0), (4, .int (nI n)), (3, .ref 187), (2, .ref 66), (1, .ref 1), (0, .ref 0)] [] (hp (st_i (st_i (st_E (st_i (σ) 2 1 (((σ.1 2 1) - 20) + (xs (n + 1)))) 187 0 ((((σ.1 2 1) - 20) + (xs (n + 1))) : Int32).toInt64) 66 0 0) 69 1 (((σ.1 69 1) - 20) + (xs (n + 1))))) q) : vz_ev P0 (d + 3) 0 185 [(4, .int (nI n)), (3, .ref 187), (2, .ref 66), (1, .ref 1), (0, .ref 0)] [] (hp σ) q := by
  refine ev_x (i := .aload_n 1) (len := 1) (p' := 186) (s' := [.ref 1]) rfl rfl rfl ?_
  refine ev_x (i := .aload_n 0) (len := 1) (p' := 187) (s' := [.ref 0, .ref 1]) rfl rfl rfl ?_
  refine ev_x (i := .iload 4) (len := 2) (p' := 189) (s' := [.int (nI n), .ref 0, .ref 1]) rfl rfl rfl ?_
  refine ev_x (i := .iconst 1) (len := 1) (p' := 190) (s' := [.int 1, .int (nI n), .ref 0, .ref 1]) rfl rfl rfl ?_
  refine ev_x (i := .iadd) (len := 1) (p' := 191) (s' := [.int ((nI n) + 1), .ref 0, .ref 1]) rfl rfl rfl ?_
  refine ev_st (st' := [.int (nI (n + 1)), .ref 0, .ref 1]) (congrArg (fun z => Value.int z :: [.ref 0, .ref 1]) (nI_add n 1)) ?_
  refine ev_sg (p' := 192) rfl rfl hs (vp_in_nI (by omega) (by omega)) rfl ?_
  refine ev_st (st' := [.int (xs (n + 1)), .ref 1]) (congrArg (fun z => Value.int (xs z) :: [.ref 1]) (nI_clamp (n := n + 1) (by omega))) ?_
  refine ev_x (i := .aload_n 3) (len := 1) (p' := 193) (s' := [.ref 187, .int (xs (n + 1)), .ref 1]) rfl rfl rfl ?_
  refine ev_callS (d := d + 2) (As := [.ref 1, .int (xs (n + 1)), .ref 187]) rfl rfl rfl (by decide) rfl rfl rfl rfl rfl (lz_303 (d := d + 0) (c_1 := c_1) (c_2 := c_2) (c_3 := c_3) (c_4 := c_4)) ?_
  refine ev_st (st' := [.int 0]) rfl ?_
  refine ev_pc (pc' := 196) rfl ?_
  refine ev_x (i := .istore 5) (len := 2) (p' := 198) (s' := []) (l' := [(5, .int 0), (4, .int (nI n)), (3, .ref 187), (2, .ref 66), (1, .ref 1), (0, .ref 0)]) rfl rfl rfl ?_
  refine ev_x (i := .aload_n 2) (len := 1) (p' := 199) (s' := [.ref 66]) rfl rfl rfl ?_
  refine ev_x (i := .aload_n 0) (len := 1) (p' := 200) (s' := [.ref 0, .ref 66]) rfl rfl rfl ?_
  refine ev_x (i := .iload 4) (len := 2) (p' := 202) (s' := [.int (nI n), .ref 0, .ref 66]) rfl rfl rfl ?_
  refine ev_x (i := .iconst 1) (len := 1) (p' := 203) (s' := [.int 1, .int (nI n), .ref 0, .ref 66]) rfl rfl rfl ?_
  refine ev_x (i := .iadd) (len := 1) (p' := 204) (s' := [.int ((nI n) + 1), .ref 0, .ref 66]) rfl rfl rfl ?_
  refine ev_st (st' := [.int (nI (n + 1)), .ref 0, .ref 66]) (congrArg (fun z => Value.int z :: [.ref 0, .ref 66]) (nI_add n 1)) ?_
  refine ev_sg (p' := 205) rfl rfl hs (vp_in_nI (by omega) (by omega)) rfl ?_
  refine ev_st (st' := [.int (xs (n + 1)), .ref 66]) (congrArg (fun z => Value.int (xs z) :: [.ref 66]) (nI_clamp (n := n + 1) (by omega))) ?_
  refine ev_cv (d := d + 2) (As := [.int (xs (n + 1))]) (a := 66) (p' := 208) rfl rfl rfl ly_66 rfl rfl rfl rfl rfl rfl rfl (lz_346 (d := d + 1) (hr_66_1 := hr_66_1) (c_1 := c_1) (c_2 := c_5) (c_3 := c_6)) ?_
  refine ev_st (st' := [.int (((σ.1 69 1) - 20) + (xs (n + 1)))]) rfl ?_
  refine ev_x (i := .istore 6) (len := 2) (p' := 210) (s' := []) (l' := [(6, .int (((σ.1 69 1) - 20) + (xs (n + 1)))), (5, .int 0), (4, .int (nI n)), (3, .ref 187), (2, .ref 66), (1, .ref 1), (0, .ref 0)]) rfl rfl rfl ?_
  refine ev_x (i := .aload_n 2) (len := 1) (p' := 211) (s' := [.ref 66]) rfl rfl rfl ?_
  refine ev_cv (d := d + 2) (As := []) (a := 66) (p' := 214) rfl rfl rfl ly_66 rfl rfl rfl rfl rfl rfl rfl (lz_270 (d := d + 1) (hi_66_0 := rfl)) ?_
  refine ev_st (st' := [.int 0]) rfl ?_
  refine ev_x (i := .iload 5) (len := 2) (p' := 216) (s' := [.int 0, .int 0]) rfl rfl rfl ?_
  refine ev_b2 (t := 221) (p' := 221) rfl rfl rfl (by decide) ?_
  refine ev_x (i := .iload 5) (len := 2) (p' := 223) (s' := [.int 0]) rfl rfl rfl ?_
  refine ev_b0 (t := 238) (p' := 226) rfl rfl rfl (by decide) ?_
  refine ev_x (i := .aload_n 3) (len := 1) (p' := 227) (s' := [.ref 187]) rfl rfl rfl ?_
  refine ev_x (i := .iconst 0) (len := 1) (p' := 228) (s' := [.int 0, .ref 187]) rfl rfl rfl ?_
  refine ev_gL (p' := 229) (v := ((((σ.1 2 1) - 20) + (xs (n + 1))) : Int32).toInt64) rfl rfl ly_187 rfl c_4 rfl ?_
  refine ev_x (i := .iload 6) (len := 2) (p' := 231) (s' := [.int (((σ.1 69 1) - 20) + (xs (n + 1))), .long ((((σ.1 2 1) - 20) + (xs (n + 1))) : Int32).toInt64]) rfl rfl rfl ?_
  refine ev_x (i := .i2l) (len := 1) (p' := 232) (s' := [.long ((((σ.1 69 1) - 20) + (xs (n + 1))) : Int32).toInt64, .long ((((σ.1 2 1) - 20) + (xs (n + 1))) : Int32).toInt64]) rfl rfl rfl ?_
  refine ev_x (i := .lcmp) (len := 1) (p' := 233) (s' := [.int (lg_cmp ((((σ.1 2 1) - 20) + (xs (n + 1))) : Int32).toInt64 ((((σ.1 69 1) - 20) + (xs (n + 1))) : Int32).toInt64)]) rfl rfl rfl ?_
  refine ev_b0 (t := 238) (p' := 238) rfl rfl rfl (if_pos c_7) ?_
  refine ev_x (i := .goto 377) (len := 3) (p' := 615) (s' := []) rfl rfl rfl ?_
  exact k
