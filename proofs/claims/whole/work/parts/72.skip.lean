/-! skipBlanks, a step. Written by wip/prog/gen_skip.py -/
set_option maxHeartbeats 4000000 in
set_option maxRecDepth 100000 in
/-- GameText$Words.skipBlanks()V -/
theorem sb_end {d : Nat} {σ : st_S} {x_m : Int32} {n i : Nat} (hn : n ≤ 40000) (hi : i ≤ 40000) {lv : vz_L} (g_0 : vz_g lv 0 = some (.ref 2)) (g_1 : vz_g lv 1 = some (.int x_m)) (hnb : vz_nbL (vz_gr P0) lv = true) (hi_2_2 : σ.1 2 2 = nI i) (hi_2_1 : σ.1 2 1 = nI n) (c_1 : (nI n) ≤ (nI i)) : vz_ev P0 (d + 1) 18 2 (lv) [] (hp σ) (.inl none, hp (σ)) := by
  refine ev_x (i := .aload_n 0) (len := 1) (p' := 3) (s' := [.ref 2]) rfl rfl (ld_a g_0) ?_
  refine ev_gi (p' := 6) (v := (nI i)) rfl rfl rfl ly_2 rfl rfl hi_2_2 ?_
  refine ev_x (i := .aload_n 0) (len := 1) (p' := 7) (s' := [.ref 2, .int (nI i)]) rfl rfl (ld_a g_0) ?_
  refine ev_gi (p' := 10) (v := (nI n)) rfl rfl rfl ly_2 rfl rfl hi_2_1 ?_
  refine ev_b2 (t := 91) (p' := 91) rfl rfl rfl (if_pos c_1) ?_
  exact ev_vret rfl rfl rfl
set_option maxHeartbeats 4000000 in
set_option maxRecDepth 100000 in
/-- GameText$Words.skipBlanks()V -/
theorem sb_note {d : Nat} {σ : st_S} {x_m : Int32} {q : vz_O × vz_H} {n i : Nat} (hn : n ≤ 40000) (hi : i ≤ 40000) {lv : vz_L} (g_0 : vz_g lv 0 = some (.ref 2)) (g_1 : vz_g lv 1 = some (.int x_m)) (hnb : vz_nbL (vz_gr P0) lv = true) (hi_2_2 : σ.1 2 2 = nI i) (hi_2_1 : σ.1 2 1 = nI n) (c_1 : ¬ ((nI n) ≤ (nI i))) (c_2 : vp_in (nI i) (gN σ 3)) (c_3 : ¬ (x_m = 0)) (c_4 : ¬ ((gE σ 3 (i)) = 10)) (k : ∀ lv' : vz_L, vz_g lv' 0 = some (.ref 2) → vz_g lv' 1 = some (.int 1) → vz_nbL (vz_gr P0) lv' = true → vz_ev P0 (d + 1) 18 2 lv' [] (hp (st_i (σ) 2 2 (nI (i + 1)))) q) : vz_ev P0 (d + 1) 18 2 lv [] (hp σ) q := by
  refine ev_x (i := .aload_n 0) (len := 1) (p' := 3) (s' := [.ref 2]) rfl rfl (ld_a g_0) ?_
  refine ev_gi (p' := 6) (v := (nI i)) rfl rfl rfl ly_2 rfl rfl hi_2_2 ?_
  refine ev_x (i := .aload_n 0) (len := 1) (p' := 7) (s' := [.ref 2, .int (nI i)]) rfl rfl (ld_a g_0) ?_
  refine ev_gi (p' := 10) (v := (nI n)) rfl rfl rfl ly_2 rfl rfl hi_2_1 ?_
  refine ev_b2 (t := 91) (p' := 13) rfl rfl rfl (if_neg c_1) ?_
  refine ev_x (i := .aload_n 0) (len := 1) (p' := 14) (s' := [.ref 2]) rfl rfl (ld_a g_0) ?_
  refine ev_gc (p' := 17) (v := 3) rfl rfl rfl ly_2 rfl rfl ?_
  refine ev_x (i := .aload_n 0) (len := 1) (p' := 18) (s' := [.ref 2, .ref 3]) rfl rfl (ld_a g_0) ?_
  refine ev_gi (p' := 21) (v := (nI i)) rfl rfl rfl ly_2 rfl rfl hi_2_2 ?_
  refine ev_ga (p' := 22) (v := (gE σ 3 (i))) rfl rfl ly_3 rfl c_2 (congrArg (gE σ 3) (nI_clamp (n := i) (by omega))) ?_
  refine ev_x (i := .istore_n 2) (len := 1) (p' := 23) (s' := []) (l' := vz_s1 (lv) 2 (.int (gE σ 3 (i)))) rfl rfl rfl ?_
  refine ev_x (i := .iload_n 1) (len := 1) (p' := 24) (s' := [.int x_m]) rfl rfl (ld_i (vg_o g_1 (by decide) (Or.inl rfl))) ?_
  refine ev_b0 (t := 42) (p' := 27) rfl rfl rfl (if_neg c_3) ?_
  refine ev_x (i := .iload_n 2) (len := 1) (p' := 28) (s' := [.int (gE σ 3 (i))]) rfl rfl (ld_i (vg_s (lv) 2 (.int (gE σ 3 (i))))) ?_
  refine ev_x (i := .bipush 10) (len := 2) (p' := 30) (s' := [.int 10, .int (gE σ 3 (i))]) rfl rfl rfl ?_
  refine ev_b2 (t := 37) (p' := 33) rfl rfl rfl (if_neg c_4) ?_
  refine ev_x (i := .iconst 1) (len := 1) (p' := 34) (s' := [.int 1]) rfl rfl rfl ?_
  refine ev_x (i := .goto 4) (len := 3) (p' := 38) (s' := [.int 1]) rfl rfl rfl ?_
  refine ev_x (i := .istore_n 1) (len := 1) (p' := 39) (s' := []) (l' := vz_s1 (vz_s1 (lv) 2 (.int (gE σ 3 (i)))) 1 (.int 1)) rfl rfl rfl ?_
  refine ev_x (i := .goto 39) (len := 3) (p' := 78) (s' := []) rfl rfl rfl ?_
  refine ev_x (i := .aload_n 0) (len := 1) (p' := 79) (s' := [.ref 2]) rfl rfl (ld_a (vg_o (vg_o g_0 (by decide) (Or.inl rfl)) (by decide) (Or.inl rfl))) ?_
  refine ev_x (i := .dup) (len := 1) (p' := 80) (s' := [.ref 2, .ref 2]) rfl rfl rfl ?_
  refine ev_gi (p' := 83) (v := (nI i)) rfl rfl rfl ly_2 rfl rfl hi_2_2 ?_
  refine ev_x (i := .iconst 1) (len := 1) (p' := 84) (s' := [.int 1, .int (nI i), .ref 2]) rfl rfl rfl ?_
  refine ev_x (i := .iadd) (len := 1) (p' := 85) (s' := [.int ((nI i) + 1), .ref 2]) rfl rfl rfl ?_
  refine ev_st (st' := [.int (nI (i + 1)), .ref 2]) (congrArg (fun z => Value.int z :: [.ref 2]) (nI_add i 1)) ?_
  refine ev_pi (p' := 88) rfl rfl rfl ly_2 rfl rfl rfl rfl ?_
  refine ev_x (i := .goto (-86)) (len := 3) (p' := 2) (s' := []) rfl rfl rfl ?_
  exact k _ (vg_o (vg_o g_0 (by decide) (Or.inl rfl)) (by decide) (Or.inl rfl)) (vg_s (vz_s1 (lv) 2 (.int (gE σ 3 (i)))) 1 (.int 1)) (nb_s1 (nb_s1 hnb rfl) rfl)
set_option maxHeartbeats 4000000 in
set_option maxRecDepth 100000 in
/-- GameText$Words.skipBlanks()V -/
theorem sb_nl {d : Nat} {σ : st_S} {x_m : Int32} {q : vz_O × vz_H} {n i : Nat} (hn : n ≤ 40000) (hi : i ≤ 40000) {lv : vz_L} (g_0 : vz_g lv 0 = some (.ref 2)) (g_1 : vz_g lv 1 = some (.int x_m)) (hnb : vz_nbL (vz_gr P0) lv = true) (hi_2_2 : σ.1 2 2 = nI i) (hi_2_1 : σ.1 2 1 = nI n) (c_1 : ¬ ((nI n) ≤ (nI i))) (c_2 : vp_in (nI i) (gN σ 3)) (c_3 : ¬ (x_m = 0)) (c_4 : (gE σ 3 (i)) = 10) (k : ∀ lv' : vz_L, vz_g lv' 0 = some (.ref 2) → vz_g lv' 1 = some (.int 0) → vz_nbL (vz_gr P0) lv' = true → vz_ev P0 (d + 1) 18 2 lv' [] (hp (st_i (σ) 2 2 (nI (i + 1)))) q) : vz_ev P0 (d + 1) 18 2 lv [] (hp σ) q := by
  refine ev_x (i := .aload_n 0) (len := 1) (p' := 3) (s' := [.ref 2]) rfl rfl (ld_a g_0) ?_
  refine ev_gi (p' := 6) (v := (nI i)) rfl rfl rfl ly_2 rfl rfl hi_2_2 ?_
  refine ev_x (i := .aload_n 0) (len := 1) (p' := 7) (s' := [.ref 2, .int (nI i)]) rfl rfl (ld_a g_0) ?_
  refine ev_gi (p' := 10) (v := (nI n)) rfl rfl rfl ly_2 rfl rfl hi_2_1 ?_
  refine ev_b2 (t := 91) (p' := 13) rfl rfl rfl (if_neg c_1) ?_
  refine ev_x (i := .aload_n 0) (len := 1) (p' := 14) (s' := [.ref 2]) rfl rfl (ld_a g_0) ?_
  refine ev_gc (p' := 17) (v := 3) rfl rfl rfl ly_2 rfl rfl ?_
  refine ev_x (i := .aload_n 0) (len := 1) (p' := 18) (s' := [.ref 2, .ref 3]) rfl rfl (ld_a g_0) ?_
  refine ev_gi (p' := 21) (v := (nI i)) rfl rfl rfl ly_2 rfl rfl hi_2_2 ?_
  refine ev_ga (p' := 22) (v := (gE σ 3 (i))) rfl rfl ly_3 rfl c_2 (congrArg (gE σ 3) (nI_clamp (n := i) (by omega))) ?_
  refine ev_x (i := .istore_n 2) (len := 1) (p' := 23) (s' := []) (l' := vz_s1 (lv) 2 (.int (gE σ 3 (i)))) rfl rfl rfl ?_
  refine ev_x (i := .iload_n 1) (len := 1) (p' := 24) (s' := [.int x_m]) rfl rfl (ld_i (vg_o g_1 (by decide) (Or.inl rfl))) ?_
  refine ev_b0 (t := 42) (p' := 27) rfl rfl rfl (if_neg c_3) ?_
  refine ev_x (i := .iload_n 2) (len := 1) (p' := 28) (s' := [.int (gE σ 3 (i))]) rfl rfl (ld_i (vg_s (lv) 2 (.int (gE σ 3 (i))))) ?_
  refine ev_x (i := .bipush 10) (len := 2) (p' := 30) (s' := [.int 10, .int (gE σ 3 (i))]) rfl rfl rfl ?_
  refine ev_b2 (t := 37) (p' := 37) rfl rfl rfl (if_pos c_4) ?_
  refine ev_x (i := .iconst 0) (len := 1) (p' := 38) (s' := [.int 0]) rfl rfl rfl ?_
  refine ev_x (i := .istore_n 1) (len := 1) (p' := 39) (s' := []) (l' := vz_s1 (vz_s1 (lv) 2 (.int (gE σ 3 (i)))) 1 (.int 0)) rfl rfl rfl ?_
  refine ev_x (i := .goto 39) (len := 3) (p' := 78) (s' := []) rfl rfl rfl ?_
  refine ev_x (i := .aload_n 0) (len := 1) (p' := 79) (s' := [.ref 2]) rfl rfl (ld_a (vg_o (vg_o g_0 (by decide) (Or.inl rfl)) (by decide) (Or.inl rfl))) ?_
  refine ev_x (i := .dup) (len := 1) (p' := 80) (s' := [.ref 2, .ref 2]) rfl rfl rfl ?_
  refine ev_gi (p' := 83) (v := (nI i)) rfl rfl rfl ly_2 rfl rfl hi_2_2 ?_
  refine ev_x (i := .iconst 1) (len := 1) (p' := 84) (s' := [.int 1, .int (nI i), .ref 2]) rfl rfl rfl ?_
  refine ev_x (i := .iadd) (len := 1) (p' := 85) (s' := [.int ((nI i) + 1), .ref 2]) rfl rfl rfl ?_
  refine ev_st (st' := [.int (nI (i + 1)), .ref 2]) (congrArg (fun z => Value.int z :: [.ref 2]) (nI_add i 1)) ?_
  refine ev_pi (p' := 88) rfl rfl rfl ly_2 rfl rfl rfl rfl ?_
  refine ev_x (i := .goto (-86)) (len := 3) (p' := 2) (s' := []) rfl rfl rfl ?_
  exact k _ (vg_o (vg_o g_0 (by decide) (Or.inl rfl)) (by decide) (Or.inl rfl)) (vg_s (vz_s1 (lv) 2 (.int (gE σ 3 (i)))) 1 (.int 0)) (nb_s1 (nb_s1 hnb rfl) rfl)
set_option maxHeartbeats 4000000 in
set_option maxRecDepth 100000 in
/-- GameText$Words.skipBlanks()V -/
theorem sb_hash {d : Nat} {σ : st_S} {x_m : Int32} {q : vz_O × vz_H} {n i : Nat} (hn : n ≤ 40000) (hi : i ≤ 40000) {lv : vz_L} (g_0 : vz_g lv 0 = some (.ref 2)) (g_1 : vz_g lv 1 = some (.int x_m)) (hnb : vz_nbL (vz_gr P0) lv = true) (hi_2_2 : σ.1 2 2 = nI i) (hi_2_1 : σ.1 2 1 = nI n) (c_1 : ¬ ((nI n) ≤ (nI i))) (c_2 : vp_in (nI i) (gN σ 3)) (c_3 : x_m = 0) (c_4 : ¬ (¬ (gE σ 3 (i)) = 35)) (k : ∀ lv' : vz_L, vz_g lv' 0 = some (.ref 2) → vz_g lv' 1 = some (.int 1) → vz_nbL (vz_gr P0) lv' = true → vz_ev P0 (d + 1) 18 2 lv' [] (hp (st_i (σ) 2 2 (nI (i + 1)))) q) : vz_ev P0 (d + 1) 18 2 lv [] (hp σ) q := by
  refine ev_x (i := .aload_n 0) (len := 1) (p' := 3) (s' := [.ref 2]) rfl rfl (ld_a g_0) ?_
  refine ev_gi (p' := 6) (v := (nI i)) rfl rfl rfl ly_2 rfl rfl hi_2_2 ?_
  refine ev_x (i := .aload_n 0) (len := 1) (p' := 7) (s' := [.ref 2, .int (nI i)]) rfl rfl (ld_a g_0) ?_
  refine ev_gi (p' := 10) (v := (nI n)) rfl rfl rfl ly_2 rfl rfl hi_2_1 ?_
  refine ev_b2 (t := 91) (p' := 13) rfl rfl rfl (if_neg c_1) ?_
  refine ev_x (i := .aload_n 0) (len := 1) (p' := 14) (s' := [.ref 2]) rfl rfl (ld_a g_0) ?_
  refine ev_gc (p' := 17) (v := 3) rfl rfl rfl ly_2 rfl rfl ?_
  refine ev_x (i := .aload_n 0) (len := 1) (p' := 18) (s' := [.ref 2, .ref 3]) rfl rfl (ld_a g_0) ?_
  refine ev_gi (p' := 21) (v := (nI i)) rfl rfl rfl ly_2 rfl rfl hi_2_2 ?_
  refine ev_ga (p' := 22) (v := (gE σ 3 (i))) rfl rfl ly_3 rfl c_2 (congrArg (gE σ 3) (nI_clamp (n := i) (by omega))) ?_
  refine ev_x (i := .istore_n 2) (len := 1) (p' := 23) (s' := []) (l' := vz_s1 (lv) 2 (.int (gE σ 3 (i)))) rfl rfl rfl ?_
  refine ev_x (i := .iload_n 1) (len := 1) (p' := 24) (s' := [.int x_m]) rfl rfl (ld_i (vg_o g_1 (by decide) (Or.inl rfl))) ?_
  refine ev_b0 (t := 42) (p' := 42) rfl rfl rfl (if_pos c_3) ?_
  refine ev_x (i := .iload_n 2) (len := 1) (p' := 43) (s' := [.int (gE σ 3 (i))]) rfl rfl (ld_i (vg_s (lv) 2 (.int (gE σ 3 (i))))) ?_
  refine ev_x (i := .bipush 35) (len := 2) (p' := 45) (s' := [.int 35, .int (gE σ 3 (i))]) rfl rfl rfl ?_
  refine ev_b2 (t := 53) (p' := 48) rfl rfl rfl (if_neg c_4) ?_
  refine ev_x (i := .iconst 1) (len := 1) (p' := 49) (s' := [.int 1]) rfl rfl rfl ?_
  refine ev_x (i := .istore_n 1) (len := 1) (p' := 50) (s' := []) (l' := vz_s1 (vz_s1 (lv) 2 (.int (gE σ 3 (i)))) 1 (.int 1)) rfl rfl rfl ?_
  refine ev_x (i := .goto 28) (len := 3) (p' := 78) (s' := []) rfl rfl rfl ?_
  refine ev_x (i := .aload_n 0) (len := 1) (p' := 79) (s' := [.ref 2]) rfl rfl (ld_a (vg_o (vg_o g_0 (by decide) (Or.inl rfl)) (by decide) (Or.inl rfl))) ?_
  refine ev_x (i := .dup) (len := 1) (p' := 80) (s' := [.ref 2, .ref 2]) rfl rfl rfl ?_
  refine ev_gi (p' := 83) (v := (nI i)) rfl rfl rfl ly_2 rfl rfl hi_2_2 ?_
  refine ev_x (i := .iconst 1) (len := 1) (p' := 84) (s' := [.int 1, .int (nI i), .ref 2]) rfl rfl rfl ?_
  refine ev_x (i := .iadd) (len := 1) (p' := 85) (s' := [.int ((nI i) + 1), .ref 2]) rfl rfl rfl ?_
  refine ev_st (st' := [.int (nI (i + 1)), .ref 2]) (congrArg (fun z => Value.int z :: [.ref 2]) (nI_add i 1)) ?_
  refine ev_pi (p' := 88) rfl rfl rfl ly_2 rfl rfl rfl rfl ?_
  refine ev_x (i := .goto (-86)) (len := 3) (p' := 2) (s' := []) rfl rfl rfl ?_
  exact k _ (vg_o (vg_o g_0 (by decide) (Or.inl rfl)) (by decide) (Or.inl rfl)) (vg_s (vz_s1 (lv) 2 (.int (gE σ 3 (i)))) 1 (.int 1)) (nb_s1 (nb_s1 hnb rfl) rfl)
set_option maxHeartbeats 4000000 in
set_option maxRecDepth 100000 in
/-- GameText$Words.skipBlanks()V -/
theorem sb_9 {d : Nat} {σ : st_S} {x_m : Int32} {q : vz_O × vz_H} {n i : Nat} (hn : n ≤ 40000) (hi : i ≤ 40000) {lv : vz_L} (g_0 : vz_g lv 0 = some (.ref 2)) (g_1 : vz_g lv 1 = some (.int x_m)) (hnb : vz_nbL (vz_gr P0) lv = true) (hi_2_2 : σ.1 2 2 = nI i) (hi_2_1 : σ.1 2 1 = nI n) (c_1 : ¬ ((nI n) ≤ (nI i))) (c_2 : vp_in (nI i) (gN σ 3)) (c_3 : x_m = 0) (c_4 : ¬ (gE σ 3 (i)) = 35) (c_5 : (gE σ 3 (i)) = 9) (k : ∀ lv' : vz_L, vz_g lv' 0 = some (.ref 2) → vz_g lv' 1 = some (.int x_m) → vz_nbL (vz_gr P0) lv' = true → vz_ev P0 (d + 1) 18 2 lv' [] (hp (st_i (σ) 2 2 (nI (i + 1)))) q) : vz_ev P0 (d + 1) 18 2 lv [] (hp σ) q := by
  refine ev_x (i := .aload_n 0) (len := 1) (p' := 3) (s' := [.ref 2]) rfl rfl (ld_a g_0) ?_
  refine ev_gi (p' := 6) (v := (nI i)) rfl rfl rfl ly_2 rfl rfl hi_2_2 ?_
  refine ev_x (i := .aload_n 0) (len := 1) (p' := 7) (s' := [.ref 2, .int (nI i)]) rfl rfl (ld_a g_0) ?_
  refine ev_gi (p' := 10) (v := (nI n)) rfl rfl rfl ly_2 rfl rfl hi_2_1 ?_
  refine ev_b2 (t := 91) (p' := 13) rfl rfl rfl (if_neg c_1) ?_
  refine ev_x (i := .aload_n 0) (len := 1) (p' := 14) (s' := [.ref 2]) rfl rfl (ld_a g_0) ?_
  refine ev_gc (p' := 17) (v := 3) rfl rfl rfl ly_2 rfl rfl ?_
  refine ev_x (i := .aload_n 0) (len := 1) (p' := 18) (s' := [.ref 2, .ref 3]) rfl rfl (ld_a g_0) ?_
  refine ev_gi (p' := 21) (v := (nI i)) rfl rfl rfl ly_2 rfl rfl hi_2_2 ?_
  refine ev_ga (p' := 22) (v := (gE σ 3 (i))) rfl rfl ly_3 rfl c_2 (congrArg (gE σ 3) (nI_clamp (n := i) (by omega))) ?_
  refine ev_x (i := .istore_n 2) (len := 1) (p' := 23) (s' := []) (l' := vz_s1 (lv) 2 (.int (gE σ 3 (i)))) rfl rfl rfl ?_
  refine ev_x (i := .iload_n 1) (len := 1) (p' := 24) (s' := [.int x_m]) rfl rfl (ld_i (vg_o g_1 (by decide) (Or.inl rfl))) ?_
  refine ev_b0 (t := 42) (p' := 42) rfl rfl rfl (if_pos c_3) ?_
  refine ev_x (i := .iload_n 2) (len := 1) (p' := 43) (s' := [.int (gE σ 3 (i))]) rfl rfl (ld_i (vg_s (lv) 2 (.int (gE σ 3 (i))))) ?_
  refine ev_x (i := .bipush 35) (len := 2) (p' := 45) (s' := [.int 35, .int (gE σ 3 (i))]) rfl rfl rfl ?_
  refine ev_b2 (t := 53) (p' := 53) rfl rfl rfl (if_pos c_4) ?_
  refine ev_x (i := .iload_n 2) (len := 1) (p' := 54) (s' := [.int (gE σ 3 (i))]) rfl rfl (ld_i (vg_s (lv) 2 (.int (gE σ 3 (i))))) ?_
  refine ev_x (i := .bipush 9) (len := 2) (p' := 56) (s' := [.int 9, .int (gE σ 3 (i))]) rfl rfl rfl ?_
  refine ev_b2 (t := 78) (p' := 78) rfl rfl rfl (if_pos c_5) ?_
  refine ev_x (i := .aload_n 0) (len := 1) (p' := 79) (s' := [.ref 2]) rfl rfl (ld_a (vg_o g_0 (by decide) (Or.inl rfl))) ?_
  refine ev_x (i := .dup) (len := 1) (p' := 80) (s' := [.ref 2, .ref 2]) rfl rfl rfl ?_
  refine ev_gi (p' := 83) (v := (nI i)) rfl rfl rfl ly_2 rfl rfl hi_2_2 ?_
  refine ev_x (i := .iconst 1) (len := 1) (p' := 84) (s' := [.int 1, .int (nI i), .ref 2]) rfl rfl rfl ?_
  refine ev_x (i := .iadd) (len := 1) (p' := 85) (s' := [.int ((nI i) + 1), .ref 2]) rfl rfl rfl ?_
  refine ev_st (st' := [.int (nI (i + 1)), .ref 2]) (congrArg (fun z => Value.int z :: [.ref 2]) (nI_add i 1)) ?_
  refine ev_pi (p' := 88) rfl rfl rfl ly_2 rfl rfl rfl rfl ?_
  refine ev_x (i := .goto (-86)) (len := 3) (p' := 2) (s' := []) rfl rfl rfl ?_
  exact k _ (vg_o g_0 (by decide) (Or.inl rfl)) (vg_o g_1 (by decide) (Or.inl rfl)) (nb_s1 hnb rfl)
set_option maxHeartbeats 4000000 in
set_option maxRecDepth 100000 in
/-- GameText$Words.skipBlanks()V -/
theorem sb_10 {d : Nat} {σ : st_S} {x_m : Int32} {q : vz_O × vz_H} {n i : Nat} (hn : n ≤ 40000) (hi : i ≤ 40000) {lv : vz_L} (g_0 : vz_g lv 0 = some (.ref 2)) (g_1 : vz_g lv 1 = some (.int x_m)) (hnb : vz_nbL (vz_gr P0) lv = true) (hi_2_2 : σ.1 2 2 = nI i) (hi_2_1 : σ.1 2 1 = nI n) (c_1 : ¬ ((nI n) ≤ (nI i))) (c_2 : vp_in (nI i) (gN σ 3)) (c_3 : x_m = 0) (c_4 : ¬ (gE σ 3 (i)) = 35) (c_5 : ¬ ((gE σ 3 (i)) = 9)) (c_6 : (gE σ 3 (i)) = 10) (k : ∀ lv' : vz_L, vz_g lv' 0 = some (.ref 2) → vz_g lv' 1 = some (.int x_m) → vz_nbL (vz_gr P0) lv' = true → vz_ev P0 (d + 1) 18 2 lv' [] (hp (st_i (σ) 2 2 (nI (i + 1)))) q) : vz_ev P0 (d + 1) 18 2 lv [] (hp σ) q := by
  refine ev_x (i := .aload_n 0) (len := 1) (p' := 3) (s' := [.ref 2]) rfl rfl (ld_a g_0) ?_
  refine ev_gi (p' := 6) (v := (nI i)) rfl rfl rfl ly_2 rfl rfl hi_2_2 ?_
  refine ev_x (i := .aload_n 0) (len := 1) (p' := 7) (s' := [.ref 2, .int (nI i)]) rfl rfl (ld_a g_0) ?_
  refine ev_gi (p' := 10) (v := (nI n)) rfl rfl rfl ly_2 rfl rfl hi_2_1 ?_
  refine ev_b2 (t := 91) (p' := 13) rfl rfl rfl (if_neg c_1) ?_
  refine ev_x (i := .aload_n 0) (len := 1) (p' := 14) (s' := [.ref 2]) rfl rfl (ld_a g_0) ?_
  refine ev_gc (p' := 17) (v := 3) rfl rfl rfl ly_2 rfl rfl ?_
  refine ev_x (i := .aload_n 0) (len := 1) (p' := 18) (s' := [.ref 2, .ref 3]) rfl rfl (ld_a g_0) ?_
  refine ev_gi (p' := 21) (v := (nI i)) rfl rfl rfl ly_2 rfl rfl hi_2_2 ?_
  refine ev_ga (p' := 22) (v := (gE σ 3 (i))) rfl rfl ly_3 rfl c_2 (congrArg (gE σ 3) (nI_clamp (n := i) (by omega))) ?_
  refine ev_x (i := .istore_n 2) (len := 1) (p' := 23) (s' := []) (l' := vz_s1 (lv) 2 (.int (gE σ 3 (i)))) rfl rfl rfl ?_
  refine ev_x (i := .iload_n 1) (len := 1) (p' := 24) (s' := [.int x_m]) rfl rfl (ld_i (vg_o g_1 (by decide) (Or.inl rfl))) ?_
  refine ev_b0 (t := 42) (p' := 42) rfl rfl rfl (if_pos c_3) ?_
  refine ev_x (i := .iload_n 2) (len := 1) (p' := 43) (s' := [.int (gE σ 3 (i))]) rfl rfl (ld_i (vg_s (lv) 2 (.int (gE σ 3 (i))))) ?_
  refine ev_x (i := .bipush 35) (len := 2) (p' := 45) (s' := [.int 35, .int (gE σ 3 (i))]) rfl rfl rfl ?_
  refine ev_b2 (t := 53) (p' := 53) rfl rfl rfl (if_pos c_4) ?_
  refine ev_x (i := .iload_n 2) (len := 1) (p' := 54) (s' := [.int (gE σ 3 (i))]) rfl rfl (ld_i (vg_s (lv) 2 (.int (gE σ 3 (i))))) ?_
  refine ev_x (i := .bipush 9) (len := 2) (p' := 56) (s' := [.int 9, .int (gE σ 3 (i))]) rfl rfl rfl ?_
  refine ev_b2 (t := 78) (p' := 59) rfl rfl rfl (if_neg c_5) ?_
  refine ev_x (i := .iload_n 2) (len := 1) (p' := 60) (s' := [.int (gE σ 3 (i))]) rfl rfl (ld_i (vg_s (lv) 2 (.int (gE σ 3 (i))))) ?_
  refine ev_x (i := .bipush 10) (len := 2) (p' := 62) (s' := [.int 10, .int (gE σ 3 (i))]) rfl rfl rfl ?_
  refine ev_b2 (t := 78) (p' := 78) rfl rfl rfl (if_pos c_6) ?_
  refine ev_x (i := .aload_n 0) (len := 1) (p' := 79) (s' := [.ref 2]) rfl rfl (ld_a (vg_o g_0 (by decide) (Or.inl rfl))) ?_
  refine ev_x (i := .dup) (len := 1) (p' := 80) (s' := [.ref 2, .ref 2]) rfl rfl rfl ?_
  refine ev_gi (p' := 83) (v := (nI i)) rfl rfl rfl ly_2 rfl rfl hi_2_2 ?_
  refine ev_x (i := .iconst 1) (len := 1) (p' := 84) (s' := [.int 1, .int (nI i), .ref 2]) rfl rfl rfl ?_
  refine ev_x (i := .iadd) (len := 1) (p' := 85) (s' := [.int ((nI i) + 1), .ref 2]) rfl rfl rfl ?_
  refine ev_st (st' := [.int (nI (i + 1)), .ref 2]) (congrArg (fun z => Value.int z :: [.ref 2]) (nI_add i 1)) ?_
  refine ev_pi (p' := 88) rfl rfl rfl ly_2 rfl rfl rfl rfl ?_
  refine ev_x (i := .goto (-86)) (len := 3) (p' := 2) (s' := []) rfl rfl rfl ?_
  exact k _ (vg_o g_0 (by decide) (Or.inl rfl)) (vg_o g_1 (by decide) (Or.inl rfl)) (nb_s1 hnb rfl)
set_option maxHeartbeats 4000000 in
set_option maxRecDepth 100000 in
/-- GameText$Words.skipBlanks()V -/
theorem sb_13 {d : Nat} {σ : st_S} {x_m : Int32} {q : vz_O × vz_H} {n i : Nat} (hn : n ≤ 40000) (hi : i ≤ 40000) {lv : vz_L} (g_0 : vz_g lv 0 = some (.ref 2)) (g_1 : vz_g lv 1 = some (.int x_m)) (hnb : vz_nbL (vz_gr P0) lv = true) (hi_2_2 : σ.1 2 2 = nI i) (hi_2_1 : σ.1 2 1 = nI n) (c_1 : ¬ ((nI n) ≤ (nI i))) (c_2 : vp_in (nI i) (gN σ 3)) (c_3 : x_m = 0) (c_4 : ¬ (gE σ 3 (i)) = 35) (c_5 : ¬ ((gE σ 3 (i)) = 9)) (c_6 : ¬ ((gE σ 3 (i)) = 10)) (c_7 : (gE σ 3 (i)) = 13) (k : ∀ lv' : vz_L, vz_g lv' 0 = some (.ref 2) → vz_g lv' 1 = some (.int x_m) → vz_nbL (vz_gr P0) lv' = true → vz_ev P0 (d + 1) 18 2 lv' [] (hp (st_i (σ) 2 2 (nI (i + 1)))) q) : vz_ev P0 (d + 1) 18 2 lv [] (hp σ) q := by
  refine ev_x (i := .aload_n 0) (len := 1) (p' := 3) (s' := [.ref 2]) rfl rfl (ld_a g_0) ?_
  refine ev_gi (p' := 6) (v := (nI i)) rfl rfl rfl ly_2 rfl rfl hi_2_2 ?_
  refine ev_x (i := .aload_n 0) (len := 1) (p' := 7) (s' := [.ref 2, .int (nI i)]) rfl rfl (ld_a g_0) ?_
  refine ev_gi (p' := 10) (v := (nI n)) rfl rfl rfl ly_2 rfl rfl hi_2_1 ?_
  refine ev_b2 (t := 91) (p' := 13) rfl rfl rfl (if_neg c_1) ?_
  refine ev_x (i := .aload_n 0) (len := 1) (p' := 14) (s' := [.ref 2]) rfl rfl (ld_a g_0) ?_
  refine ev_gc (p' := 17) (v := 3) rfl rfl rfl ly_2 rfl rfl ?_
  refine ev_x (i := .aload_n 0) (len := 1) (p' := 18) (s' := [.ref 2, .ref 3]) rfl rfl (ld_a g_0) ?_
  refine ev_gi (p' := 21) (v := (nI i)) rfl rfl rfl ly_2 rfl rfl hi_2_2 ?_
  refine ev_ga (p' := 22) (v := (gE σ 3 (i))) rfl rfl ly_3 rfl c_2 (congrArg (gE σ 3) (nI_clamp (n := i) (by omega))) ?_
  refine ev_x (i := .istore_n 2) (len := 1) (p' := 23) (s' := []) (l' := vz_s1 (lv) 2 (.int (gE σ 3 (i)))) rfl rfl rfl ?_
  refine ev_x (i := .iload_n 1) (len := 1) (p' := 24) (s' := [.int x_m]) rfl rfl (ld_i (vg_o g_1 (by decide) (Or.inl rfl))) ?_
  refine ev_b0 (t := 42) (p' := 42) rfl rfl rfl (if_pos c_3) ?_
  refine ev_x (i := .iload_n 2) (len := 1) (p' := 43) (s' := [.int (gE σ 3 (i))]) rfl rfl (ld_i (vg_s (lv) 2 (.int (gE σ 3 (i))))) ?_
  refine ev_x (i := .bipush 35) (len := 2) (p' := 45) (s' := [.int 35, .int (gE σ 3 (i))]) rfl rfl rfl ?_
  refine ev_b2 (t := 53) (p' := 53) rfl rfl rfl (if_pos c_4) ?_
  refine ev_x (i := .iload_n 2) (len := 1) (p' := 54) (s' := [.int (gE σ 3 (i))]) rfl rfl (ld_i (vg_s (lv) 2 (.int (gE σ 3 (i))))) ?_
  refine ev_x (i := .bipush 9) (len := 2) (p' := 56) (s' := [.int 9, .int (gE σ 3 (i))]) rfl rfl rfl ?_
  refine ev_b2 (t := 78) (p' := 59) rfl rfl rfl (if_neg c_5) ?_
  refine ev_x (i := .iload_n 2) (len := 1) (p' := 60) (s' := [.int (gE σ 3 (i))]) rfl rfl (ld_i (vg_s (lv) 2 (.int (gE σ 3 (i))))) ?_
  refine ev_x (i := .bipush 10) (len := 2) (p' := 62) (s' := [.int 10, .int (gE σ 3 (i))]) rfl rfl rfl ?_
  refine ev_b2 (t := 78) (p' := 65) rfl rfl rfl (if_neg c_6) ?_
  refine ev_x (i := .iload_n 2) (len := 1) (p' := 66) (s' := [.int (gE σ 3 (i))]) rfl rfl (ld_i (vg_s (lv) 2 (.int (gE σ 3 (i))))) ?_
  refine ev_x (i := .bipush 13) (len := 2) (p' := 68) (s' := [.int 13, .int (gE σ 3 (i))]) rfl rfl rfl ?_
  refine ev_b2 (t := 78) (p' := 78) rfl rfl rfl (if_pos c_7) ?_
  refine ev_x (i := .aload_n 0) (len := 1) (p' := 79) (s' := [.ref 2]) rfl rfl (ld_a (vg_o g_0 (by decide) (Or.inl rfl))) ?_
  refine ev_x (i := .dup) (len := 1) (p' := 80) (s' := [.ref 2, .ref 2]) rfl rfl rfl ?_
  refine ev_gi (p' := 83) (v := (nI i)) rfl rfl rfl ly_2 rfl rfl hi_2_2 ?_
  refine ev_x (i := .iconst 1) (len := 1) (p' := 84) (s' := [.int 1, .int (nI i), .ref 2]) rfl rfl rfl ?_
  refine ev_x (i := .iadd) (len := 1) (p' := 85) (s' := [.int ((nI i) + 1), .ref 2]) rfl rfl rfl ?_
  refine ev_st (st' := [.int (nI (i + 1)), .ref 2]) (congrArg (fun z => Value.int z :: [.ref 2]) (nI_add i 1)) ?_
  refine ev_pi (p' := 88) rfl rfl rfl ly_2 rfl rfl rfl rfl ?_
  refine ev_x (i := .goto (-86)) (len := 3) (p' := 2) (s' := []) rfl rfl rfl ?_
  exact k _ (vg_o g_0 (by decide) (Or.inl rfl)) (vg_o g_1 (by decide) (Or.inl rfl)) (nb_s1 hnb rfl)
set_option maxHeartbeats 4000000 in
set_option maxRecDepth 100000 in
/-- GameText$Words.skipBlanks()V -/
theorem sb_32 {d : Nat} {σ : st_S} {x_m : Int32} {q : vz_O × vz_H} {n i : Nat} (hn : n ≤ 40000) (hi : i ≤ 40000) {lv : vz_L} (g_0 : vz_g lv 0 = some (.ref 2)) (g_1 : vz_g lv 1 = some (.int x_m)) (hnb : vz_nbL (vz_gr P0) lv = true) (hi_2_2 : σ.1 2 2 = nI i) (hi_2_1 : σ.1 2 1 = nI n) (c_1 : ¬ ((nI n) ≤ (nI i))) (c_2 : vp_in (nI i) (gN σ 3)) (c_3 : x_m = 0) (c_4 : ¬ (gE σ 3 (i)) = 35) (c_5 : ¬ ((gE σ 3 (i)) = 9)) (c_6 : ¬ ((gE σ 3 (i)) = 10)) (c_7 : ¬ ((gE σ 3 (i)) = 13)) (c_8 : (gE σ 3 (i)) = 32) (k : ∀ lv' : vz_L, vz_g lv' 0 = some (.ref 2) → vz_g lv' 1 = some (.int x_m) → vz_nbL (vz_gr P0) lv' = true → vz_ev P0 (d + 1) 18 2 lv' [] (hp (st_i (σ) 2 2 (nI (i + 1)))) q) : vz_ev P0 (d + 1) 18 2 lv [] (hp σ) q := by
  refine ev_x (i := .aload_n 0) (len := 1) (p' := 3) (s' := [.ref 2]) rfl rfl (ld_a g_0) ?_
  refine ev_gi (p' := 6) (v := (nI i)) rfl rfl rfl ly_2 rfl rfl hi_2_2 ?_
  refine ev_x (i := .aload_n 0) (len := 1) (p' := 7) (s' := [.ref 2, .int (nI i)]) rfl rfl (ld_a g_0) ?_
  refine ev_gi (p' := 10) (v := (nI n)) rfl rfl rfl ly_2 rfl rfl hi_2_1 ?_
  refine ev_b2 (t := 91) (p' := 13) rfl rfl rfl (if_neg c_1) ?_
  refine ev_x (i := .aload_n 0) (len := 1) (p' := 14) (s' := [.ref 2]) rfl rfl (ld_a g_0) ?_
  refine ev_gc (p' := 17) (v := 3) rfl rfl rfl ly_2 rfl rfl ?_
  refine ev_x (i := .aload_n 0) (len := 1) (p' := 18) (s' := [.ref 2, .ref 3]) rfl rfl (ld_a g_0) ?_
  refine ev_gi (p' := 21) (v := (nI i)) rfl rfl rfl ly_2 rfl rfl hi_2_2 ?_
  refine ev_ga (p' := 22) (v := (gE σ 3 (i))) rfl rfl ly_3 rfl c_2 (congrArg (gE σ 3) (nI_clamp (n := i) (by omega))) ?_
  refine ev_x (i := .istore_n 2) (len := 1) (p' := 23) (s' := []) (l' := vz_s1 (lv) 2 (.int (gE σ 3 (i)))) rfl rfl rfl ?_
  refine ev_x (i := .iload_n 1) (len := 1) (p' := 24) (s' := [.int x_m]) rfl rfl (ld_i (vg_o g_1 (by decide) (Or.inl rfl))) ?_
  refine ev_b0 (t := 42) (p' := 42) rfl rfl rfl (if_pos c_3) ?_
  refine ev_x (i := .iload_n 2) (len := 1) (p' := 43) (s' := [.int (gE σ 3 (i))]) rfl rfl (ld_i (vg_s (lv) 2 (.int (gE σ 3 (i))))) ?_
  refine ev_x (i := .bipush 35) (len := 2) (p' := 45) (s' := [.int 35, .int (gE σ 3 (i))]) rfl rfl rfl ?_
  refine ev_b2 (t := 53) (p' := 53) rfl rfl rfl (if_pos c_4) ?_
  refine ev_x (i := .iload_n 2) (len := 1) (p' := 54) (s' := [.int (gE σ 3 (i))]) rfl rfl (ld_i (vg_s (lv) 2 (.int (gE σ 3 (i))))) ?_
  refine ev_x (i := .bipush 9) (len := 2) (p' := 56) (s' := [.int 9, .int (gE σ 3 (i))]) rfl rfl rfl ?_
  refine ev_b2 (t := 78) (p' := 59) rfl rfl rfl (if_neg c_5) ?_
  refine ev_x (i := .iload_n 2) (len := 1) (p' := 60) (s' := [.int (gE σ 3 (i))]) rfl rfl (ld_i (vg_s (lv) 2 (.int (gE σ 3 (i))))) ?_
  refine ev_x (i := .bipush 10) (len := 2) (p' := 62) (s' := [.int 10, .int (gE σ 3 (i))]) rfl rfl rfl ?_
  refine ev_b2 (t := 78) (p' := 65) rfl rfl rfl (if_neg c_6) ?_
  refine ev_x (i := .iload_n 2) (len := 1) (p' := 66) (s' := [.int (gE σ 3 (i))]) rfl rfl (ld_i (vg_s (lv) 2 (.int (gE σ 3 (i))))) ?_
  refine ev_x (i := .bipush 13) (len := 2) (p' := 68) (s' := [.int 13, .int (gE σ 3 (i))]) rfl rfl rfl ?_
  refine ev_b2 (t := 78) (p' := 71) rfl rfl rfl (if_neg c_7) ?_
  refine ev_x (i := .iload_n 2) (len := 1) (p' := 72) (s' := [.int (gE σ 3 (i))]) rfl rfl (ld_i (vg_s (lv) 2 (.int (gE σ 3 (i))))) ?_
  refine ev_x (i := .bipush 32) (len := 2) (p' := 74) (s' := [.int 32, .int (gE σ 3 (i))]) rfl rfl rfl ?_
  refine ev_b2 (t := 78) (p' := 78) rfl rfl rfl (if_pos c_8) ?_
  refine ev_x (i := .aload_n 0) (len := 1) (p' := 79) (s' := [.ref 2]) rfl rfl (ld_a (vg_o g_0 (by decide) (Or.inl rfl))) ?_
  refine ev_x (i := .dup) (len := 1) (p' := 80) (s' := [.ref 2, .ref 2]) rfl rfl rfl ?_
  refine ev_gi (p' := 83) (v := (nI i)) rfl rfl rfl ly_2 rfl rfl hi_2_2 ?_
  refine ev_x (i := .iconst 1) (len := 1) (p' := 84) (s' := [.int 1, .int (nI i), .ref 2]) rfl rfl rfl ?_
  refine ev_x (i := .iadd) (len := 1) (p' := 85) (s' := [.int ((nI i) + 1), .ref 2]) rfl rfl rfl ?_
  refine ev_st (st' := [.int (nI (i + 1)), .ref 2]) (congrArg (fun z => Value.int z :: [.ref 2]) (nI_add i 1)) ?_
  refine ev_pi (p' := 88) rfl rfl rfl ly_2 rfl rfl rfl rfl ?_
  refine ev_x (i := .goto (-86)) (len := 3) (p' := 2) (s' := []) rfl rfl rfl ?_
  exact k _ (vg_o g_0 (by decide) (Or.inl rfl)) (vg_o g_1 (by decide) (Or.inl rfl)) (nb_s1 hnb rfl)
set_option maxHeartbeats 4000000 in
set_option maxRecDepth 100000 in
/-- GameText$Words.skipBlanks()V -/
theorem sb_out {d : Nat} {σ : st_S} {x_m : Int32} {n i : Nat} (hn : n ≤ 40000) (hi : i ≤ 40000) {lv : vz_L} (g_0 : vz_g lv 0 = some (.ref 2)) (g_1 : vz_g lv 1 = some (.int x_m)) (hnb : vz_nbL (vz_gr P0) lv = true) (hi_2_2 : σ.1 2 2 = nI i) (hi_2_1 : σ.1 2 1 = nI n) (c_1 : ¬ ((nI n) ≤ (nI i))) (c_2 : vp_in (nI i) (gN σ 3)) (c_3 : x_m = 0) (c_4 : ¬ (gE σ 3 (i)) = 35) (c_5 : ¬ ((gE σ 3 (i)) = 9)) (c_6 : ¬ ((gE σ 3 (i)) = 10)) (c_7 : ¬ ((gE σ 3 (i)) = 13)) (c_8 : ¬ ((gE σ 3 (i)) = 32)) : vz_ev P0 (d + 1) 18 2 (lv) [] (hp σ) (.inl none, hp (σ)) := by
  refine ev_x (i := .aload_n 0) (len := 1) (p' := 3) (s' := [.ref 2]) rfl rfl (ld_a g_0) ?_
  refine ev_gi (p' := 6) (v := (nI i)) rfl rfl rfl ly_2 rfl rfl hi_2_2 ?_
  refine ev_x (i := .aload_n 0) (len := 1) (p' := 7) (s' := [.ref 2, .int (nI i)]) rfl rfl (ld_a g_0) ?_
  refine ev_gi (p' := 10) (v := (nI n)) rfl rfl rfl ly_2 rfl rfl hi_2_1 ?_
  refine ev_b2 (t := 91) (p' := 13) rfl rfl rfl (if_neg c_1) ?_
  refine ev_x (i := .aload_n 0) (len := 1) (p' := 14) (s' := [.ref 2]) rfl rfl (ld_a g_0) ?_
  refine ev_gc (p' := 17) (v := 3) rfl rfl rfl ly_2 rfl rfl ?_
  refine ev_x (i := .aload_n 0) (len := 1) (p' := 18) (s' := [.ref 2, .ref 3]) rfl rfl (ld_a g_0) ?_
  refine ev_gi (p' := 21) (v := (nI i)) rfl rfl rfl ly_2 rfl rfl hi_2_2 ?_
  refine ev_ga (p' := 22) (v := (gE σ 3 (i))) rfl rfl ly_3 rfl c_2 (congrArg (gE σ 3) (nI_clamp (n := i) (by omega))) ?_
  refine ev_x (i := .istore_n 2) (len := 1) (p' := 23) (s' := []) (l' := vz_s1 (lv) 2 (.int (gE σ 3 (i)))) rfl rfl rfl ?_
  refine ev_x (i := .iload_n 1) (len := 1) (p' := 24) (s' := [.int x_m]) rfl rfl (ld_i (vg_o g_1 (by decide) (Or.inl rfl))) ?_
  refine ev_b0 (t := 42) (p' := 42) rfl rfl rfl (if_pos c_3) ?_
  refine ev_x (i := .iload_n 2) (len := 1) (p' := 43) (s' := [.int (gE σ 3 (i))]) rfl rfl (ld_i (vg_s (lv) 2 (.int (gE σ 3 (i))))) ?_
  refine ev_x (i := .bipush 35) (len := 2) (p' := 45) (s' := [.int 35, .int (gE σ 3 (i))]) rfl rfl rfl ?_
  refine ev_b2 (t := 53) (p' := 53) rfl rfl rfl (if_pos c_4) ?_
  refine ev_x (i := .iload_n 2) (len := 1) (p' := 54) (s' := [.int (gE σ 3 (i))]) rfl rfl (ld_i (vg_s (lv) 2 (.int (gE σ 3 (i))))) ?_
  refine ev_x (i := .bipush 9) (len := 2) (p' := 56) (s' := [.int 9, .int (gE σ 3 (i))]) rfl rfl rfl ?_
  refine ev_b2 (t := 78) (p' := 59) rfl rfl rfl (if_neg c_5) ?_
  refine ev_x (i := .iload_n 2) (len := 1) (p' := 60) (s' := [.int (gE σ 3 (i))]) rfl rfl (ld_i (vg_s (lv) 2 (.int (gE σ 3 (i))))) ?_
  refine ev_x (i := .bipush 10) (len := 2) (p' := 62) (s' := [.int 10, .int (gE σ 3 (i))]) rfl rfl rfl ?_
  refine ev_b2 (t := 78) (p' := 65) rfl rfl rfl (if_neg c_6) ?_
  refine ev_x (i := .iload_n 2) (len := 1) (p' := 66) (s' := [.int (gE σ 3 (i))]) rfl rfl (ld_i (vg_s (lv) 2 (.int (gE σ 3 (i))))) ?_
  refine ev_x (i := .bipush 13) (len := 2) (p' := 68) (s' := [.int 13, .int (gE σ 3 (i))]) rfl rfl rfl ?_
  refine ev_b2 (t := 78) (p' := 71) rfl rfl rfl (if_neg c_7) ?_
  refine ev_x (i := .iload_n 2) (len := 1) (p' := 72) (s' := [.int (gE σ 3 (i))]) rfl rfl (ld_i (vg_s (lv) 2 (.int (gE σ 3 (i))))) ?_
  refine ev_x (i := .bipush 32) (len := 2) (p' := 74) (s' := [.int 32, .int (gE σ 3 (i))]) rfl rfl rfl ?_
  refine ev_b2 (t := 78) (p' := 77) rfl rfl rfl (if_neg c_8) ?_
  exact ev_vret rfl rfl rfl
