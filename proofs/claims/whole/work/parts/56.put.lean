/-! Words.put, Words.makeRoom by paths. Written by wip/prog/gen_feed.py -/
set_option maxHeartbeats 4000000 in
set_option maxRecDepth 100000 in
/-- GameText$Words.put(I)V -/
theorem put_path {d : Nat} {σ : st_S} {x_v : Int32} {n : Nat} (hbig : n ≤ 40000) (hi_2_1 : σ.1 2 1 = nI n) (c_1 : ¬ ((Int32.ofNat (gN σ 3)) ≤ (nI n))) (c_2 : vp_in (nI n) (gN σ 3)) (c_3 : ¬ ((Int32.ofNat (gN σ 3)) ≤ (nI (n + 1)))) (c_4 : vp_in (nI (n + 1)) (gN σ 3)) (c_5 : ¬ ((Int32.ofNat (gN σ 3)) ≤ (nI (n + 1 + 1)))) (c_6 : vp_in (nI (n + 1 + 1)) (gN σ 3)) (c_7 : ¬ ((Int32.ofNat (gN σ 3)) ≤ (nI (n + 1 + 1 + 1)))) (c_8 : vp_in (nI (n + 1 + 1 + 1)) (gN σ 3)) : vz_ev P0 (d + 1) 14 0 (lv_args 0 [.ref 2, .int x_v]) [] (hp σ) (.inl none, hp (st_i (st_e (st_i (st_e (st_i (st_e (st_i (st_e (σ) 3 (n) (((x_v).toUInt32 >>> ((24 : Int32).toUInt32 &&& Int32.toUInt32 31)).toInt32 &&& 255)) 2 1 (nI (n + 1))) 3 (n + 1) (((x_v).toUInt32 >>> ((16 : Int32).toUInt32 &&& Int32.toUInt32 31)).toInt32 &&& 255)) 2 1 (nI (n + 1 + 1))) 3 (n + 1 + 1) (((x_v).toUInt32 >>> ((8 : Int32).toUInt32 &&& Int32.toUInt32 31)).toInt32 &&& 255)) 2 1 (nI (n + 1 + 1 + 1))) 3 (n + 1 + 1 + 1) (((x_v).toUInt32 >>> ((0 : Int32).toUInt32 &&& Int32.toUInt32 31)).toInt32 &&& 255)) 2 1 (nI (n + 1 + 1 + 1 + 1)))) := by
  refine ev_x (i := .bipush 24) (len := 2) (p' := 2) (s' := [.int 24]) rfl rfl rfl ?_
  refine ev_x (i := .istore_n 2) (len := 1) (p' := 3) (s' := []) (l' := [(2, .int 24), (0, .ref 2), (1, .int x_v)]) rfl rfl rfl ?_
  refine ev_x (i := .iload_n 2) (len := 1) (p' := 4) (s' := [.int 24]) rfl rfl rfl ?_
  refine ev_b0 (t := 51) (p' := 7) rfl rfl rfl (by decide) ?_
  refine ev_x (i := .aload_n 0) (len := 1) (p' := 8) (s' := [.ref 2]) rfl rfl rfl ?_
  refine ev_gi (p' := 11) (v := (nI n)) rfl rfl rfl ly_2 rfl rfl hi_2_1 ?_
  refine ev_x (i := .aload_n 0) (len := 1) (p' := 12) (s' := [.ref 2, .int (nI n)]) rfl rfl rfl ?_
  refine ev_gc (p' := 15) (v := 3) rfl rfl rfl ly_2 rfl rfl ?_
  refine ev_al (p' := 16) (v := (Int32.ofNat (gN σ 3))) rfl rfl ly_3 (by decide) (by decide) rfl rfl ?_
  refine ev_b2 (t := 45) (p' := 19) rfl rfl rfl (if_neg c_1) ?_
  refine ev_x (i := .aload_n 0) (len := 1) (p' := 20) (s' := [.ref 2]) rfl rfl rfl ?_
  refine ev_gc (p' := 23) (v := 3) rfl rfl rfl ly_2 rfl rfl ?_
  refine ev_x (i := .aload_n 0) (len := 1) (p' := 24) (s' := [.ref 2, .ref 3]) rfl rfl rfl ?_
  refine ev_gi (p' := 27) (v := (nI n)) rfl rfl rfl ly_2 rfl rfl hi_2_1 ?_
  refine ev_x (i := .iload_n 1) (len := 1) (p' := 28) (s' := [.int x_v, .int (nI n), .ref 3]) rfl rfl rfl ?_
  refine ev_x (i := .iload_n 2) (len := 1) (p' := 29) (s' := [.int 24, .int x_v, .int (nI n), .ref 3]) rfl rfl rfl ?_
  refine ev_x (i := .iushr) (len := 1) (p' := 30) (s' := [.int ((x_v).toUInt32 >>> ((24 : Int32).toUInt32 &&& Int32.toUInt32 31)).toInt32, .int (nI n), .ref 3]) rfl rfl rfl ?_
  refine ev_x (i := .sipush 255) (len := 3) (p' := 33) (s' := [.int 255, .int ((x_v).toUInt32 >>> ((24 : Int32).toUInt32 &&& Int32.toUInt32 31)).toInt32, .int (nI n), .ref 3]) rfl rfl rfl ?_
  refine ev_x (i := .iand) (len := 1) (p' := 34) (s' := [.int (((x_v).toUInt32 >>> ((24 : Int32).toUInt32 &&& Int32.toUInt32 31)).toInt32 &&& 255), .int (nI n), .ref 3]) rfl rfl rfl ?_
  refine ev_pa (j := (n)) (p' := 35) rfl rfl ly_3 rfl c_2 (nI_clamp (by omega)) ?_
  refine ev_x (i := .aload_n 0) (len := 1) (p' := 36) (s' := [.ref 2]) rfl rfl rfl ?_
  refine ev_x (i := .dup) (len := 1) (p' := 37) (s' := [.ref 2, .ref 2]) rfl rfl rfl ?_
  refine ev_gi (p' := 40) (v := (nI n)) rfl rfl rfl ly_2 rfl rfl hi_2_1 ?_
  refine ev_x (i := .iconst 1) (len := 1) (p' := 41) (s' := [.int 1, .int (nI n), .ref 2]) rfl rfl rfl ?_
  refine ev_x (i := .iadd) (len := 1) (p' := 42) (s' := [.int ((nI n) + 1), .ref 2]) rfl rfl rfl ?_
  refine ev_st (st' := [.int (nI (n + 1)), .ref 2]) (congrArg (fun z => Value.int z :: [.ref 2]) (nI_add n 1)) ?_
  refine ev_pi (p' := 45) rfl rfl rfl ly_2 rfl rfl rfl rfl ?_
  refine ev_x (i := .iinc 2 (-8)) (len := 3) (p' := 48) (s' := []) (l' := [(2, .int 16), (0, .ref 2), (1, .int x_v)]) rfl rfl rfl ?_
  refine ev_x (i := .goto (-45)) (len := 3) (p' := 3) (s' := []) rfl rfl rfl ?_
  refine ev_x (i := .iload_n 2) (len := 1) (p' := 4) (s' := [.int 16]) rfl rfl rfl ?_
  refine ev_b0 (t := 51) (p' := 7) rfl rfl rfl (by decide) ?_
  refine ev_x (i := .aload_n 0) (len := 1) (p' := 8) (s' := [.ref 2]) rfl rfl rfl ?_
  refine ev_gi (p' := 11) (v := (nI (n + 1))) rfl rfl rfl ly_2 rfl rfl rfl ?_
  refine ev_x (i := .aload_n 0) (len := 1) (p' := 12) (s' := [.ref 2, .int (nI (n + 1))]) rfl rfl rfl ?_
  refine ev_gc (p' := 15) (v := 3) rfl rfl rfl ly_2 rfl rfl ?_
  refine ev_al (p' := 16) (v := (Int32.ofNat (gN σ 3))) rfl rfl ly_3 (by decide) (by decide) rfl rfl ?_
  refine ev_b2 (t := 45) (p' := 19) rfl rfl rfl (if_neg c_3) ?_
  refine ev_x (i := .aload_n 0) (len := 1) (p' := 20) (s' := [.ref 2]) rfl rfl rfl ?_
  refine ev_gc (p' := 23) (v := 3) rfl rfl rfl ly_2 rfl rfl ?_
  refine ev_x (i := .aload_n 0) (len := 1) (p' := 24) (s' := [.ref 2, .ref 3]) rfl rfl rfl ?_
  refine ev_gi (p' := 27) (v := (nI (n + 1))) rfl rfl rfl ly_2 rfl rfl rfl ?_
  refine ev_x (i := .iload_n 1) (len := 1) (p' := 28) (s' := [.int x_v, .int (nI (n + 1)), .ref 3]) rfl rfl rfl ?_
  refine ev_x (i := .iload_n 2) (len := 1) (p' := 29) (s' := [.int 16, .int x_v, .int (nI (n + 1)), .ref 3]) rfl rfl rfl ?_
  refine ev_x (i := .iushr) (len := 1) (p' := 30) (s' := [.int ((x_v).toUInt32 >>> ((16 : Int32).toUInt32 &&& Int32.toUInt32 31)).toInt32, .int (nI (n + 1)), .ref 3]) rfl rfl rfl ?_
  refine ev_x (i := .sipush 255) (len := 3) (p' := 33) (s' := [.int 255, .int ((x_v).toUInt32 >>> ((16 : Int32).toUInt32 &&& Int32.toUInt32 31)).toInt32, .int (nI (n + 1)), .ref 3]) rfl rfl rfl ?_
  refine ev_x (i := .iand) (len := 1) (p' := 34) (s' := [.int (((x_v).toUInt32 >>> ((16 : Int32).toUInt32 &&& Int32.toUInt32 31)).toInt32 &&& 255), .int (nI (n + 1)), .ref 3]) rfl rfl rfl ?_
  refine ev_pa (j := (n + 1)) (p' := 35) rfl rfl ly_3 rfl c_4 (nI_clamp (by omega)) ?_
  refine ev_x (i := .aload_n 0) (len := 1) (p' := 36) (s' := [.ref 2]) rfl rfl rfl ?_
  refine ev_x (i := .dup) (len := 1) (p' := 37) (s' := [.ref 2, .ref 2]) rfl rfl rfl ?_
  refine ev_gi (p' := 40) (v := (nI (n + 1))) rfl rfl rfl ly_2 rfl rfl rfl ?_
  refine ev_x (i := .iconst 1) (len := 1) (p' := 41) (s' := [.int 1, .int (nI (n + 1)), .ref 2]) rfl rfl rfl ?_
  refine ev_x (i := .iadd) (len := 1) (p' := 42) (s' := [.int ((nI (n + 1)) + 1), .ref 2]) rfl rfl rfl ?_
  refine ev_st (st' := [.int (nI (n + 1 + 1)), .ref 2]) (congrArg (fun z => Value.int z :: [.ref 2]) (nI_add (n + 1) 1)) ?_
  refine ev_pi (p' := 45) rfl rfl rfl ly_2 rfl rfl rfl rfl ?_
  refine ev_x (i := .iinc 2 (-8)) (len := 3) (p' := 48) (s' := []) (l' := [(2, .int 8), (0, .ref 2), (1, .int x_v)]) rfl rfl rfl ?_
  refine ev_x (i := .goto (-45)) (len := 3) (p' := 3) (s' := []) rfl rfl rfl ?_
  refine ev_x (i := .iload_n 2) (len := 1) (p' := 4) (s' := [.int 8]) rfl rfl rfl ?_
  refine ev_b0 (t := 51) (p' := 7) rfl rfl rfl (by decide) ?_
  refine ev_x (i := .aload_n 0) (len := 1) (p' := 8) (s' := [.ref 2]) rfl rfl rfl ?_
  refine ev_gi (p' := 11) (v := (nI (n + 1 + 1))) rfl rfl rfl ly_2 rfl rfl rfl ?_
  refine ev_x (i := .aload_n 0) (len := 1) (p' := 12) (s' := [.ref 2, .int (nI (n + 1 + 1))]) rfl rfl rfl ?_
  refine ev_gc (p' := 15) (v := 3) rfl rfl rfl ly_2 rfl rfl ?_
  refine ev_al (p' := 16) (v := (Int32.ofNat (gN σ 3))) rfl rfl ly_3 (by decide) (by decide) rfl rfl ?_
  refine ev_b2 (t := 45) (p' := 19) rfl rfl rfl (if_neg c_5) ?_
  refine ev_x (i := .aload_n 0) (len := 1) (p' := 20) (s' := [.ref 2]) rfl rfl rfl ?_
  refine ev_gc (p' := 23) (v := 3) rfl rfl rfl ly_2 rfl rfl ?_
  refine ev_x (i := .aload_n 0) (len := 1) (p' := 24) (s' := [.ref 2, .ref 3]) rfl rfl rfl ?_
  refine ev_gi (p' := 27) (v := (nI (n + 1 + 1))) rfl rfl rfl ly_2 rfl rfl rfl ?_
  refine ev_x (i := .iload_n 1) (len := 1) (p' := 28) (s' := [.int x_v, .int (nI (n + 1 + 1)), .ref 3]) rfl rfl rfl ?_
  refine ev_x (i := .iload_n 2) (len := 1) (p' := 29) (s' := [.int 8, .int x_v, .int (nI (n + 1 + 1)), .ref 3]) rfl rfl rfl ?_
  refine ev_x (i := .iushr) (len := 1) (p' := 30) (s' := [.int ((x_v).toUInt32 >>> ((8 : Int32).toUInt32 &&& Int32.toUInt32 31)).toInt32, .int (nI (n + 1 + 1)), .ref 3]) rfl rfl rfl ?_
  refine ev_x (i := .sipush 255) (len := 3) (p' := 33) (s' := [.int 255, .int ((x_v).toUInt32 >>> ((8 : Int32).toUInt32 &&& Int32.toUInt32 31)).toInt32, .int (nI (n + 1 + 1)), .ref 3]) rfl rfl rfl ?_
  refine ev_x (i := .iand) (len := 1) (p' := 34) (s' := [.int (((x_v).toUInt32 >>> ((8 : Int32).toUInt32 &&& Int32.toUInt32 31)).toInt32 &&& 255), .int (nI (n + 1 + 1)), .ref 3]) rfl rfl rfl ?_
  refine ev_pa (j := (n + 1 + 1)) (p' := 35) rfl rfl ly_3 rfl c_6 (nI_clamp (by omega)) ?_
  refine ev_x (i := .aload_n 0) (len := 1) (p' := 36) (s' := [.ref 2]) rfl rfl rfl ?_
  refine ev_x (i := .dup) (len := 1) (p' := 37) (s' := [.ref 2, .ref 2]) rfl rfl rfl ?_
  refine ev_gi (p' := 40) (v := (nI (n + 1 + 1))) rfl rfl rfl ly_2 rfl rfl rfl ?_
  refine ev_x (i := .iconst 1) (len := 1) (p' := 41) (s' := [.int 1, .int (nI (n + 1 + 1)), .ref 2]) rfl rfl rfl ?_
  refine ev_x (i := .iadd) (len := 1) (p' := 42) (s' := [.int ((nI (n + 1 + 1)) + 1), .ref 2]) rfl rfl rfl ?_
  refine ev_st (st' := [.int (nI (n + 1 + 1 + 1)), .ref 2]) (congrArg (fun z => Value.int z :: [.ref 2]) (nI_add (n + 1 + 1) 1)) ?_
  refine ev_pi (p' := 45) rfl rfl rfl ly_2 rfl rfl rfl rfl ?_
  refine ev_x (i := .iinc 2 (-8)) (len := 3) (p' := 48) (s' := []) (l' := [(2, .int 0), (0, .ref 2), (1, .int x_v)]) rfl rfl rfl ?_
  refine ev_x (i := .goto (-45)) (len := 3) (p' := 3) (s' := []) rfl rfl rfl ?_
  refine ev_x (i := .iload_n 2) (len := 1) (p' := 4) (s' := [.int 0]) rfl rfl rfl ?_
  refine ev_b0 (t := 51) (p' := 7) rfl rfl rfl (by decide) ?_
  refine ev_x (i := .aload_n 0) (len := 1) (p' := 8) (s' := [.ref 2]) rfl rfl rfl ?_
  refine ev_gi (p' := 11) (v := (nI (n + 1 + 1 + 1))) rfl rfl rfl ly_2 rfl rfl rfl ?_
  refine ev_x (i := .aload_n 0) (len := 1) (p' := 12) (s' := [.ref 2, .int (nI (n + 1 + 1 + 1))]) rfl rfl rfl ?_
  refine ev_gc (p' := 15) (v := 3) rfl rfl rfl ly_2 rfl rfl ?_
  refine ev_al (p' := 16) (v := (Int32.ofNat (gN σ 3))) rfl rfl ly_3 (by decide) (by decide) rfl rfl ?_
  refine ev_b2 (t := 45) (p' := 19) rfl rfl rfl (if_neg c_7) ?_
  refine ev_x (i := .aload_n 0) (len := 1) (p' := 20) (s' := [.ref 2]) rfl rfl rfl ?_
  refine ev_gc (p' := 23) (v := 3) rfl rfl rfl ly_2 rfl rfl ?_
  refine ev_x (i := .aload_n 0) (len := 1) (p' := 24) (s' := [.ref 2, .ref 3]) rfl rfl rfl ?_
  refine ev_gi (p' := 27) (v := (nI (n + 1 + 1 + 1))) rfl rfl rfl ly_2 rfl rfl rfl ?_
  refine ev_x (i := .iload_n 1) (len := 1) (p' := 28) (s' := [.int x_v, .int (nI (n + 1 + 1 + 1)), .ref 3]) rfl rfl rfl ?_
  refine ev_x (i := .iload_n 2) (len := 1) (p' := 29) (s' := [.int 0, .int x_v, .int (nI (n + 1 + 1 + 1)), .ref 3]) rfl rfl rfl ?_
  refine ev_x (i := .iushr) (len := 1) (p' := 30) (s' := [.int ((x_v).toUInt32 >>> ((0 : Int32).toUInt32 &&& Int32.toUInt32 31)).toInt32, .int (nI (n + 1 + 1 + 1)), .ref 3]) rfl rfl rfl ?_
  refine ev_x (i := .sipush 255) (len := 3) (p' := 33) (s' := [.int 255, .int ((x_v).toUInt32 >>> ((0 : Int32).toUInt32 &&& Int32.toUInt32 31)).toInt32, .int (nI (n + 1 + 1 + 1)), .ref 3]) rfl rfl rfl ?_
  refine ev_x (i := .iand) (len := 1) (p' := 34) (s' := [.int (((x_v).toUInt32 >>> ((0 : Int32).toUInt32 &&& Int32.toUInt32 31)).toInt32 &&& 255), .int (nI (n + 1 + 1 + 1)), .ref 3]) rfl rfl rfl ?_
  refine ev_pa (j := (n + 1 + 1 + 1)) (p' := 35) rfl rfl ly_3 rfl c_8 (nI_clamp (by omega)) ?_
  refine ev_x (i := .aload_n 0) (len := 1) (p' := 36) (s' := [.ref 2]) rfl rfl rfl ?_
  refine ev_x (i := .dup) (len := 1) (p' := 37) (s' := [.ref 2, .ref 2]) rfl rfl rfl ?_
  refine ev_gi (p' := 40) (v := (nI (n + 1 + 1 + 1))) rfl rfl rfl ly_2 rfl rfl rfl ?_
  refine ev_x (i := .iconst 1) (len := 1) (p' := 41) (s' := [.int 1, .int (nI (n + 1 + 1 + 1)), .ref 2]) rfl rfl rfl ?_
  refine ev_x (i := .iadd) (len := 1) (p' := 42) (s' := [.int ((nI (n + 1 + 1 + 1)) + 1), .ref 2]) rfl rfl rfl ?_
  refine ev_st (st' := [.int (nI (n + 1 + 1 + 1 + 1)), .ref 2]) (congrArg (fun z => Value.int z :: [.ref 2]) (nI_add (n + 1 + 1 + 1) 1)) ?_
  refine ev_pi (p' := 45) rfl rfl rfl ly_2 rfl rfl rfl rfl ?_
  refine ev_x (i := .iinc 2 (-8)) (len := 3) (p' := 48) (s' := []) (l' := [(2, .int (-8)), (0, .ref 2), (1, .int x_v)]) rfl rfl rfl ?_
  refine ev_x (i := .goto (-45)) (len := 3) (p' := 3) (s' := []) rfl rfl rfl ?_
  refine ev_x (i := .iload_n 2) (len := 1) (p' := 4) (s' := [.int (-8)]) rfl rfl rfl ?_
  refine ev_b0 (t := 51) (p' := 51) rfl rfl rfl (by decide) ?_
  exact ev_vret rfl rfl rfl
set_option maxHeartbeats 4000000 in
set_option maxRecDepth 100000 in
/-- GameText$Words.makeRoom()V -/
theorem mr_path {d : Nat} {σ : st_S} {n : Nat} (hi_2_1 : σ.1 2 1 = nI n) (c_1 : (nI (n + 20)) ≤ (Int32.ofNat (gN σ 3))) : vz_ev P0 (d + 1) 12 0 (lv_args 0 [.ref 2]) [] (hp σ) (.inl none, hp (σ)) := by
  refine ev_x (i := .aload_n 0) (len := 1) (p' := 1) (s' := [.ref 2]) rfl rfl rfl ?_
  refine ev_gi (p' := 4) (v := (nI n)) rfl rfl rfl ly_2 rfl rfl hi_2_1 ?_
  refine ev_x (i := .bipush 20) (len := 2) (p' := 6) (s' := [.int 20, .int (nI n)]) rfl rfl rfl ?_
  refine ev_x (i := .iadd) (len := 1) (p' := 7) (s' := [.int ((nI n) + 20)]) rfl rfl rfl ?_
  refine ev_st (st' := [.int (nI (n + 20))]) (congrArg (fun z => Value.int z :: []) (nI_add n 20)) ?_
  refine ev_x (i := .aload_n 0) (len := 1) (p' := 8) (s' := [.ref 2, .int (nI (n + 20))]) rfl rfl rfl ?_
  refine ev_gc (p' := 11) (v := 3) rfl rfl rfl ly_2 rfl rfl ?_
  refine ev_al (p' := 12) (v := (Int32.ofNat (gN σ 3))) rfl rfl ly_3 (by decide) (by decide) rfl rfl ?_
  refine ev_b2 (t := 33) (p' := 33) rfl rfl rfl (if_pos c_1) ?_
  exact ev_vret rfl rfl rfl
set_option maxHeartbeats 4000000 in
set_option maxRecDepth 100000 in
/-- GameText.feed(IIIII)I -/
theorem feed_path {d : Nat} {σ : st_S} {σ1 σ2 σ3 σ4 σ5 σ6 : st_S} {x_a x_b x_c x_d x_e : Int32} {n : Nat} (hi_2_1 : σ.1 2 1 = nI n) (c_1 : (nI (n + 20)) ≤ 16384) (k_1 : vz_ev P0 (d + 9) 12 0 (lv_args 0 [.ref 2]) [] (hp (σ)) (.inl none, hp σ1)) (k_2 : vz_ev P0 (d + 9) 14 0 (lv_args 0 [.ref 2, .int x_a]) [] (hp (σ1)) (.inl none, hp σ2)) (k_3 : vz_ev P0 (d + 9) 14 0 (lv_args 0 [.ref 2, .int x_b]) [] (hp (σ2)) (.inl none, hp σ3)) (k_4 : vz_ev P0 (d + 9) 14 0 (lv_args 0 [.ref 2, .int x_c]) [] (hp (σ3)) (.inl none, hp σ4)) (k_5 : vz_ev P0 (d + 9) 14 0 (lv_args 0 [.ref 2, .int x_d]) [] (hp (σ4)) (.inl none, hp σ5)) (k_6 : vz_ev P0 (d + 9) 14 0 (lv_args 0 [.ref 2, .int x_e]) [] (hp (σ5)) (.inl none, hp σ6)) : vz_ev P0 (d + 10) 11 0 (lv_args 0 [.ref 1, .int x_a, .int x_b, .int x_c, .int x_d, .int x_e]) [] (hp σ) (.inl (some (.int (σ6.1 2 1))), hp (σ6)) := by
  refine ev_x (i := .aload_n 0) (len := 1) (p' := 1) (s' := [.ref 1]) rfl rfl rfl ?_
  refine ev_gc (p' := 4) (v := 2) rfl rfl rfl ly_1 rfl rfl ?_
  refine ev_gi (p' := 7) (v := (nI n)) rfl rfl rfl ly_2 rfl rfl hi_2_1 ?_
  refine ev_x (i := .bipush 20) (len := 2) (p' := 9) (s' := [.int 20, .int (nI n)]) rfl rfl rfl ?_
  refine ev_x (i := .iadd) (len := 1) (p' := 10) (s' := [.int ((nI n) + 20)]) rfl rfl rfl ?_
  refine ev_st (st' := [.int (nI (n + 20))]) (congrArg (fun z => Value.int z :: []) (nI_add n 20)) ?_
  refine ev_x (i := .sipush 16384) (len := 3) (p' := 13) (s' := [.int 16384, .int (nI (n + 20))]) rfl rfl rfl ?_
  refine ev_b2 (t := 18) (p' := 18) rfl rfl rfl (if_pos c_1) ?_
  refine ev_x (i := .aload_n 0) (len := 1) (p' := 19) (s' := [.ref 1]) rfl rfl rfl ?_
  refine ev_gc (p' := 22) (v := 2) rfl rfl rfl ly_1 rfl rfl ?_
  refine ev_cv (d := d + 9) (As := []) (a := 2) (p' := 25) rfl rfl rfl ly_2 rfl rfl rfl rfl rfl rfl rfl k_1 ?_
  refine ev_st (st' := []) rfl ?_
  refine ev_x (i := .aload_n 0) (len := 1) (p' := 26) (s' := [.ref 1]) rfl rfl rfl ?_
  refine ev_gc (p' := 29) (v := 2) rfl rfl rfl ly_1 rfl rfl ?_
  refine ev_x (i := .iload_n 1) (len := 1) (p' := 30) (s' := [.int x_a, .ref 2]) rfl rfl rfl ?_
  refine ev_cv (d := d + 9) (As := [.int x_a]) (a := 2) (p' := 33) rfl rfl rfl ly_2 rfl rfl rfl rfl rfl rfl rfl k_2 ?_
  refine ev_st (st' := []) rfl ?_
  refine ev_x (i := .aload_n 0) (len := 1) (p' := 34) (s' := [.ref 1]) rfl rfl rfl ?_
  refine ev_gc (p' := 37) (v := 2) rfl rfl rfl ly_1 rfl rfl ?_
  refine ev_x (i := .iload_n 2) (len := 1) (p' := 38) (s' := [.int x_b, .ref 2]) rfl rfl rfl ?_
  refine ev_cv (d := d + 9) (As := [.int x_b]) (a := 2) (p' := 41) rfl rfl rfl ly_2 rfl rfl rfl rfl rfl rfl rfl k_3 ?_
  refine ev_st (st' := []) rfl ?_
  refine ev_x (i := .aload_n 0) (len := 1) (p' := 42) (s' := [.ref 1]) rfl rfl rfl ?_
  refine ev_gc (p' := 45) (v := 2) rfl rfl rfl ly_1 rfl rfl ?_
  refine ev_x (i := .iload_n 3) (len := 1) (p' := 46) (s' := [.int x_c, .ref 2]) rfl rfl rfl ?_
  refine ev_cv (d := d + 9) (As := [.int x_c]) (a := 2) (p' := 49) rfl rfl rfl ly_2 rfl rfl rfl rfl rfl rfl rfl k_4 ?_
  refine ev_st (st' := []) rfl ?_
  refine ev_x (i := .aload_n 0) (len := 1) (p' := 50) (s' := [.ref 1]) rfl rfl rfl ?_
  refine ev_gc (p' := 53) (v := 2) rfl rfl rfl ly_1 rfl rfl ?_
  refine ev_x (i := .iload 4) (len := 2) (p' := 55) (s' := [.int x_d, .ref 2]) rfl rfl rfl ?_
  refine ev_cv (d := d + 9) (As := [.int x_d]) (a := 2) (p' := 58) rfl rfl rfl ly_2 rfl rfl rfl rfl rfl rfl rfl k_5 ?_
  refine ev_st (st' := []) rfl ?_
  refine ev_x (i := .aload_n 0) (len := 1) (p' := 59) (s' := [.ref 1]) rfl rfl rfl ?_
  refine ev_gc (p' := 62) (v := 2) rfl rfl rfl ly_1 rfl rfl ?_
  refine ev_x (i := .iload 5) (len := 2) (p' := 64) (s' := [.int x_e, .ref 2]) rfl rfl rfl ?_
  refine ev_cv (d := d + 9) (As := [.int x_e]) (a := 2) (p' := 67) rfl rfl rfl ly_2 rfl rfl rfl rfl rfl rfl rfl k_6 ?_
  refine ev_st (st' := []) rfl ?_
  refine ev_x (i := .aload_n 0) (len := 1) (p' := 68) (s' := [.ref 1]) rfl rfl rfl ?_
  refine ev_gc (p' := 71) (v := 2) rfl rfl rfl ly_1 rfl rfl ?_
  refine ev_gi (p' := 74) (v := (σ6.1 2 1)) rfl rfl rfl ly_2 rfl rfl rfl ?_
  exact ev_iret rfl rfl rfl rfl
set_option maxHeartbeats 4000000 in
set_option maxRecDepth 100000 in
/-- GameText.feed(IIIII)I -/
theorem feed_full {d : Nat} {σ : st_S} {x_a x_b x_c x_d x_e : Int32} {n : Nat} (hi_2_1 : σ.1 2 1 = nI n) (c_1 : ¬ ((nI (n + 20)) ≤ 16384)) : vz_ev P0 (d + 10) 11 0 (lv_args 0 [.ref 1, .int x_a, .int x_b, .int x_c, .int x_d, .int x_e]) [] (hp σ) (.inl (some (.int (-1))), hp (σ)) := by
  refine ev_x (i := .aload_n 0) (len := 1) (p' := 1) (s' := [.ref 1]) rfl rfl rfl ?_
  refine ev_gc (p' := 4) (v := 2) rfl rfl rfl ly_1 rfl rfl ?_
  refine ev_gi (p' := 7) (v := (nI n)) rfl rfl rfl ly_2 rfl rfl hi_2_1 ?_
  refine ev_x (i := .bipush 20) (len := 2) (p' := 9) (s' := [.int 20, .int (nI n)]) rfl rfl rfl ?_
  refine ev_x (i := .iadd) (len := 1) (p' := 10) (s' := [.int ((nI n) + 20)]) rfl rfl rfl ?_
  refine ev_st (st' := [.int (nI (n + 20))]) (congrArg (fun z => Value.int z :: []) (nI_add n 20)) ?_
  refine ev_x (i := .sipush 16384) (len := 3) (p' := 13) (s' := [.int 16384, .int (nI (n + 20))]) rfl rfl rfl ?_
  refine ev_b2 (t := 18) (p' := 16) rfl rfl rfl (if_neg c_1) ?_
  refine ev_x (i := .iconst (-1)) (len := 1) (p' := 17) (s' := [.int (-1)]) rfl rfl rfl ?_
  exact ev_iret rfl rfl rfl rfl
set_option maxHeartbeats 4000000 in
set_option maxRecDepth 100000 in
/-- GameTextModel.feed(IIIII)I -/
theorem rfeed_path_67 {d : Nat} {σ : st_S} {σ1 σ2 σ3 σ4 σ5 : st_S} {x_a x_b x_c x_d x_e : Int32} {n : Nat} (hr_66_1 : σ.2.2.1 66 1 = 67) (hi_67_1 : σ.1 67 1 = nI n) (hr5_66_1 : σ5.2.2.1 66 1 = 67) (c_1 : (nI (n + 20)) ≤ 16384) (k_1 : vz_ev P0 (d + 9) 132 0 (lv_args 0 [.ref 66, .int x_a]) [] (hp (st_i (σ) 66 0 0)) (.inl none, hp σ1)) (k_2 : vz_ev P0 (d + 9) 132 0 (lv_args 0 [.ref 66, .int x_b]) [] (hp (σ1)) (.inl none, hp σ2)) (k_3 : vz_ev P0 (d + 9) 132 0 (lv_args 0 [.ref 66, .int x_c]) [] (hp (σ2)) (.inl none, hp σ3)) (k_4 : vz_ev P0 (d + 9) 132 0 (lv_args 0 [.ref 66, .int x_d]) [] (hp (σ3)) (.inl none, hp σ4)) (k_5 : vz_ev P0 (d + 9) 132 0 (lv_args 0 [.ref 66, .int x_e]) [] (hp (σ4)) (.inl none, hp σ5)) : vz_ev P0 (d + 10) 131 0 (lv_args 0 [.ref 66, .int x_a, .int x_b, .int x_c, .int x_d, .int x_e]) [] (hp σ) (.inl (some (.int (σ5.1 67 1))), hp (σ5)) := by
  refine ev_x (i := .aload_n 0) (len := 1) (p' := 1) (s' := [.ref 66]) rfl rfl rfl ?_
  refine ev_x (i := .iconst 0) (len := 1) (p' := 2) (s' := [.int 0, .ref 66]) rfl rfl rfl ?_
  refine ev_pi (p' := 5) rfl rfl rfl ly_66 rfl rfl rfl rfl ?_
  refine ev_x (i := .aload_n 0) (len := 1) (p' := 6) (s' := [.ref 66]) rfl rfl rfl ?_
  refine ev_gr (p' := 9) (v := 67) rfl rfl rfl ly_66 rfl rfl hr_66_1 ?_
  refine ev_gi (p' := 12) (v := (nI n)) rfl rfl rfl ly_67 rfl rfl hi_67_1 ?_
  refine ev_x (i := .bipush 20) (len := 2) (p' := 14) (s' := [.int 20, .int (nI n)]) rfl rfl rfl ?_
  refine ev_x (i := .iadd) (len := 1) (p' := 15) (s' := [.int ((nI n) + 20)]) rfl rfl rfl ?_
  refine ev_st (st' := [.int (nI (n + 20))]) (congrArg (fun z => Value.int z :: []) (nI_add n 20)) ?_
  refine ev_x (i := .sipush 16384) (len := 3) (p' := 18) (s' := [.int 16384, .int (nI (n + 20))]) rfl rfl rfl ?_
  refine ev_b2 (t := 23) (p' := 23) rfl rfl rfl (if_pos c_1) ?_
  refine ev_x (i := .aload_n 0) (len := 1) (p' := 24) (s' := [.ref 66]) rfl rfl rfl ?_
  refine ev_x (i := .iload_n 1) (len := 1) (p' := 25) (s' := [.int x_a, .ref 66]) rfl rfl rfl ?_
  refine ev_cv (d := d + 9) (As := [.int x_a]) (a := 66) (p' := 28) rfl rfl rfl ly_66 rfl rfl rfl rfl rfl rfl rfl k_1 ?_
  refine ev_st (st' := []) rfl ?_
  refine ev_x (i := .aload_n 0) (len := 1) (p' := 29) (s' := [.ref 66]) rfl rfl rfl ?_
  refine ev_x (i := .iload_n 2) (len := 1) (p' := 30) (s' := [.int x_b, .ref 66]) rfl rfl rfl ?_
  refine ev_cv (d := d + 9) (As := [.int x_b]) (a := 66) (p' := 33) rfl rfl rfl ly_66 rfl rfl rfl rfl rfl rfl rfl k_2 ?_
  refine ev_st (st' := []) rfl ?_
  refine ev_x (i := .aload_n 0) (len := 1) (p' := 34) (s' := [.ref 66]) rfl rfl rfl ?_
  refine ev_x (i := .iload_n 3) (len := 1) (p' := 35) (s' := [.int x_c, .ref 66]) rfl rfl rfl ?_
  refine ev_cv (d := d + 9) (As := [.int x_c]) (a := 66) (p' := 38) rfl rfl rfl ly_66 rfl rfl rfl rfl rfl rfl rfl k_3 ?_
  refine ev_st (st' := []) rfl ?_
  refine ev_x (i := .aload_n 0) (len := 1) (p' := 39) (s' := [.ref 66]) rfl rfl rfl ?_
  refine ev_x (i := .iload 4) (len := 2) (p' := 41) (s' := [.int x_d, .ref 66]) rfl rfl rfl ?_
  refine ev_cv (d := d + 9) (As := [.int x_d]) (a := 66) (p' := 44) rfl rfl rfl ly_66 rfl rfl rfl rfl rfl rfl rfl k_4 ?_
  refine ev_st (st' := []) rfl ?_
  refine ev_x (i := .aload_n 0) (len := 1) (p' := 45) (s' := [.ref 66]) rfl rfl rfl ?_
  refine ev_x (i := .iload 5) (len := 2) (p' := 47) (s' := [.int x_e, .ref 66]) rfl rfl rfl ?_
  refine ev_cv (d := d + 9) (As := [.int x_e]) (a := 66) (p' := 50) rfl rfl rfl ly_66 rfl rfl rfl rfl rfl rfl rfl k_5 ?_
  refine ev_st (st' := []) rfl ?_
  refine ev_x (i := .aload_n 0) (len := 1) (p' := 51) (s' := [.ref 66]) rfl rfl rfl ?_
  refine ev_gr (p' := 54) (v := 67) rfl rfl rfl ly_66 rfl rfl hr5_66_1 ?_
  refine ev_gi (p' := 57) (v := (σ5.1 67 1)) rfl rfl rfl ly_67 rfl rfl rfl ?_
  exact ev_iret rfl rfl rfl rfl
set_option maxHeartbeats 4000000 in
set_option maxRecDepth 100000 in
/-- GameTextModel.feed(IIIII)I -/
theorem rfeed_full_67 {d : Nat} {σ : st_S} {x_a x_b x_c x_d x_e : Int32} {n : Nat} (hr_66_1 : σ.2.2.1 66 1 = 67) (hi_67_1 : σ.1 67 1 = nI n) (c_1 : ¬ ((nI (n + 20)) ≤ 16384)) : vz_ev P0 (d + 10) 131 0 (lv_args 0 [.ref 66, .int x_a, .int x_b, .int x_c, .int x_d, .int x_e]) [] (hp σ) (.inl (some (.int (-1))), hp (st_i (σ) 66 0 0)) := by
  refine ev_x (i := .aload_n 0) (len := 1) (p' := 1) (s' := [.ref 66]) rfl rfl rfl ?_
  refine ev_x (i := .iconst 0) (len := 1) (p' := 2) (s' := [.int 0, .ref 66]) rfl rfl rfl ?_
  refine ev_pi (p' := 5) rfl rfl rfl ly_66 rfl rfl rfl rfl ?_
  refine ev_x (i := .aload_n 0) (len := 1) (p' := 6) (s' := [.ref 66]) rfl rfl rfl ?_
  refine ev_gr (p' := 9) (v := 67) rfl rfl rfl ly_66 rfl rfl hr_66_1 ?_
  refine ev_gi (p' := 12) (v := (nI n)) rfl rfl rfl ly_67 rfl rfl hi_67_1 ?_
  refine ev_x (i := .bipush 20) (len := 2) (p' := 14) (s' := [.int 20, .int (nI n)]) rfl rfl rfl ?_
  refine ev_x (i := .iadd) (len := 1) (p' := 15) (s' := [.int ((nI n) + 20)]) rfl rfl rfl ?_
  refine ev_st (st' := [.int (nI (n + 20))]) (congrArg (fun z => Value.int z :: []) (nI_add n 20)) ?_
  refine ev_x (i := .sipush 16384) (len := 3) (p' := 18) (s' := [.int 16384, .int (nI (n + 20))]) rfl rfl rfl ?_
  refine ev_b2 (t := 23) (p' := 21) rfl rfl rfl (if_neg c_1) ?_
  refine ev_x (i := .iconst (-1)) (len := 1) (p' := 22) (s' := [.int (-1)]) rfl rfl rfl ?_
  exact ev_iret rfl rfl rfl rfl
set_option maxHeartbeats 4000000 in
set_option maxRecDepth 100000 in
/-- GameTextModel.add4(I)V -/
theorem add4_path_67 {d : Nat} {σ : st_S} {σ1 σ2 σ3 σ4 : st_S} {x_v : Int32} (hr_66_1 : σ.2.2.1 66 1 = 67) (hr1_66_1 : σ1.2.2.1 66 1 = 67) (hr2_66_1 : σ2.2.2.1 66 1 = 67) (hr3_66_1 : σ3.2.2.1 66 1 = 67) (k_1 : vz_ev P0 (d + 8) 133 0 (lv_args 0 [.ref 67, .int ((x_v >>> ((24 : Int32) &&& 31)) &&& 255)]) [] (hp (σ)) (.inl none, hp σ1)) (k_2 : vz_ev P0 (d + 8) 133 0 (lv_args 0 [.ref 67, .int ((x_v >>> ((16 : Int32) &&& 31)) &&& 255)]) [] (hp (σ1)) (.inl none, hp σ2)) (k_3 : vz_ev P0 (d + 8) 133 0 (lv_args 0 [.ref 67, .int ((x_v >>> ((8 : Int32) &&& 31)) &&& 255)]) [] (hp (σ2)) (.inl none, hp σ3)) (k_4 : vz_ev P0 (d + 8) 133 0 (lv_args 0 [.ref 67, .int ((x_v >>> ((0 : Int32) &&& 31)) &&& 255)]) [] (hp (σ3)) (.inl none, hp σ4)) : vz_ev P0 (d + 9) 132 0 (lv_args 0 [.ref 66, .int x_v]) [] (hp σ) (.inl none, hp (σ4)) := by
  refine ev_x (i := .bipush 24) (len := 2) (p' := 2) (s' := [.int 24]) rfl rfl rfl ?_
  refine ev_x (i := .istore_n 2) (len := 1) (p' := 3) (s' := []) (l' := [(2, .int 24), (0, .ref 66), (1, .int x_v)]) rfl rfl rfl ?_
  refine ev_x (i := .iload_n 2) (len := 1) (p' := 4) (s' := [.int 24]) rfl rfl rfl ?_
  refine ev_b0 (t := 27) (p' := 7) rfl rfl rfl (by decide) ?_
  refine ev_x (i := .aload_n 0) (len := 1) (p' := 8) (s' := [.ref 66]) rfl rfl rfl ?_
  refine ev_gr (p' := 11) (v := 67) rfl rfl rfl ly_66 rfl rfl hr_66_1 ?_
  refine ev_x (i := .iload_n 1) (len := 1) (p' := 12) (s' := [.int x_v, .ref 67]) rfl rfl rfl ?_
  refine ev_x (i := .iload_n 2) (len := 1) (p' := 13) (s' := [.int 24, .int x_v, .ref 67]) rfl rfl rfl ?_
  refine ev_x (i := .ishr) (len := 1) (p' := 14) (s' := [.int (x_v >>> ((24 : Int32) &&& 31)), .ref 67]) rfl rfl rfl ?_
  refine ev_x (i := .sipush 255) (len := 3) (p' := 17) (s' := [.int 255, .int (x_v >>> ((24 : Int32) &&& 31)), .ref 67]) rfl rfl rfl ?_
  refine ev_x (i := .iand) (len := 1) (p' := 18) (s' := [.int ((x_v >>> ((24 : Int32) &&& 31)) &&& 255), .ref 67]) rfl rfl rfl ?_
  refine ev_cv (d := d + 8) (As := [.int ((x_v >>> ((24 : Int32) &&& 31)) &&& 255)]) (a := 67) (p' := 21) rfl rfl rfl ly_67 rfl rfl rfl rfl rfl rfl rfl k_1 ?_
  refine ev_st (st' := []) rfl ?_
  refine ev_x (i := .iinc 2 (-8)) (len := 3) (p' := 24) (s' := []) (l' := [(2, .int 16), (0, .ref 66), (1, .int x_v)]) rfl rfl rfl ?_
  refine ev_x (i := .goto (-21)) (len := 3) (p' := 3) (s' := []) rfl rfl rfl ?_
  refine ev_x (i := .iload_n 2) (len := 1) (p' := 4) (s' := [.int 16]) rfl rfl rfl ?_
  refine ev_b0 (t := 27) (p' := 7) rfl rfl rfl (by decide) ?_
  refine ev_x (i := .aload_n 0) (len := 1) (p' := 8) (s' := [.ref 66]) rfl rfl rfl ?_
  refine ev_gr (p' := 11) (v := 67) rfl rfl rfl ly_66 rfl rfl hr1_66_1 ?_
  refine ev_x (i := .iload_n 1) (len := 1) (p' := 12) (s' := [.int x_v, .ref 67]) rfl rfl rfl ?_
  refine ev_x (i := .iload_n 2) (len := 1) (p' := 13) (s' := [.int 16, .int x_v, .ref 67]) rfl rfl rfl ?_
  refine ev_x (i := .ishr) (len := 1) (p' := 14) (s' := [.int (x_v >>> ((16 : Int32) &&& 31)), .ref 67]) rfl rfl rfl ?_
  refine ev_x (i := .sipush 255) (len := 3) (p' := 17) (s' := [.int 255, .int (x_v >>> ((16 : Int32) &&& 31)), .ref 67]) rfl rfl rfl ?_
  refine ev_x (i := .iand) (len := 1) (p' := 18) (s' := [.int ((x_v >>> ((16 : Int32) &&& 31)) &&& 255), .ref 67]) rfl rfl rfl ?_
  refine ev_cv (d := d + 8) (As := [.int ((x_v >>> ((16 : Int32) &&& 31)) &&& 255)]) (a := 67) (p' := 21) rfl rfl rfl ly_67 rfl rfl rfl rfl rfl rfl rfl k_2 ?_
  refine ev_st (st' := []) rfl ?_
  refine ev_x (i := .iinc 2 (-8)) (len := 3) (p' := 24) (s' := []) (l' := [(2, .int 8), (0, .ref 66), (1, .int x_v)]) rfl rfl rfl ?_
  refine ev_x (i := .goto (-21)) (len := 3) (p' := 3) (s' := []) rfl rfl rfl ?_
  refine ev_x (i := .iload_n 2) (len := 1) (p' := 4) (s' := [.int 8]) rfl rfl rfl ?_
  refine ev_b0 (t := 27) (p' := 7) rfl rfl rfl (by decide) ?_
  refine ev_x (i := .aload_n 0) (len := 1) (p' := 8) (s' := [.ref 66]) rfl rfl rfl ?_
  refine ev_gr (p' := 11) (v := 67) rfl rfl rfl ly_66 rfl rfl hr2_66_1 ?_
  refine ev_x (i := .iload_n 1) (len := 1) (p' := 12) (s' := [.int x_v, .ref 67]) rfl rfl rfl ?_
  refine ev_x (i := .iload_n 2) (len := 1) (p' := 13) (s' := [.int 8, .int x_v, .ref 67]) rfl rfl rfl ?_
  refine ev_x (i := .ishr) (len := 1) (p' := 14) (s' := [.int (x_v >>> ((8 : Int32) &&& 31)), .ref 67]) rfl rfl rfl ?_
  refine ev_x (i := .sipush 255) (len := 3) (p' := 17) (s' := [.int 255, .int (x_v >>> ((8 : Int32) &&& 31)), .ref 67]) rfl rfl rfl ?_
  refine ev_x (i := .iand) (len := 1) (p' := 18) (s' := [.int ((x_v >>> ((8 : Int32) &&& 31)) &&& 255), .ref 67]) rfl rfl rfl ?_
  refine ev_cv (d := d + 8) (As := [.int ((x_v >>> ((8 : Int32) &&& 31)) &&& 255)]) (a := 67) (p' := 21) rfl rfl rfl ly_67 rfl rfl rfl rfl rfl rfl rfl k_3 ?_
  refine ev_st (st' := []) rfl ?_
  refine ev_x (i := .iinc 2 (-8)) (len := 3) (p' := 24) (s' := []) (l' := [(2, .int 0), (0, .ref 66), (1, .int x_v)]) rfl rfl rfl ?_
  refine ev_x (i := .goto (-21)) (len := 3) (p' := 3) (s' := []) rfl rfl rfl ?_
  refine ev_x (i := .iload_n 2) (len := 1) (p' := 4) (s' := [.int 0]) rfl rfl rfl ?_
  refine ev_b0 (t := 27) (p' := 7) rfl rfl rfl (by decide) ?_
  refine ev_x (i := .aload_n 0) (len := 1) (p' := 8) (s' := [.ref 66]) rfl rfl rfl ?_
  refine ev_gr (p' := 11) (v := 67) rfl rfl rfl ly_66 rfl rfl hr3_66_1 ?_
  refine ev_x (i := .iload_n 1) (len := 1) (p' := 12) (s' := [.int x_v, .ref 67]) rfl rfl rfl ?_
  refine ev_x (i := .iload_n 2) (len := 1) (p' := 13) (s' := [.int 0, .int x_v, .ref 67]) rfl rfl rfl ?_
  refine ev_x (i := .ishr) (len := 1) (p' := 14) (s' := [.int (x_v >>> ((0 : Int32) &&& 31)), .ref 67]) rfl rfl rfl ?_
  refine ev_x (i := .sipush 255) (len := 3) (p' := 17) (s' := [.int 255, .int (x_v >>> ((0 : Int32) &&& 31)), .ref 67]) rfl rfl rfl ?_
  refine ev_x (i := .iand) (len := 1) (p' := 18) (s' := [.int ((x_v >>> ((0 : Int32) &&& 31)) &&& 255), .ref 67]) rfl rfl rfl ?_
  refine ev_cv (d := d + 8) (As := [.int ((x_v >>> ((0 : Int32) &&& 31)) &&& 255)]) (a := 67) (p' := 21) rfl rfl rfl ly_67 rfl rfl rfl rfl rfl rfl rfl k_4 ?_
  refine ev_st (st' := []) rfl ?_
  refine ev_x (i := .iinc 2 (-8)) (len := 3) (p' := 24) (s' := []) (l' := [(2, .int (-8)), (0, .ref 66), (1, .int x_v)]) rfl rfl rfl ?_
  refine ev_x (i := .goto (-21)) (len := 3) (p' := 3) (s' := []) rfl rfl rfl ?_
  refine ev_x (i := .iload_n 2) (len := 1) (p' := 4) (s' := [.int (-8)]) rfl rfl rfl ?_
  refine ev_b0 (t := 27) (p' := 27) rfl rfl rfl (by decide) ?_
  exact ev_vret rfl rfl rfl
set_option maxHeartbeats 4000000 in
set_option maxRecDepth 100000 in
/-- GameTextModel.feed(IIIII)I -/
theorem rfeed_path_69 {d : Nat} {σ : st_S} {σ1 σ2 σ3 σ4 σ5 : st_S} {x_a x_b x_c x_d x_e : Int32} {n : Nat} (hr_66_1 : σ.2.2.1 66 1 = 69) (hi_69_1 : σ.1 69 1 = nI n) (hr5_66_1 : σ5.2.2.1 66 1 = 69) (c_1 : (nI (n + 20)) ≤ 16384) (k_1 : vz_ev P0 (d + 9) 132 0 (lv_args 0 [.ref 66, .int x_a]) [] (hp (st_i (σ) 66 0 0)) (.inl none, hp σ1)) (k_2 : vz_ev P0 (d + 9) 132 0 (lv_args 0 [.ref 66, .int x_b]) [] (hp (σ1)) (.inl none, hp σ2)) (k_3 : vz_ev P0 (d + 9) 132 0 (lv_args 0 [.ref 66, .int x_c]) [] (hp (σ2)) (.inl none, hp σ3)) (k_4 : vz_ev P0 (d + 9) 132 0 (lv_args 0 [.ref 66, .int x_d]) [] (hp (σ3)) (.inl none, hp σ4)) (k_5 : vz_ev P0 (d + 9) 132 0 (lv_args 0 [.ref 66, .int x_e]) [] (hp (σ4)) (.inl none, hp σ5)) : vz_ev P0 (d + 10) 131 0 (lv_args 0 [.ref 66, .int x_a, .int x_b, .int x_c, .int x_d, .int x_e]) [] (hp σ) (.inl (some (.int (σ5.1 69 1))), hp (σ5)) := by
  refine ev_x (i := .aload_n 0) (len := 1) (p' := 1) (s' := [.ref 66]) rfl rfl rfl ?_
  refine ev_x (i := .iconst 0) (len := 1) (p' := 2) (s' := [.int 0, .ref 66]) rfl rfl rfl ?_
  refine ev_pi (p' := 5) rfl rfl rfl ly_66 rfl rfl rfl rfl ?_
  refine ev_x (i := .aload_n 0) (len := 1) (p' := 6) (s' := [.ref 66]) rfl rfl rfl ?_
  refine ev_gr (p' := 9) (v := 69) rfl rfl rfl ly_66 rfl rfl hr_66_1 ?_
  refine ev_gi (p' := 12) (v := (nI n)) rfl rfl rfl ly_69 rfl rfl hi_69_1 ?_
  refine ev_x (i := .bipush 20) (len := 2) (p' := 14) (s' := [.int 20, .int (nI n)]) rfl rfl rfl ?_
  refine ev_x (i := .iadd) (len := 1) (p' := 15) (s' := [.int ((nI n) + 20)]) rfl rfl rfl ?_
  refine ev_st (st' := [.int (nI (n + 20))]) (congrArg (fun z => Value.int z :: []) (nI_add n 20)) ?_
  refine ev_x (i := .sipush 16384) (len := 3) (p' := 18) (s' := [.int 16384, .int (nI (n + 20))]) rfl rfl rfl ?_
  refine ev_b2 (t := 23) (p' := 23) rfl rfl rfl (if_pos c_1) ?_
  refine ev_x (i := .aload_n 0) (len := 1) (p' := 24) (s' := [.ref 66]) rfl rfl rfl ?_
  refine ev_x (i := .iload_n 1) (len := 1) (p' := 25) (s' := [.int x_a, .ref 66]) rfl rfl rfl ?_
  refine ev_cv (d := d + 9) (As := [.int x_a]) (a := 66) (p' := 28) rfl rfl rfl ly_66 rfl rfl rfl rfl rfl rfl rfl k_1 ?_
  refine ev_st (st' := []) rfl ?_
  refine ev_x (i := .aload_n 0) (len := 1) (p' := 29) (s' := [.ref 66]) rfl rfl rfl ?_
  refine ev_x (i := .iload_n 2) (len := 1) (p' := 30) (s' := [.int x_b, .ref 66]) rfl rfl rfl ?_
  refine ev_cv (d := d + 9) (As := [.int x_b]) (a := 66) (p' := 33) rfl rfl rfl ly_66 rfl rfl rfl rfl rfl rfl rfl k_2 ?_
  refine ev_st (st' := []) rfl ?_
  refine ev_x (i := .aload_n 0) (len := 1) (p' := 34) (s' := [.ref 66]) rfl rfl rfl ?_
  refine ev_x (i := .iload_n 3) (len := 1) (p' := 35) (s' := [.int x_c, .ref 66]) rfl rfl rfl ?_
  refine ev_cv (d := d + 9) (As := [.int x_c]) (a := 66) (p' := 38) rfl rfl rfl ly_66 rfl rfl rfl rfl rfl rfl rfl k_3 ?_
  refine ev_st (st' := []) rfl ?_
  refine ev_x (i := .aload_n 0) (len := 1) (p' := 39) (s' := [.ref 66]) rfl rfl rfl ?_
  refine ev_x (i := .iload 4) (len := 2) (p' := 41) (s' := [.int x_d, .ref 66]) rfl rfl rfl ?_
  refine ev_cv (d := d + 9) (As := [.int x_d]) (a := 66) (p' := 44) rfl rfl rfl ly_66 rfl rfl rfl rfl rfl rfl rfl k_4 ?_
  refine ev_st (st' := []) rfl ?_
  refine ev_x (i := .aload_n 0) (len := 1) (p' := 45) (s' := [.ref 66]) rfl rfl rfl ?_
  refine ev_x (i := .iload 5) (len := 2) (p' := 47) (s' := [.int x_e, .ref 66]) rfl rfl rfl ?_
  refine ev_cv (d := d + 9) (As := [.int x_e]) (a := 66) (p' := 50) rfl rfl rfl ly_66 rfl rfl rfl rfl rfl rfl rfl k_5 ?_
  refine ev_st (st' := []) rfl ?_
  refine ev_x (i := .aload_n 0) (len := 1) (p' := 51) (s' := [.ref 66]) rfl rfl rfl ?_
  refine ev_gr (p' := 54) (v := 69) rfl rfl rfl ly_66 rfl rfl hr5_66_1 ?_
  refine ev_gi (p' := 57) (v := (σ5.1 69 1)) rfl rfl rfl ly_69 rfl rfl rfl ?_
  exact ev_iret rfl rfl rfl rfl
set_option maxHeartbeats 4000000 in
set_option maxRecDepth 100000 in
/-- GameTextModel.feed(IIIII)I -/
theorem rfeed_full_69 {d : Nat} {σ : st_S} {x_a x_b x_c x_d x_e : Int32} {n : Nat} (hr_66_1 : σ.2.2.1 66 1 = 69) (hi_69_1 : σ.1 69 1 = nI n) (c_1 : ¬ ((nI (n + 20)) ≤ 16384)) : vz_ev P0 (d + 10) 131 0 (lv_args 0 [.ref 66, .int x_a, .int x_b, .int x_c, .int x_d, .int x_e]) [] (hp σ) (.inl (some (.int (-1))), hp (st_i (σ) 66 0 0)) := by
  refine ev_x (i := .aload_n 0) (len := 1) (p' := 1) (s' := [.ref 66]) rfl rfl rfl ?_
  refine ev_x (i := .iconst 0) (len := 1) (p' := 2) (s' := [.int 0, .ref 66]) rfl rfl rfl ?_
  refine ev_pi (p' := 5) rfl rfl rfl ly_66 rfl rfl rfl rfl ?_
  refine ev_x (i := .aload_n 0) (len := 1) (p' := 6) (s' := [.ref 66]) rfl rfl rfl ?_
  refine ev_gr (p' := 9) (v := 69) rfl rfl rfl ly_66 rfl rfl hr_66_1 ?_
  refine ev_gi (p' := 12) (v := (nI n)) rfl rfl rfl ly_69 rfl rfl hi_69_1 ?_
  refine ev_x (i := .bipush 20) (len := 2) (p' := 14) (s' := [.int 20, .int (nI n)]) rfl rfl rfl ?_
  refine ev_x (i := .iadd) (len := 1) (p' := 15) (s' := [.int ((nI n) + 20)]) rfl rfl rfl ?_
  refine ev_st (st' := [.int (nI (n + 20))]) (congrArg (fun z => Value.int z :: []) (nI_add n 20)) ?_
  refine ev_x (i := .sipush 16384) (len := 3) (p' := 18) (s' := [.int 16384, .int (nI (n + 20))]) rfl rfl rfl ?_
  refine ev_b2 (t := 23) (p' := 21) rfl rfl rfl (if_neg c_1) ?_
  refine ev_x (i := .iconst (-1)) (len := 1) (p' := 22) (s' := [.int (-1)]) rfl rfl rfl ?_
  exact ev_iret rfl rfl rfl rfl
set_option maxHeartbeats 4000000 in
set_option maxRecDepth 100000 in
/-- GameTextModel.add4(I)V -/
theorem add4_path_69 {d : Nat} {σ : st_S} {σ1 σ2 σ3 σ4 : st_S} {x_v : Int32} (hr_66_1 : σ.2.2.1 66 1 = 69) (hr1_66_1 : σ1.2.2.1 66 1 = 69) (hr2_66_1 : σ2.2.2.1 66 1 = 69) (hr3_66_1 : σ3.2.2.1 66 1 = 69) (k_1 : vz_ev P0 (d + 8) 133 0 (lv_args 0 [.ref 69, .int ((x_v >>> ((24 : Int32) &&& 31)) &&& 255)]) [] (hp (σ)) (.inl none, hp σ1)) (k_2 : vz_ev P0 (d + 8) 133 0 (lv_args 0 [.ref 69, .int ((x_v >>> ((16 : Int32) &&& 31)) &&& 255)]) [] (hp (σ1)) (.inl none, hp σ2)) (k_3 : vz_ev P0 (d + 8) 133 0 (lv_args 0 [.ref 69, .int ((x_v >>> ((8 : Int32) &&& 31)) &&& 255)]) [] (hp (σ2)) (.inl none, hp σ3)) (k_4 : vz_ev P0 (d + 8) 133 0 (lv_args 0 [.ref 69, .int ((x_v >>> ((0 : Int32) &&& 31)) &&& 255)]) [] (hp (σ3)) (.inl none, hp σ4)) : vz_ev P0 (d + 9) 132 0 (lv_args 0 [.ref 66, .int x_v]) [] (hp σ) (.inl none, hp (σ4)) := by
  refine ev_x (i := .bipush 24) (len := 2) (p' := 2) (s' := [.int 24]) rfl rfl rfl ?_
  refine ev_x (i := .istore_n 2) (len := 1) (p' := 3) (s' := []) (l' := [(2, .int 24), (0, .ref 66), (1, .int x_v)]) rfl rfl rfl ?_
  refine ev_x (i := .iload_n 2) (len := 1) (p' := 4) (s' := [.int 24]) rfl rfl rfl ?_
  refine ev_b0 (t := 27) (p' := 7) rfl rfl rfl (by decide) ?_
  refine ev_x (i := .aload_n 0) (len := 1) (p' := 8) (s' := [.ref 66]) rfl rfl rfl ?_
  refine ev_gr (p' := 11) (v := 69) rfl rfl rfl ly_66 rfl rfl hr_66_1 ?_
  refine ev_x (i := .iload_n 1) (len := 1) (p' := 12) (s' := [.int x_v, .ref 69]) rfl rfl rfl ?_
  refine ev_x (i := .iload_n 2) (len := 1) (p' := 13) (s' := [.int 24, .int x_v, .ref 69]) rfl rfl rfl ?_
  refine ev_x (i := .ishr) (len := 1) (p' := 14) (s' := [.int (x_v >>> ((24 : Int32) &&& 31)), .ref 69]) rfl rfl rfl ?_
  refine ev_x (i := .sipush 255) (len := 3) (p' := 17) (s' := [.int 255, .int (x_v >>> ((24 : Int32) &&& 31)), .ref 69]) rfl rfl rfl ?_
  refine ev_x (i := .iand) (len := 1) (p' := 18) (s' := [.int ((x_v >>> ((24 : Int32) &&& 31)) &&& 255), .ref 69]) rfl rfl rfl ?_
  refine ev_cv (d := d + 8) (As := [.int ((x_v >>> ((24 : Int32) &&& 31)) &&& 255)]) (a := 69) (p' := 21) rfl rfl rfl ly_69 rfl rfl rfl rfl rfl rfl rfl k_1 ?_
  refine ev_st (st' := []) rfl ?_
  refine ev_x (i := .iinc 2 (-8)) (len := 3) (p' := 24) (s' := []) (l' := [(2, .int 16), (0, .ref 66), (1, .int x_v)]) rfl rfl rfl ?_
  refine ev_x (i := .goto (-21)) (len := 3) (p' := 3) (s' := []) rfl rfl rfl ?_
  refine ev_x (i := .iload_n 2) (len := 1) (p' := 4) (s' := [.int 16]) rfl rfl rfl ?_
  refine ev_b0 (t := 27) (p' := 7) rfl rfl rfl (by decide) ?_
  refine ev_x (i := .aload_n 0) (len := 1) (p' := 8) (s' := [.ref 66]) rfl rfl rfl ?_
  refine ev_gr (p' := 11) (v := 69) rfl rfl rfl ly_66 rfl rfl hr1_66_1 ?_
  refine ev_x (i := .iload_n 1) (len := 1) (p' := 12) (s' := [.int x_v, .ref 69]) rfl rfl rfl ?_
  refine ev_x (i := .iload_n 2) (len := 1) (p' := 13) (s' := [.int 16, .int x_v, .ref 69]) rfl rfl rfl ?_
  refine ev_x (i := .ishr) (len := 1) (p' := 14) (s' := [.int (x_v >>> ((16 : Int32) &&& 31)), .ref 69]) rfl rfl rfl ?_
  refine ev_x (i := .sipush 255) (len := 3) (p' := 17) (s' := [.int 255, .int (x_v >>> ((16 : Int32) &&& 31)), .ref 69]) rfl rfl rfl ?_
  refine ev_x (i := .iand) (len := 1) (p' := 18) (s' := [.int ((x_v >>> ((16 : Int32) &&& 31)) &&& 255), .ref 69]) rfl rfl rfl ?_
  refine ev_cv (d := d + 8) (As := [.int ((x_v >>> ((16 : Int32) &&& 31)) &&& 255)]) (a := 69) (p' := 21) rfl rfl rfl ly_69 rfl rfl rfl rfl rfl rfl rfl k_2 ?_
  refine ev_st (st' := []) rfl ?_
  refine ev_x (i := .iinc 2 (-8)) (len := 3) (p' := 24) (s' := []) (l' := [(2, .int 8), (0, .ref 66), (1, .int x_v)]) rfl rfl rfl ?_
  refine ev_x (i := .goto (-21)) (len := 3) (p' := 3) (s' := []) rfl rfl rfl ?_
  refine ev_x (i := .iload_n 2) (len := 1) (p' := 4) (s' := [.int 8]) rfl rfl rfl ?_
  refine ev_b0 (t := 27) (p' := 7) rfl rfl rfl (by decide) ?_
  refine ev_x (i := .aload_n 0) (len := 1) (p' := 8) (s' := [.ref 66]) rfl rfl rfl ?_
  refine ev_gr (p' := 11) (v := 69) rfl rfl rfl ly_66 rfl rfl hr2_66_1 ?_
  refine ev_x (i := .iload_n 1) (len := 1) (p' := 12) (s' := [.int x_v, .ref 69]) rfl rfl rfl ?_
  refine ev_x (i := .iload_n 2) (len := 1) (p' := 13) (s' := [.int 8, .int x_v, .ref 69]) rfl rfl rfl ?_
  refine ev_x (i := .ishr) (len := 1) (p' := 14) (s' := [.int (x_v >>> ((8 : Int32) &&& 31)), .ref 69]) rfl rfl rfl ?_
  refine ev_x (i := .sipush 255) (len := 3) (p' := 17) (s' := [.int 255, .int (x_v >>> ((8 : Int32) &&& 31)), .ref 69]) rfl rfl rfl ?_
  refine ev_x (i := .iand) (len := 1) (p' := 18) (s' := [.int ((x_v >>> ((8 : Int32) &&& 31)) &&& 255), .ref 69]) rfl rfl rfl ?_
  refine ev_cv (d := d + 8) (As := [.int ((x_v >>> ((8 : Int32) &&& 31)) &&& 255)]) (a := 69) (p' := 21) rfl rfl rfl ly_69 rfl rfl rfl rfl rfl rfl rfl k_3 ?_
  refine ev_st (st' := []) rfl ?_
  refine ev_x (i := .iinc 2 (-8)) (len := 3) (p' := 24) (s' := []) (l' := [(2, .int 0), (0, .ref 66), (1, .int x_v)]) rfl rfl rfl ?_
  refine ev_x (i := .goto (-21)) (len := 3) (p' := 3) (s' := []) rfl rfl rfl ?_
  refine ev_x (i := .iload_n 2) (len := 1) (p' := 4) (s' := [.int 0]) rfl rfl rfl ?_
  refine ev_b0 (t := 27) (p' := 7) rfl rfl rfl (by decide) ?_
  refine ev_x (i := .aload_n 0) (len := 1) (p' := 8) (s' := [.ref 66]) rfl rfl rfl ?_
  refine ev_gr (p' := 11) (v := 69) rfl rfl rfl ly_66 rfl rfl hr3_66_1 ?_
  refine ev_x (i := .iload_n 1) (len := 1) (p' := 12) (s' := [.int x_v, .ref 69]) rfl rfl rfl ?_
  refine ev_x (i := .iload_n 2) (len := 1) (p' := 13) (s' := [.int 0, .int x_v, .ref 69]) rfl rfl rfl ?_
  refine ev_x (i := .ishr) (len := 1) (p' := 14) (s' := [.int (x_v >>> ((0 : Int32) &&& 31)), .ref 69]) rfl rfl rfl ?_
  refine ev_x (i := .sipush 255) (len := 3) (p' := 17) (s' := [.int 255, .int (x_v >>> ((0 : Int32) &&& 31)), .ref 69]) rfl rfl rfl ?_
  refine ev_x (i := .iand) (len := 1) (p' := 18) (s' := [.int ((x_v >>> ((0 : Int32) &&& 31)) &&& 255), .ref 69]) rfl rfl rfl ?_
  refine ev_cv (d := d + 8) (As := [.int ((x_v >>> ((0 : Int32) &&& 31)) &&& 255)]) (a := 69) (p' := 21) rfl rfl rfl ly_69 rfl rfl rfl rfl rfl rfl rfl k_4 ?_
  refine ev_st (st' := []) rfl ?_
  refine ev_x (i := .iinc 2 (-8)) (len := 3) (p' := 24) (s' := []) (l' := [(2, .int (-8)), (0, .ref 66), (1, .int x_v)]) rfl rfl rfl ?_
  refine ev_x (i := .goto (-21)) (len := 3) (p' := 3) (s' := []) rfl rfl rfl ?_
  refine ev_x (i := .iload_n 2) (len := 1) (p' := 4) (s' := [.int (-8)]) rfl rfl rfl ?_
  refine ev_b0 (t := 27) (p' := 27) rfl rfl rfl (by decide) ?_
  exact ev_vret rfl rfl rfl
