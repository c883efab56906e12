/-! the law, feed. Written by wip/prog/gen_p1.py -/
set_option maxHeartbeats 4000000 in
set_option maxRecDepth 100000 in
/-- GameText$Words.makeRoom()V -/
theorem wl0_161 {d : Nat} {σ : st_S} (hi_2_1 : σ.1 2 1 = 0) (hn_3 : (σ.2.2.2.1 3).1 = 256) : vz_ev P0 (d + 1) 12 0 (lv_args 0 [.ref 2]) [] (hp σ) (.inl none, hp (σ)) := by
  refine ev_x (i := .aload_n 0) (len := 1) (p' := 1) (s' := [.ref 2]) rfl rfl rfl ?_
  refine ev_gi (p' := 4) (v := 0) rfl rfl rfl ly_2 rfl rfl hi_2_1 ?_
  refine ev_x (i := .bipush 20) (len := 2) (p' := 6) (s' := [.int 20, .int 0]) rfl rfl rfl ?_
  refine ev_x (i := .iadd) (len := 1) (p' := 7) (s' := [.int 20]) rfl rfl rfl ?_
  refine ev_x (i := .aload_n 0) (len := 1) (p' := 8) (s' := [.ref 2, .int 20]) rfl rfl rfl ?_
  refine ev_gc (p' := 11) (v := 3) rfl rfl rfl ly_2 rfl rfl ?_
  refine ev_al (p' := 12) (v := 256) rfl rfl ly_3 (by decide) (by decide) rfl (congrArg Int32.ofNat hn_3) ?_
  refine ev_b2 (t := 33) (p' := 33) rfl rfl rfl (by decide) ?_
  exact ev_vret rfl rfl rfl
set_option maxHeartbeats 4000000 in
set_option maxRecDepth 100000 in
/-- GameText$Words.put(I)V -/
theorem wl0_162 {d : Nat} {σ : st_S} {xs : Nat → Int32} (hi_2_1 : σ.1 2 1 = 0) (hn_3 : (σ.2.2.2.1 3).1 = 256) : vz_ev P0 (d + 1) 14 0 (lv_args 0 [.ref 2, .int (xs 1)]) [] (hp σ) (.inl none, hp (st_i (st_e (st_i (st_e (st_i (st_e (st_i (st_e (σ) 3 0 ((((xs 1)).toUInt32 >>> ((24 : Int32).toUInt32 &&& Int32.toUInt32 31)).toInt32 &&& 255)) 2 1 1) 3 1 ((((xs 1)).toUInt32 >>> ((16 : Int32).toUInt32 &&& Int32.toUInt32 31)).toInt32 &&& 255)) 2 1 2) 3 2 ((((xs 1)).toUInt32 >>> ((8 : Int32).toUInt32 &&& Int32.toUInt32 31)).toInt32 &&& 255)) 2 1 3) 3 3 ((((xs 1)).toUInt32 >>> ((0 : Int32).toUInt32 &&& Int32.toUInt32 31)).toInt32 &&& 255)) 2 1 4)) := by
  refine ev_x (i := .bipush 24) (len := 2) (p' := 2) (s' := [.int 24]) rfl rfl rfl ?_
  refine ev_x (i := .istore_n 2) (len := 1) (p' := 3) (s' := []) (l' := [(2, .int 24), (0, .ref 2), (1, .int (xs 1))]) rfl rfl rfl ?_
  refine ev_x (i := .iload_n 2) (len := 1) (p' := 4) (s' := [.int 24]) rfl rfl rfl ?_
  refine ev_b0 (t := 51) (p' := 7) rfl rfl rfl (by decide) ?_
  refine ev_x (i := .aload_n 0) (len := 1) (p' := 8) (s' := [.ref 2]) rfl rfl rfl ?_
  refine ev_gi (p' := 11) (v := 0) rfl rfl rfl ly_2 rfl rfl hi_2_1 ?_
  refine ev_x (i := .aload_n 0) (len := 1) (p' := 12) (s' := [.ref 2, .int 0]) rfl rfl rfl ?_
  refine ev_gc (p' := 15) (v := 3) rfl rfl rfl ly_2 rfl rfl ?_
  refine ev_al (p' := 16) (v := 256) rfl rfl ly_3 (by decide) (by decide) rfl (congrArg Int32.ofNat hn_3) ?_
  refine ev_b2 (t := 45) (p' := 19) rfl rfl rfl (by decide) ?_
  refine ev_x (i := .aload_n 0) (len := 1) (p' := 20) (s' := [.ref 2]) rfl rfl rfl ?_
  refine ev_gc (p' := 23) (v := 3) rfl rfl rfl ly_2 rfl rfl ?_
  refine ev_x (i := .aload_n 0) (len := 1) (p' := 24) (s' := [.ref 2, .ref 3]) rfl rfl rfl ?_
  refine ev_gi (p' := 27) (v := 0) rfl rfl rfl ly_2 rfl rfl hi_2_1 ?_
  refine ev_x (i := .iload_n 1) (len := 1) (p' := 28) (s' := [.int (xs 1), .int 0, .ref 3]) rfl rfl rfl ?_
  refine ev_x (i := .iload_n 2) (len := 1) (p' := 29) (s' := [.int 24, .int (xs 1), .int 0, .ref 3]) rfl rfl rfl ?_
  refine ev_x (i := .iushr) (len := 1) (p' := 30) (s' := [.int (((xs 1)).toUInt32 >>> ((24 : Int32).toUInt32 &&& Int32.toUInt32 31)).toInt32, .int 0, .ref 3]) rfl rfl rfl ?_
  refine ev_x (i := .sipush 255) (len := 3) (p' := 33) (s' := [.int 255, .int (((xs 1)).toUInt32 >>> ((24 : Int32).toUInt32 &&& Int32.toUInt32 31)).toInt32, .int 0, .ref 3]) rfl rfl rfl ?_
  refine ev_x (i := .iand) (len := 1) (p' := 34) (s' := [.int ((((xs 1)).toUInt32 >>> ((24 : Int32).toUInt32 &&& Int32.toUInt32 31)).toInt32 &&& 255), .int 0, .ref 3]) rfl rfl rfl ?_
  refine ev_pa (j := 0) (p' := 35) rfl rfl ly_3 rfl (sp_in_of hn_3 rfl) rfl ?_
  refine ev_x (i := .aload_n 0) (len := 1) (p' := 36) (s' := [.ref 2]) rfl rfl rfl ?_
  refine ev_x (i := .dup) (len := 1) (p' := 37) (s' := [.ref 2, .ref 2]) rfl rfl rfl ?_
  refine ev_gi (p' := 40) (v := 0) rfl rfl rfl ly_2 rfl rfl hi_2_1 ?_
  refine ev_x (i := .iconst 1) (len := 1) (p' := 41) (s' := [.int 1, .int 0, .ref 2]) rfl rfl rfl ?_
  refine ev_x (i := .iadd) (len := 1) (p' := 42) (s' := [.int 1, .ref 2]) rfl rfl rfl ?_
  refine ev_pi (p' := 45) rfl rfl rfl ly_2 rfl rfl rfl rfl ?_
  refine ev_x (i := .iinc 2 (-8)) (len := 3) (p' := 48) (s' := []) (l' := [(2, .int 16), (0, .ref 2), (1, .int (xs 1))]) rfl rfl rfl ?_
  refine ev_x (i := .goto (-45)) (len := 3) (p' := 3) (s' := []) rfl rfl rfl ?_
  refine ev_x (i := .iload_n 2) (len := 1) (p' := 4) (s' := [.int 16]) rfl rfl rfl ?_
  refine ev_b0 (t := 51) (p' := 7) rfl rfl rfl (by decide) ?_
  refine ev_x (i := .aload_n 0) (len := 1) (p' := 8) (s' := [.ref 2]) rfl rfl rfl ?_
  refine ev_gi (p' := 11) (v := 1) rfl rfl rfl ly_2 rfl rfl rfl ?_
  refine ev_x (i := .aload_n 0) (len := 1) (p' := 12) (s' := [.ref 2, .int 1]) rfl rfl rfl ?_
  refine ev_gc (p' := 15) (v := 3) rfl rfl rfl ly_2 rfl rfl ?_
  refine ev_al (p' := 16) (v := 256) rfl rfl ly_3 (by decide) (by decide) rfl (congrArg Int32.ofNat hn_3) ?_
  refine ev_b2 (t := 45) (p' := 19) rfl rfl rfl (by decide) ?_
  refine ev_x (i := .aload_n 0) (len := 1) (p' := 20) (s' := [.ref 2]) rfl rfl rfl ?_
  refine ev_gc (p' := 23) (v := 3) rfl rfl rfl ly_2 rfl rfl ?_
  refine ev_x (i := .aload_n 0) (len := 1) (p' := 24) (s' := [.ref 2, .ref 3]) rfl rfl rfl ?_
  refine ev_gi (p' := 27) (v := 1) rfl rfl rfl ly_2 rfl rfl rfl ?_
  refine ev_x (i := .iload_n 1) (len := 1) (p' := 28) (s' := [.int (xs 1), .int 1, .ref 3]) rfl rfl rfl ?_
  refine ev_x (i := .iload_n 2) (len := 1) (p' := 29) (s' := [.int 16, .int (xs 1), .int 1, .ref 3]) rfl rfl rfl ?_
  refine ev_x (i := .iushr) (len := 1) (p' := 30) (s' := [.int (((xs 1)).toUInt32 >>> ((16 : Int32).toUInt32 &&& Int32.toUInt32 31)).toInt32, .int 1, .ref 3]) rfl rfl rfl ?_
  refine ev_x (i := .sipush 255) (len := 3) (p' := 33) (s' := [.int 255, .int (((xs 1)).toUInt32 >>> ((16 : Int32).toUInt32 &&& Int32.toUInt32 31)).toInt32, .int 1, .ref 3]) rfl rfl rfl ?_
  refine ev_x (i := .iand) (len := 1) (p' := 34) (s' := [.int ((((xs 1)).toUInt32 >>> ((16 : Int32).toUInt32 &&& Int32.toUInt32 31)).toInt32 &&& 255), .int 1, .ref 3]) rfl rfl rfl ?_
  refine ev_pa (j := 1) (p' := 35) rfl rfl ly_3 rfl (sp_in_of hn_3 rfl) rfl ?_
  refine ev_x (i := .aload_n 0) (len := 1) (p' := 36) (s' := [.ref 2]) rfl rfl rfl ?_
  refine ev_x (i := .dup) (len := 1) (p' := 37) (s' := [.ref 2, .ref 2]) rfl rfl rfl ?_
  refine ev_gi (p' := 40) (v := 1) rfl rfl rfl ly_2 rfl rfl rfl ?_
  refine ev_x (i := .iconst 1) (len := 1) (p' := 41) (s' := [.int 1, .int 1, .ref 2]) rfl rfl rfl ?_
  refine ev_x (i := .iadd) (len := 1) (p' := 42) (s' := [.int 2, .ref 2]) rfl rfl rfl ?_
  refine ev_pi (p' := 45) rfl rfl rfl ly_2 rfl rfl rfl rfl ?_
  refine ev_x (i := .iinc 2 (-8)) (len := 3) (p' := 48) (s' := []) (l' := [(2, .int 8), (0, .ref 2), (1, .int (xs 1))]) rfl rfl rfl ?_
  refine ev_x (i := .goto (-45)) (len := 3) (p' := 3) (s' := []) rfl rfl rfl ?_
  refine ev_x (i := .iload_n 2) (len := 1) (p' := 4) (s' := [.int 8]) rfl rfl rfl ?_
  refine ev_b0 (t := 51) (p' := 7) rfl rfl rfl (by decide) ?_
  refine ev_x (i := .aload_n 0) (len := 1) (p' := 8) (s' := [.ref 2]) rfl rfl rfl ?_
  refine ev_gi (p' := 11) (v := 2) rfl rfl rfl ly_2 rfl rfl rfl ?_
  refine ev_x (i := .aload_n 0) (len := 1) (p' := 12) (s' := [.ref 2, .int 2]) rfl rfl rfl ?_
  refine ev_gc (p' := 15) (v := 3) rfl rfl rfl ly_2 rfl rfl ?_
  refine ev_al (p' := 16) (v := 256) rfl rfl ly_3 (by decide) (by decide) rfl (congrArg Int32.ofNat hn_3) ?_
  refine ev_b2 (t := 45) (p' := 19) rfl rfl rfl (by decide) ?_
  refine ev_x (i := .aload_n 0) (len := 1) (p' := 20) (s' := [.ref 2]) rfl rfl rfl ?_
  refine ev_gc (p' := 23) (v := 3) rfl rfl rfl ly_2 rfl rfl ?_
  refine ev_x (i := .aload_n 0) (len := 1) (p' := 24) (s' := [.ref 2, .ref 3]) rfl rfl rfl ?_
  refine ev_gi (p' := 27) (v := 2) rfl rfl rfl ly_2 rfl rfl rfl ?_
  refine ev_x (i := .iload_n 1) (len := 1) (p' := 28) (s' := [.int (xs 1), .int 2, .ref 3]) rfl rfl rfl ?_
  refine ev_x (i := .iload_n 2) (len := 1) (p' := 29) (s' := [.int 8, .int (xs 1), .int 2, .ref 3]) rfl rfl rfl ?_
  refine ev_x (i := .iushr) (len := 1) (p' := 30) (s' := [.int (((xs 1)).toUInt32 >>> ((8 : Int32).toUInt32 &&& Int32.toUInt32 31)).toInt32, .int 2, .ref 3]) rfl rfl rfl ?_
  refine ev_x (i := .sipush 255) (len := 3) (p' := 33) (s' := [.int 255, .int (((xs 1)).toUInt32 >>> ((8 : Int32).toUInt32 &&& Int32.toUInt32 31)).toInt32, .int 2, .ref 3]) rfl rfl rfl ?_
  refine ev_x (i := .iand) (len := 1) (p' := 34) (s' := [.int ((((xs 1)).toUInt32 >>> ((8 : Int32).toUInt32 &&& Int32.toUInt32 31)).toInt32 &&& 255), .int 2, .ref 3]) rfl rfl rfl ?_
  refine ev_pa (j := 2) (p' := 35) rfl rfl ly_3 rfl (sp_in_of hn_3 rfl) rfl ?_
  refine ev_x (i := .aload_n 0) (len := 1) (p' := 36) (s' := [.ref 2]) rfl rfl rfl ?_
  refine ev_x (i := .dup) (len := 1) (p' := 37) (s' := [.ref 2, .ref 2]) rfl rfl rfl ?_
  refine ev_gi (p' := 40) (v := 2) rfl rfl rfl ly_2 rfl rfl rfl ?_
  refine ev_x (i := .iconst 1) (len := 1) (p' := 41) (s' := [.int 1, .int 2, .ref 2]) rfl rfl rfl ?_
  refine ev_x (i := .iadd) (len := 1) (p' := 42) (s' := [.int 3, .ref 2]) rfl rfl rfl ?_
  refine ev_pi (p' := 45) rfl rfl rfl ly_2 rfl rfl rfl rfl ?_
  refine ev_x (i := .iinc 2 (-8)) (len := 3) (p' := 48) (s' := []) (l' := [(2, .int 0), (0, .ref 2), (1, .int (xs 1))]) rfl rfl rfl ?_
  refine ev_x (i := .goto (-45)) (len := 3) (p' := 3) (s' := []) rfl rfl rfl ?_
  refine ev_x (i := .iload_n 2) (len := 1) (p' := 4) (s' := [.int 0]) rfl rfl rfl ?_
  refine ev_b0 (t := 51) (p' := 7) rfl rfl rfl (by decide) ?_
  refine ev_x (i := .aload_n 0) (len := 1) (p' := 8) (s' := [.ref 2]) rfl rfl rfl ?_
  refine ev_gi (p' := 11) (v := 3) rfl rfl rfl ly_2 rfl rfl rfl ?_
  refine ev_x (i := .aload_n 0) (len := 1) (p' := 12) (s' := [.ref 2, .int 3]) rfl rfl rfl ?_
  refine ev_gc (p' := 15) (v := 3) rfl rfl rfl ly_2 rfl rfl ?_
  refine ev_al (p' := 16) (v := 256) rfl rfl ly_3 (by decide) (by decide) rfl (congrArg Int32.ofNat hn_3) ?_
  refine ev_b2 (t := 45) (p' := 19) rfl rfl rfl (by decide) ?_
  refine ev_x (i := .aload_n 0) (len := 1) (p' := 20) (s' := [.ref 2]) rfl rfl rfl ?_
  refine ev_gc (p' := 23) (v := 3) rfl rfl rfl ly_2 rfl rfl ?_
  refine ev_x (i := .aload_n 0) (len := 1) (p' := 24) (s' := [.ref 2, .ref 3]) rfl rfl rfl ?_
  refine ev_gi (p' := 27) (v := 3) rfl rfl rfl ly_2 rfl rfl rfl ?_
  refine ev_x (i := .iload_n 1) (len := 1) (p' := 28) (s' := [.int (xs 1), .int 3, .ref 3]) rfl rfl rfl ?_
  refine ev_x (i := .iload_n 2) (len := 1) (p' := 29) (s' := [.int 0, .int (xs 1), .int 3, .ref 3]) rfl rfl rfl ?_
  refine ev_x (i := .iushr) (len := 1) (p' := 30) (s' := [.int (((xs 1)).toUInt32 >>> ((0 : Int32).toUInt32 &&& Int32.toUInt32 31)).toInt32, .int 3, .ref 3]) rfl rfl rfl ?_
  refine ev_x (i := .sipush 255) (len := 3) (p' := 33) (s' := [.int 255, .int (((xs 1)).toUInt32 >>> ((0 : Int32).toUInt32 &&& Int32.toUInt32 31)).toInt32, .int 3, .ref 3]) rfl rfl rfl ?_
  refine ev_x (i := .iand) (len := 1) (p' := 34) (s' := [.int ((((xs 1)).toUInt32 >>> ((0 : Int32).toUInt32 &&& Int32.toUInt32 31)).toInt32 &&& 255), .int 3, .ref 3]) rfl rfl rfl ?_
  refine ev_pa (j := 3) (p' := 35) rfl rfl ly_3 rfl (sp_in_of hn_3 rfl) rfl ?_
  refine ev_x (i := .aload_n 0) (len := 1) (p' := 36) (s' := [.ref 2]) rfl rfl rfl ?_
  refine ev_x (i := .dup) (len := 1) (p' := 37) (s' := [.ref 2, .ref 2]) rfl rfl rfl ?_
  refine ev_gi (p' := 40) (v := 3) rfl rfl rfl ly_2 rfl rfl rfl ?_
  refine ev_x (i := .iconst 1) (len := 1) (p' := 41) (s' := [.int 1, .int 3, .ref 2]) rfl rfl rfl ?_
  refine ev_x (i := .iadd) (len := 1) (p' := 42) (s' := [.int 4, .ref 2]) rfl rfl rfl ?_
  refine ev_pi (p' := 45) rfl rfl rfl ly_2 rfl rfl rfl rfl ?_
  refine ev_x (i := .iinc 2 (-8)) (len := 3) (p' := 48) (s' := []) (l' := [(2, .int (-8)), (0, .ref 2), (1, .int (xs 1))]) rfl rfl rfl ?_
  refine ev_x (i := .goto (-45)) (len := 3) (p' := 3) (s' := []) rfl rfl rfl ?_
  refine ev_x (i := .iload_n 2) (len := 1) (p' := 4) (s' := [.int (-8)]) rfl rfl rfl ?_
  refine ev_b0 (t := 51) (p' := 51) rfl rfl rfl (by decide) ?_
  exact ev_vret rfl rfl rfl
set_option maxHeartbeats 4000000 in
set_option maxRecDepth 100000 in
/-- GameText$Words.put(I)V -/
theorem wl0_163 {d : Nat} {σ : st_S} {xs : Nat → Int32} (hi_2_1 : σ.1 2 1 = 4) (hn_3 : (σ.2.2.2.1 3).1 = 256) : vz_ev P0 (d + 1) 14 0 (lv_args 0 [.ref 2, .int (xs 2)]) [] (hp σ) (.inl none, hp (st_i (st_e (st_i (st_e (st_i (st_e (st_i (st_e (σ) 3 4 ((((xs 2)).toUInt32 >>> ((24 : Int32).toUInt32 &&& Int32.toUInt32 31)).toInt32 &&& 255)) 2 1 5) 3 5 ((((xs 2)).toUInt32 >>> ((16 : Int32).toUInt32 &&& Int32.toUInt32 31)).toInt32 &&& 255)) 2 1 6) 3 6 ((((xs 2)).toUInt32 >>> ((8 : Int32).toUInt32 &&& Int32.toUInt32 31)).toInt32 &&& 255)) 2 1 7) 3 7 ((((xs 2)).toUInt32 >>> ((0 : Int32).toUInt32 &&& Int32.toUInt32 31)).toInt32 &&& 255)) 2 1 8)) := by
  refine ev_x (i := .bipush 24) (len := 2) (p' := 2) (s' := [.int 24]) rfl rfl rfl ?_
  refine ev_x (i := .istore_n 2) (len := 1) (p' := 3) (s' := []) (l' := [(2, .int 24), (0, .ref 2), (1, .int (xs 2))]) rfl rfl rfl ?_
  refine ev_x (i := .iload_n 2) (len := 1) (p' := 4) (s' := [.int 24]) rfl rfl rfl ?_
  refine ev_b0 (t := 51) (p' := 7) rfl rfl rfl (by decide) ?_
  refine ev_x (i := .aload_n 0) (len := 1) (p' := 8) (s' := [.ref 2]) rfl rfl rfl ?_
  refine ev_gi (p' := 11) (v := 4) rfl rfl rfl ly_2 rfl rfl hi_2_1 ?_
  refine ev_x (i := .aload_n 0) (len := 1) (p' := 12) (s' := [.ref 2, .int 4]) rfl rfl rfl ?_
  refine ev_gc (p' := 15) (v := 3) rfl rfl rfl ly_2 rfl rfl ?_
  refine ev_al (p' := 16) (v := 256) rfl rfl ly_3 (by decide) (by decide) rfl (congrArg Int32.ofNat hn_3) ?_
  refine ev_b2 (t := 45) (p' := 19) rfl rfl rfl (by decide) ?_
  refine ev_x (i := .aload_n 0) (len := 1) (p' := 20) (s' := [.ref 2]) rfl rfl rfl ?_
  refine ev_gc (p' := 23) (v := 3) rfl rfl rfl ly_2 rfl rfl ?_
  refine ev_x (i := .aload_n 0) (len := 1) (p' := 24) (s' := [.ref 2, .ref 3]) rfl rfl rfl ?_
  refine ev_gi (p' := 27) (v := 4) rfl rfl rfl ly_2 rfl rfl hi_2_1 ?_
  refine ev_x (i := .iload_n 1) (len := 1) (p' := 28) (s' := [.int (xs 2), .int 4, .ref 3]) rfl rfl rfl ?_
  refine ev_x (i := .iload_n 2) (len := 1) (p' := 29) (s' := [.int 24, .int (xs 2), .int 4, .ref 3]) rfl rfl rfl ?_
  refine ev_x (i := .iushr) (len := 1) (p' := 30) (s' := [.int (((xs 2)).toUInt32 >>> ((24 : Int32).toUInt32 &&& Int32.toUInt32 31)).toInt32, .int 4, .ref 3]) rfl rfl rfl ?_
  refine ev_x (i := .sipush 255) (len := 3) (p' := 33) (s' := [.int 255, .int (((xs 2)).toUInt32 >>> ((24 : Int32).toUInt32 &&& Int32.toUInt32 31)).toInt32, .int 4, .ref 3]) rfl rfl rfl ?_
  refine ev_x (i := .iand) (len := 1) (p' := 34) (s' := [.int ((((xs 2)).toUInt32 >>> ((24 : Int32).toUInt32 &&& Int32.toUInt32 31)).toInt32 &&& 255), .int 4, .ref 3]) rfl rfl rfl ?_
  refine ev_pa (j := 4) (p' := 35) rfl rfl ly_3 rfl (sp_in_of hn_3 rfl) rfl ?_
  refine ev_x (i := .aload_n 0) (len := 1) (p' := 36) (s' := [.ref 2]) rfl rfl rfl ?_
  refine ev_x (i := .dup) (len := 1) (p' := 37) (s' := [.ref 2, .ref 2]) rfl rfl rfl ?_
  refine ev_gi (p' := 40) (v := 4) rfl rfl rfl ly_2 rfl rfl hi_2_1 ?_
  refine ev_x (i := .iconst 1) (len := 1) (p' := 41) (s' := [.int 1, .int 4, .ref 2]) rfl rfl rfl ?_
  refine ev_x (i := .iadd) (len := 1) (p' := 42) (s' := [.int 5, .ref 2]) rfl rfl rfl ?_
  refine ev_pi (p' := 45) rfl rfl rfl ly_2 rfl rfl rfl rfl ?_
  refine ev_x (i := .iinc 2 (-8)) (len := 3) (p' := 48) (s' := []) (l' := [(2, .int 16), (0, .ref 2), (1, .int (xs 2))]) rfl rfl rfl ?_
  refine ev_x (i := .goto (-45)) (len := 3) (p' := 3) (s' := []) rfl rfl rfl ?_
  refine ev_x (i := .iload_n 2) (len := 1) (p' := 4) (s' := [.int 16]) rfl rfl rfl ?_
  refine ev_b0 (t := 51) (p' := 7) rfl rfl rfl (by decide) ?_
  refine ev_x (i := .aload_n 0) (len := 1) (p' := 8) (s' := [.ref 2]) rfl rfl rfl ?_
  refine ev_gi (p' := 11) (v := 5) rfl rfl rfl ly_2 rfl rfl rfl ?_
  refine ev_x (i := .aload_n 0) (len := 1) (p' := 12) (s' := [.ref 2, .int 5]) rfl rfl rfl ?_
  refine ev_gc (p' := 15) (v := 3) rfl rfl rfl ly_2 rfl rfl ?_
  refine ev_al (p' := 16) (v := 256) rfl rfl ly_3 (by decide) (by decide) rfl (congrArg Int32.ofNat hn_3) ?_
  refine ev_b2 (t := 45) (p' := 19) rfl rfl rfl (by decide) ?_
  refine ev_x (i := .aload_n 0) (len := 1) (p' := 20) (s' := [.ref 2]) rfl rfl rfl ?_
  refine ev_gc (p' := 23) (v := 3) rfl rfl rfl ly_2 rfl rfl ?_
  refine ev_x (i := .aload_n 0) (len := 1) (p' := 24) (s' := [.ref 2, .ref 3]) rfl rfl rfl ?_
  refine ev_gi (p' := 27) (v := 5) rfl rfl rfl ly_2 rfl rfl rfl ?_
  refine ev_x (i := .iload_n 1) (len := 1) (p' := 28) (s' := [.int (xs 2), .int 5, .ref 3]) rfl rfl rfl ?_
  refine ev_x (i := .iload_n 2) (len := 1) (p' := 29) (s' := [.int 16, .int (xs 2), .int 5, .ref 3]) rfl rfl rfl ?_
  refine ev_x (i := .iushr) (len := 1) (p' := 30) (s' := [.int (((xs 2)).toUInt32 >>> ((16 : Int32).toUInt32 &&& Int32.toUInt32 31)).toInt32, .int 5, .ref 3]) rfl rfl rfl ?_
  refine ev_x (i := .sipush 255) (len := 3) (p' := 33) (s' := [.int 255, .int (((xs 2)).toUInt32 >>> ((16 : Int32).toUInt32 &&& Int32.toUInt32 31)).toInt32, .int 5, .ref 3]) rfl rfl rfl ?_
  refine ev_x (i := .iand) (len := 1) (p' := 34) (s' := [.int ((((xs 2)).toUInt32 >>> ((16 : Int32).toUInt32 &&& Int32.toUInt32 31)).toInt32 &&& 255), .int 5, .ref 3]) rfl rfl rfl ?_
  refine ev_pa (j := 5) (p' := 35) rfl rfl ly_3 rfl (sp_in_of hn_3 rfl) rfl ?_
  refine ev_x (i := .aload_n 0) (len := 1) (p' := 36) (s' := [.ref 2]) rfl rfl rfl ?_
  refine ev_x (i := .dup) (len := 1) (p' := 37) (s' := [.ref 2, .ref 2]) rfl rfl rfl ?_
  refine ev_gi (p' := 40) (v := 5) rfl rfl rfl ly_2 rfl rfl rfl ?_
  refine ev_x (i := .iconst 1) (len := 1) (p' := 41) (s' := [.int 1, .int 5, .ref 2]) rfl rfl rfl ?_
  refine ev_x (i := .iadd) (len := 1) (p' := 42) (s' := [.int 6, .ref 2]) rfl rfl rfl ?_
  refine ev_pi (p' := 45) rfl rfl rfl ly_2 rfl rfl rfl rfl ?_
  refine ev_x (i := .iinc 2 (-8)) (len := 3) (p' := 48) (s' := []) (l' := [(2, .int 8), (0, .ref 2), (1, .int (xs 2))]) rfl rfl rfl ?_
  refine ev_x (i := .goto (-45)) (len := 3) (p' := 3) (s' := []) rfl rfl rfl ?_
  refine ev_x (i := .iload_n 2) (len := 1) (p' := 4) (s' := [.int 8]) rfl rfl rfl ?_
  refine ev_b0 (t := 51) (p' := 7) rfl rfl rfl (by decide) ?_
  refine ev_x (i := .aload_n 0) (len := 1) (p' := 8) (s' := [.ref 2]) rfl rfl rfl ?_
  refine ev_gi (p' := 11) (v := 6) rfl rfl rfl ly_2 rfl rfl rfl ?_
  refine ev_x (i := .aload_n 0) (len := 1) (p' := 12) (s' := [.ref 2, .int 6]) rfl rfl rfl ?_
  refine ev_gc (p' := 15) (v := 3) rfl rfl rfl ly_2 rfl rfl ?_
  refine ev_al (p' := 16) (v := 256) rfl rfl ly_3 (by decide) (by decide) rfl (congrArg Int32.ofNat hn_3) ?_
  refine ev_b2 (t := 45) (p' := 19) rfl rfl rfl (by decide) ?_
  refine ev_x (i := .aload_n 0) (len := 1) (p' := 20) (s' := [.ref 2]) rfl rfl rfl ?_
  refine ev_gc (p' := 23) (v := 3) rfl rfl rfl ly_2 rfl rfl ?_
  refine ev_x (i := .aload_n 0) (len := 1) (p' := 24) (s' := [.ref 2, .ref 3]) rfl rfl rfl ?_
  refine ev_gi (p' := 27) (v := 6) rfl rfl rfl ly_2 rfl rfl rfl ?_
  refine ev_x (i := .iload_n 1) (len := 1) (p' := 28) (s' := [.int (xs 2), .int 6, .ref 3]) rfl rfl rfl ?_
  refine ev_x (i := .iload_n 2) (len := 1) (p' := 29) (s' := [.int 8, .int (xs 2), .int 6, .ref 3]) rfl rfl rfl ?_
  refine ev_x (i := .iushr) (len := 1) (p' := 30) (s' := [.int (((xs 2)).toUInt32 >>> ((8 : Int32).toUInt32 &&& Int32.toUInt32 31)).toInt32, .int 6, .ref 3]) rfl rfl rfl ?_
  refine ev_x (i := .sipush 255) (len := 3) (p' := 33) (s' := [.int 255, .int (((xs 2)).toUInt32 >>> ((8 : Int32).toUInt32 &&& Int32.toUInt32 31)).toInt32, .int 6, .ref 3]) rfl rfl rfl ?_
  refine ev_x (i := .iand) (len := 1) (p' := 34) (s' := [.int ((((xs 2)).toUInt32 >>> ((8 : Int32).toUInt32 &&& Int32.toUInt32 31)).toInt32 &&& 255), .int 6, .ref 3]) rfl rfl rfl ?_
  refine ev_pa (j := 6) (p' := 35) rfl rfl ly_3 rfl (sp_in_of hn_3 rfl) rfl ?_
  refine ev_x (i := .aload_n 0) (len := 1) (p' := 36) (s' := [.ref 2]) rfl rfl rfl ?_
  refine ev_x (i := .dup) (len := 1) (p' := 37) (s' := [.ref 2, .ref 2]) rfl rfl rfl ?_
  refine ev_gi (p' := 40) (v := 6) rfl rfl rfl ly_2 rfl rfl rfl ?_
  refine ev_x (i := .iconst 1) (len := 1) (p' := 41) (s' := [.int 1, .int 6, .ref 2]) rfl rfl rfl ?_
  refine ev_x (i := .iadd) (len := 1) (p' := 42) (s' := [.int 7, .ref 2]) rfl rfl rfl ?_
  refine ev_pi (p' := 45) rfl rfl rfl ly_2 rfl rfl rfl rfl ?_
  refine ev_x (i := .iinc 2 (-8)) (len := 3) (p' := 48) (s' := []) (l' := [(2, .int 0), (0, .ref 2), (1, .int (xs 2))]) rfl rfl rfl ?_
  refine ev_x (i := .goto (-45)) (len := 3) (p' := 3) (s' := []) rfl rfl rfl ?_
  refine ev_x (i := .iload_n 2) (len := 1) (p' := 4) (s' := [.int 0]) rfl rfl rfl ?_
  refine ev_b0 (t := 51) (p' := 7) rfl rfl rfl (by decide) ?_
  refine ev_x (i := .aload_n 0) (len := 1) (p' := 8) (s' := [.ref 2]) rfl rfl rfl ?_
  refine ev_gi (p' := 11) (v := 7) rfl rfl rfl ly_2 rfl rfl rfl ?_
  refine ev_x (i := .aload_n 0) (len := 1) (p' := 12) (s' := [.ref 2, .int 7]) rfl rfl rfl ?_
  refine ev_gc (p' := 15) (v := 3) rfl rfl rfl ly_2 rfl rfl ?_
  refine ev_al (p' := 16) (v := 256) rfl rfl ly_3 (by decide) (by decide) rfl (congrArg Int32.ofNat hn_3) ?_
  refine ev_b2 (t := 45) (p' := 19) rfl rfl rfl (by decide) ?_
  refine ev_x (i := .aload_n 0) (len := 1) (p' := 20) (s' := [.ref 2]) rfl rfl rfl ?_
  refine ev_gc (p' := 23) (v := 3) rfl rfl rfl ly_2 rfl rfl ?_
  refine ev_x (i := .aload_n 0) (len := 1) (p' := 24) (s' := [.ref 2, .ref 3]) rfl rfl rfl ?_
  refine ev_gi (p' := 27) (v := 7) rfl rfl rfl ly_2 rfl rfl rfl ?_
  refine ev_x (i := .iload_n 1) (len := 1) (p' := 28) (s' := [.int (xs 2), .int 7, .ref 3]) rfl rfl rfl ?_
  refine ev_x (i := .iload_n 2) (len := 1) (p' := 29) (s' := [.int 0, .int (xs 2), .int 7, .ref 3]) rfl rfl rfl ?_
  refine ev_x (i := .iushr) (len := 1) (p' := 30) (s' := [.int (((xs 2)).toUInt32 >>> ((0 : Int32).toUInt32 &&& Int32.toUInt32 31)).toInt32, .int 7, .ref 3]) rfl rfl rfl ?_
  refine ev_x (i := .sipush 255) (len := 3) (p' := 33) (s' := [.int 255, .int (((xs 2)).toUInt32 >>> ((0 : Int32).toUInt32 &&& Int32.toUInt32 31)).toInt32, .int 7, .ref 3]) rfl rfl rfl ?_
  refine ev_x (i := .iand) (len := 1) (p' := 34) (s' := [.int ((((xs 2)).toUInt32 >>> ((0 : Int32).toUInt32 &&& Int32.toUInt32 31)).toInt32 &&& 255), .int 7, .ref 3]) rfl rfl rfl ?_
  refine ev_pa (j := 7) (p' := 35) rfl rfl ly_3 rfl (sp_in_of hn_3 rfl) rfl ?_
  refine ev_x (i := .aload_n 0) (len := 1) (p' := 36) (s' := [.ref 2]) rfl rfl rfl ?_
  refine ev_x (i := .dup) (len := 1) (p' := 37) (s' := [.ref 2, .ref 2]) rfl rfl rfl ?_
  refine ev_gi (p' := 40) (v := 7) rfl rfl rfl ly_2 rfl rfl rfl ?_
  refine ev_x (i := .iconst 1) (len := 1) (p' := 41) (s' := [.int 1, .int 7, .ref 2]) rfl rfl rfl ?_
  refine ev_x (i := .iadd) (len := 1) (p' := 42) (s' := [.int 8, .ref 2]) rfl rfl rfl ?_
  refine ev_pi (p' := 45) rfl rfl rfl ly_2 rfl rfl rfl rfl ?_
  refine ev_x (i := .iinc 2 (-8)) (len := 3) (p' := 48) (s' := []) (l' := [(2, .int (-8)), (0, .ref 2), (1, .int (xs 2))]) rfl rfl rfl ?_
  refine ev_x (i := .goto (-45)) (len := 3) (p' := 3) (s' := []) rfl rfl rfl ?_
  refine ev_x (i := .iload_n 2) (len := 1) (p' := 4) (s' := [.int (-8)]) rfl rfl rfl ?_
  refine ev_b0 (t := 51) (p' := 51) rfl rfl rfl (by decide) ?_
  exact ev_vret rfl rfl rfl
set_option maxHeartbeats 4000000 in
set_option maxRecDepth 100000 in
/-- GameText$Words.put(I)V -/
theorem wl0_164 {d : Nat} {σ : st_S} {xs : Nat → Int32} (hi_2_1 : σ.1 2 1 = 8) (hn_3 : (σ.2.2.2.1 3).1 = 256) : vz_ev P0 (d + 1) 14 0 (lv_args 0 [.ref 2, .int (xs 3)]) [] (hp σ) (.inl none, hp (st_i (st_e (st_i (st_e (st_i (st_e (st_i (st_e (σ) 3 8 ((((xs 3)).toUInt32 >>> ((24 : Int32).toUInt32 &&& Int32.toUInt32 31)).toInt32 &&& 255)) 2 1 9) 3 9 ((((xs 3)).toUInt32 >>> ((16 : Int32).toUInt32 &&& Int32.toUInt32 31)).toInt32 &&& 255)) 2 1 10) 3 10 ((((xs 3)).toUInt32 >>> ((8 : Int32).toUInt32 &&& Int32.toUInt32 31)).toInt32 &&& 255)) 2 1 11) 3 11 ((((xs 3)).toUInt32 >>> ((0 : Int32).toUInt32 &&& Int32.toUInt32 31)).toInt32 &&& 255)) 2 1 12)) := by
  refine ev_x (i := .bipush 24) (len := 2) (p' := 2) (s' := [.int 24]) rfl rfl rfl ?_
  refine ev_x (i := .istore_n 2) (len := 1) (p' := 3) (s' := []) (l' := [(2, .int 24), (0, .ref 2), (1, .int (xs 3))]) rfl rfl rfl ?_
  refine ev_x (i := .iload_n 2) (len := 1) (p' := 4) (s' := [.int 24]) rfl rfl rfl ?_
  refine ev_b0 (t := 51) (p' := 7) rfl rfl rfl (by decide) ?_
  refine ev_x (i := .aload_n 0) (len := 1) (p' := 8) (s' := [.ref 2]) rfl rfl rfl ?_
  refine ev_gi (p' := 11) (v := 8) rfl rfl rfl ly_2 rfl rfl hi_2_1 ?_
  refine ev_x (i := .aload_n 0) (len := 1) (p' := 12) (s' := [.ref 2, .int 8]) rfl rfl rfl ?_
  refine ev_gc (p' := 15) (v := 3) rfl rfl rfl ly_2 rfl rfl ?_
  refine ev_al (p' := 16) (v := 256) rfl rfl ly_3 (by decide) (by decide) rfl (congrArg Int32.ofNat hn_3) ?_
  refine ev_b2 (t := 45) (p' := 19) rfl rfl rfl (by decide) ?_
  refine ev_x (i := .aload_n 0) (len := 1) (p' := 20) (s' := [.ref 2]) rfl rfl rfl ?_
  refine ev_gc (p' := 23) (v := 3) rfl rfl rfl ly_2 rfl rfl ?_
  refine ev_x (i := .aload_n 0) (len := 1) (p' := 24) (s' := [.ref 2, .ref 3]) rfl rfl rfl ?_
  refine ev_gi (p' := 27) (v := 8) rfl rfl rfl ly_2 rfl rfl hi_2_1 ?_
  refine ev_x (i := .iload_n 1) (len := 1) (p' := 28) (s' := [.int (xs 3), .int 8, .ref 3]) rfl rfl rfl ?_
  refine ev_x (i := .iload_n 2) (len := 1) (p' := 29) (s' := [.int 24, .int (xs 3), .int 8, .ref 3]) rfl rfl rfl ?_
  refine ev_x (i := .iushr) (len := 1) (p' := 30) (s' := [.int (((xs 3)).toUInt32 >>> ((24 : Int32).toUInt32 &&& Int32.toUInt32 31)).toInt32, .int 8, .ref 3]) rfl rfl rfl ?_
  refine ev_x (i := .sipush 255) (len := 3) (p' := 33) (s' := [.int 255, .int (((xs 3)).toUInt32 >>> ((24 : Int32).toUInt32 &&& Int32.toUInt32 31)).toInt32, .int 8, .ref 3]) rfl rfl rfl ?_
  refine ev_x (i := .iand) (len := 1) (p' := 34) (s' := [.int ((((xs 3)).toUInt32 >>> ((24 : Int32).toUInt32 &&& Int32.toUInt32 31)).toInt32 &&& 255), .int 8, .ref 3]) rfl rfl rfl ?_
  refine ev_pa (j := 8) (p' := 35) rfl rfl ly_3 rfl (sp_in_of hn_3 rfl) rfl ?_
  refine ev_x (i := .aload_n 0) (len := 1) (p' := 36) (s' := [.ref 2]) rfl rfl rfl ?_
  refine ev_x (i := .dup) (len := 1) (p' := 37) (s' := [.ref 2, .ref 2]) rfl rfl rfl ?_
  refine ev_gi (p' := 40) (v := 8) rfl rfl rfl ly_2 rfl rfl hi_2_1 ?_
  refine ev_x (i := .iconst 1) (len := 1) (p' := 41) (s' := [.int 1, .int 8, .ref 2]) rfl rfl rfl ?_
  refine ev_x (i := .iadd) (len := 1) (p' := 42) (s' := [.int 9, .ref 2]) rfl rfl rfl ?_
  refine ev_pi (p' := 45) rfl rfl rfl ly_2 rfl rfl rfl rfl ?_
  refine ev_x (i := .iinc 2 (-8)) (len := 3) (p' := 48) (s' := []) (l' := [(2, .int 16), (0, .ref 2), (1, .int (xs 3))]) rfl rfl rfl ?_
  refine ev_x (i := .goto (-45)) (len := 3) (p' := 3) (s' := []) rfl rfl rfl ?_
  refine ev_x (i := .iload_n 2) (len := 1) (p' := 4) (s' := [.int 16]) rfl rfl rfl ?_
  refine ev_b0 (t := 51) (p' := 7) rfl rfl rfl (by decide) ?_
  refine ev_x (i := .aload_n 0) (len := 1) (p' := 8) (s' := [.ref 2]) rfl rfl rfl ?_
  refine ev_gi (p' := 11) (v := 9) rfl rfl rfl ly_2 rfl rfl rfl ?_
  refine ev_x (i := .aload_n 0) (len := 1) (p' := 12) (s' := [.ref 2, .int 9]) rfl rfl rfl ?_
  refine ev_gc (p' := 15) (v := 3) rfl rfl rfl ly_2 rfl rfl ?_
  refine ev_al (p' := 16) (v := 256) rfl rfl ly_3 (by decide) (by decide) rfl (congrArg Int32.ofNat hn_3) ?_
  refine ev_b2 (t := 45) (p' := 19) rfl rfl rfl (by decide) ?_
  refine ev_x (i := .aload_n 0) (len := 1) (p' := 20) (s' := [.ref 2]) rfl rfl rfl ?_
  refine ev_gc (p' := 23) (v := 3) rfl rfl rfl ly_2 rfl rfl ?_
  refine ev_x (i := .aload_n 0) (len := 1) (p' := 24) (s' := [.ref 2, .ref 3]) rfl rfl rfl ?_
  refine ev_gi (p' := 27) (v := 9) rfl rfl rfl ly_2 rfl rfl rfl ?_
  refine ev_x (i := .iload_n 1) (len := 1) (p' := 28) (s' := [.int (xs 3), .int 9, .ref 3]) rfl rfl rfl ?_
  refine ev_x (i := .iload_n 2) (len := 1) (p' := 29) (s' := [.int 16, .int (xs 3), .int 9, .ref 3]) rfl rfl rfl ?_
  refine ev_x (i := .iushr) (len := 1) (p' := 30) (s' := [.int (((xs 3)).toUInt32 >>> ((16 : Int32).toUInt32 &&& Int32.toUInt32 31)).toInt32, .int 9, .ref 3]) rfl rfl rfl ?_
  refine ev_x (i := .sipush 255) (len := 3) (p' := 33) (s' := [.int 255, .int (((xs 3)).toUInt32 >>> ((16 : Int32).toUInt32 &&& Int32.toUInt32 31)).toInt32, .int 9, .ref 3]) rfl rfl rfl ?_
  refine ev_x (i := .iand) (len := 1) (p' := 34) (s' := [.int ((((xs 3)).toUInt32 >>> ((16 : Int32).toUInt32 &&& Int32.toUInt32 31)).toInt32 &&& 255), .int 9, .ref 3]) rfl rfl rfl ?_
  refine ev_pa (j := 9) (p' := 35) rfl rfl ly_3 rfl (sp_in_of hn_3 rfl) rfl ?_
  refine ev_x (i := .aload_n 0) (len := 1) (p' := 36) (s' := [.ref 2]) rfl rfl rfl ?_
  refine ev_x (i := .dup) (len := 1) (p' := 37) (s' := [.ref 2, .ref 2]) rfl rfl rfl ?_
  refine ev_gi (p' := 40) (v := 9) rfl rfl rfl ly_2 rfl rfl rfl ?_
  refine ev_x (i := .iconst 1) (len := 1) (p' := 41) (s' := [.int 1, .int 9, .ref 2]) rfl rfl rfl ?_
  refine ev_x (i := .iadd) (len := 1) (p' := 42) (s' := [.int 10, .ref 2]) rfl rfl rfl ?_
  refine ev_pi (p' := 45) rfl rfl rfl ly_2 rfl rfl rfl rfl ?_
  refine ev_x (i := .iinc 2 (-8)) (len := 3) (p' := 48) (s' := []) (l' := [(2, .int 8), (0, .ref 2), (1, .int (xs 3))]) rfl rfl rfl ?_
  refine ev_x (i := .goto (-45)) (len := 3) (p' := 3) (s' := []) rfl rfl rfl ?_
  refine ev_x (i := .iload_n 2) (len := 1) (p' := 4) (s' := [.int 8]) rfl rfl rfl ?_
  refine ev_b0 (t := 51) (p' := 7) rfl rfl rfl (by decide) ?_
  refine ev_x (i := .aload_n 0) (len := 1) (p' := 8) (s' := [.ref 2]) rfl rfl rfl ?_
  refine ev_gi (p' := 11) (v := 10) rfl rfl rfl ly_2 rfl rfl rfl ?_
  refine ev_x (i := .aload_n 0) (len := 1) (p' := 12) (s' := [.ref 2, .int 10]) rfl rfl rfl ?_
  refine ev_gc (p' := 15) (v := 3) rfl rfl rfl ly_2 rfl rfl ?_
  refine ev_al (p' := 16) (v := 256) rfl rfl ly_3 (by decide) (by decide) rfl (congrArg Int32.ofNat hn_3) ?_
  refine ev_b2 (t := 45) (p' := 19) rfl rfl rfl (by decide) ?_
  refine ev_x (i := .aload_n 0) (len := 1) (p' := 20) (s' := [.ref 2]) rfl rfl rfl ?_
  refine ev_gc (p' := 23) (v := 3) rfl rfl rfl ly_2 rfl rfl ?_
  refine ev_x (i := .aload_n 0) (len := 1) (p' := 24) (s' := [.ref 2, .ref 3]) rfl rfl rfl ?_
  refine ev_gi (p' := 27) (v := 10) rfl rfl rfl ly_2 rfl rfl rfl ?_
  refine ev_x (i := .iload_n 1) (len := 1) (p' := 28) (s' := [.int (xs 3), .int 10, .ref 3]) rfl rfl rfl ?_
  refine ev_x (i := .iload_n 2) (len := 1) (p' := 29) (s' := [.int 8, .int (xs 3), .int 10, .ref 3]) rfl rfl rfl ?_
  refine ev_x (i := .iushr) (len := 1) (p' := 30) (s' := [.int (((xs 3)).toUInt32 >>> ((8 : Int32).toUInt32 &&& Int32.toUInt32 31)).toInt32, .int 10, .ref 3]) rfl rfl rfl ?_
  refine ev_x (i := .sipush 255) (len := 3) (p' := 33) (s' := [.int 255, .int (((xs 3)).toUInt32 >>> ((8 : Int32).toUInt32 &&& Int32.toUInt32 31)).toInt32, .int 10, .ref 3]) rfl rfl rfl ?_
  refine ev_x (i := .iand) (len := 1) (p' := 34) (s' := [.int ((((xs 3)).toUInt32 >>> ((8 : Int32).toUInt32 &&& Int32.toUInt32 31)).toInt32 &&& 255), .int 10, .ref 3]) rfl rfl rfl ?_
  refine ev_pa (j := 10) (p' := 35) rfl rfl ly_3 rfl (sp_in_of hn_3 rfl) rfl ?_
  refine ev_x (i := .aload_n 0) (len := 1) (p' := 36) (s' := [.ref 2]) rfl rfl rfl ?_
  refine ev_x (i := .dup) (len := 1) (p' := 37) (s' := [.ref 2, .ref 2]) rfl rfl rfl ?_
  refine ev_gi (p' := 40) (v := 10) rfl rfl rfl ly_2 rfl rfl rfl ?_
  refine ev_x (i := .iconst 1) (len := 1) (p' := 41) (s' := [.int 1, .int 10, .ref 2]) rfl rfl rfl ?_
  refine ev_x (i := .iadd) (len := 1) (p' := 42) (s' := [.int 11, .ref 2]) rfl rfl rfl ?_
  refine ev_pi (p' := 45) rfl rfl rfl ly_2 rfl rfl rfl rfl ?_
  refine ev_x (i := .iinc 2 (-8)) (len := 3) (p' := 48) (s' := []) (l' := [(2, .int 0), (0, .ref 2), (1, .int (xs 3))]) rfl rfl rfl ?_
  refine ev_x (i := .goto (-45)) (len := 3) (p' := 3) (s' := []) rfl rfl rfl ?_
  refine ev_x (i := .iload_n 2) (len := 1) (p' := 4) (s' := [.int 0]) rfl rfl rfl ?_
  refine ev_b0 (t := 51) (p' := 7) rfl rfl rfl (by decide) ?_
  refine ev_x (i := .aload_n 0) (len := 1) (p' := 8) (s' := [.ref 2]) rfl rfl rfl ?_
  refine ev_gi (p' := 11) (v := 11) rfl rfl rfl ly_2 rfl rfl rfl ?_
  refine ev_x (i := .aload_n 0) (len := 1) (p' := 12) (s' := [.ref 2, .int 11]) rfl rfl rfl ?_
  refine ev_gc (p' := 15) (v := 3) rfl rfl rfl ly_2 rfl rfl ?_
  refine ev_al (p' := 16) (v := 256) rfl rfl ly_3 (by decide) (by decide) rfl (congrArg Int32.ofNat hn_3) ?_
  refine ev_b2 (t := 45) (p' := 19) rfl rfl rfl (by decide) ?_
  refine ev_x (i := .aload_n 0) (len := 1) (p' := 20) (s' := [.ref 2]) rfl rfl rfl ?_
  refine ev_gc (p' := 23) (v := 3) rfl rfl rfl ly_2 rfl rfl ?_
  refine ev_x (i := .aload_n 0) (len := 1) (p' := 24) (s' := [.ref 2, .ref 3]) rfl rfl rfl ?_
  refine ev_gi (p' := 27) (v := 11) rfl rfl rfl ly_2 rfl rfl rfl ?_
  refine ev_x (i := .iload_n 1) (len := 1) (p' := 28) (s' := [.int (xs 3), .int 11, .ref 3]) rfl rfl rfl ?_
  refine ev_x (i := .iload_n 2) (len := 1) (p' := 29) (s' := [.int 0, .int (xs 3), .int 11, .ref 3]) rfl rfl rfl ?_
  refine ev_x (i := .iushr) (len := 1) (p' := 30) (s' := [.int (((xs 3)).toUInt32 >>> ((0 : Int32).toUInt32 &&& Int32.toUInt32 31)).toInt32, .int 11, .ref 3]) rfl rfl rfl ?_
  refine ev_x (i := .sipush 255) (len := 3) (p' := 33) (s' := [.int 255, .int (((xs 3)).toUInt32 >>> ((0 : Int32).toUInt32 &&& Int32.toUInt32 31)).toInt32, .int 11, .ref 3]) rfl rfl rfl ?_
  refine ev_x (i := .iand) (len := 1) (p' := 34) (s' := [.int ((((xs 3)).toUInt32 >>> ((0 : Int32).toUInt32 &&& Int32.toUInt32 31)).toInt32 &&& 255), .int 11, .ref 3]) rfl rfl rfl ?_
  refine ev_pa (j := 11) (p' := 35) rfl rfl ly_3 rfl (sp_in_of hn_3 rfl) rfl ?_
  refine ev_x (i := .aload_n 0) (len := 1) (p' := 36) (s' := [.ref 2]) rfl rfl rfl ?_
  refine ev_x (i := .dup) (len := 1) (p' := 37) (s' := [.ref 2, .ref 2]) rfl rfl rfl ?_
  refine ev_gi (p' := 40) (v := 11) rfl rfl rfl ly_2 rfl rfl rfl ?_
  refine ev_x (i := .iconst 1) (len := 1) (p' := 41) (s' := [.int 1, .int 11, .ref 2]) rfl rfl rfl ?_
  refine ev_x (i := .iadd) (len := 1) (p' := 42) (s' := [.int 12, .ref 2]) rfl rfl rfl ?_
  refine ev_pi (p' := 45) rfl rfl rfl ly_2 rfl rfl rfl rfl ?_
  refine ev_x (i := .iinc 2 (-8)) (len := 3) (p' := 48) (s' := []) (l' := [(2, .int (-8)), (0, .ref 2), (1, .int (xs 3))]) rfl rfl rfl ?_
  refine ev_x (i := .goto (-45)) (len := 3) (p' := 3) (s' := []) rfl rfl rfl ?_
  refine ev_x (i := .iload_n 2) (len := 1) (p' := 4) (s' := [.int (-8)]) rfl rfl rfl ?_
  refine ev_b0 (t := 51) (p' := 51) rfl rfl rfl (by decide) ?_
  exact ev_vret rfl rfl rfl
set_option maxHeartbeats 4000000 in
set_option maxRecDepth 100000 in
/-- GameText$Words.put(I)V -/
theorem wl0_165 {d : Nat} {σ : st_S} {xs : Nat → Int32} (hi_2_1 : σ.1 2 1 = 12) (hn_3 : (σ.2.2.2.1 3).1 = 256) : vz_ev P0 (d + 1) 14 0 (lv_args 0 [.ref 2, .int (xs 4)]) [] (hp σ) (.inl none, hp (st_i (st_e (st_i (st_e (st_i (st_e (st_i (st_e (σ) 3 12 ((((xs 4)).toUInt32 >>> ((24 : Int32).toUInt32 &&& Int32.toUInt32 31)).toInt32 &&& 255)) 2 1 13) 3 13 ((((xs 4)).toUInt32 >>> ((16 : Int32).toUInt32 &&& Int32.toUInt32 31)).toInt32 &&& 255)) 2 1 14) 3 14 ((((xs 4)).toUInt32 >>> ((8 : Int32).toUInt32 &&& Int32.toUInt32 31)).toInt32 &&& 255)) 2 1 15) 3 15 ((((xs 4)).toUInt32 >>> ((0 : Int32).toUInt32 &&& Int32.toUInt32 31)).toInt32 &&& 255)) 2 1 16)) := by
  refine ev_x (i := .bipush 24) (len := 2) (p' := 2) (s' := [.int 24]) rfl rfl rfl ?_
  refine ev_x (i := .istore_n 2) (len := 1) (p' := 3) (s' := []) (l' := [(2, .int 24), (0, .ref 2), (1, .int (xs 4))]) rfl rfl rfl ?_
  refine ev_x (i := .iload_n 2) (len := 1) (p' := 4) (s' := [.int 24]) rfl rfl rfl ?_
  refine ev_b0 (t := 51) (p' := 7) rfl rfl rfl (by decide) ?_
  refine ev_x (i := .aload_n 0) (len := 1) (p' := 8) (s' := [.ref 2]) rfl rfl rfl ?_
  refine ev_gi (p' := 11) (v := 12) rfl rfl rfl ly_2 rfl rfl hi_2_1 ?_
  refine ev_x (i := .aload_n 0) (len := 1) (p' := 12) (s' := [.ref 2, .int 12]) rfl rfl rfl ?_
  refine ev_gc (p' := 15) (v := 3) rfl rfl rfl ly_2 rfl rfl ?_
  refine ev_al (p' := 16) (v := 256) rfl rfl ly_3 (by decide) (by decide) rfl (congrArg Int32.ofNat hn_3) ?_
  refine ev_b2 (t := 45) (p' := 19) rfl rfl rfl (by decide) ?_
  refine ev_x (i := .aload_n 0) (len := 1) (p' := 20) (s' := [.ref 2]) rfl rfl rfl ?_
  refine ev_gc (p' := 23) (v := 3) rfl rfl rfl ly_2 rfl rfl ?_
  refine ev_x (i := .aload_n 0) (len := 1) (p' := 24) (s' := [.ref 2, .ref 3]) rfl rfl rfl ?_
  refine ev_gi (p' := 27) (v := 12) rfl rfl rfl ly_2 rfl rfl hi_2_1 ?_
  refine ev_x (i := .iload_n 1) (len := 1) (p' := 28) (s' := [.int (xs 4), .int 12, .ref 3]) rfl rfl rfl ?_
  refine ev_x (i := .iload_n 2) (len := 1) (p' := 29) (s' := [.int 24, .int (xs 4), .int 12, .ref 3]) rfl rfl rfl ?_
  refine ev_x (i := .iushr) (len := 1) (p' := 30) (s' := [.int (((xs 4)).toUInt32 >>> ((24 : Int32).toUInt32 &&& Int32.toUInt32 31)).toInt32, .int 12, .ref 3]) rfl rfl rfl ?_
  refine ev_x (i := .sipush 255) (len := 3) (p' := 33) (s' := [.int 255, .int (((xs 4)).toUInt32 >>> ((24 : Int32).toUInt32 &&& Int32.toUInt32 31)).toInt32, .int 12, .ref 3]) rfl rfl rfl ?_
  refine ev_x (i := .iand) (len := 1) (p' := 34) (s' := [.int ((((xs 4)).toUInt32 >>> ((24 : Int32).toUInt32 &&& Int32.toUInt32 31)).toInt32 &&& 255), .int 12, .ref 3]) rfl rfl rfl ?_
  refine ev_pa (j := 12) (p' := 35) rfl rfl ly_3 rfl (sp_in_of hn_3 rfl) rfl ?_
  refine ev_x (i := .aload_n 0) (len := 1) (p' := 36) (s' := [.ref 2]) rfl rfl rfl ?_
  refine ev_x (i := .dup) (len := 1) (p' := 37) (s' := [.ref 2, .ref 2]) rfl rfl rfl ?_
  refine ev_gi (p' := 40) (v := 12) rfl rfl rfl ly_2 rfl rfl hi_2_1 ?_
  refine ev_x (i := .iconst 1) (len := 1) (p' := 41) (s' := [.int 1, .int 12, .ref 2]) rfl rfl rfl ?_
  refine ev_x (i := .iadd) (len := 1) (p' := 42) (s' := [.int 13, .ref 2]) rfl rfl rfl ?_
  refine ev_pi (p' := 45) rfl rfl rfl ly_2 rfl rfl rfl rfl ?_
  refine ev_x (i := .iinc 2 (-8)) (len := 3) (p' := 48) (s' := []) (l' := [(2, .int 16), (0, .ref 2), (1, .int (xs 4))]) rfl rfl rfl ?_
  refine ev_x (i := .goto (-45)) (len := 3) (p' := 3) (s' := []) rfl rfl rfl ?_
  refine ev_x (i := .iload_n 2) (len := 1) (p' := 4) (s' := [.int 16]) rfl rfl rfl ?_
  refine ev_b0 (t := 51) (p' := 7) rfl rfl rfl (by decide) ?_
  refine ev_x (i := .aload_n 0) (len := 1) (p' := 8) (s' := [.ref 2]) rfl rfl rfl ?_
  refine ev_gi (p' := 11) (v := 13) rfl rfl rfl ly_2 rfl rfl rfl ?_
  refine ev_x (i := .aload_n 0) (len := 1) (p' := 12) (s' := [.ref 2, .int 13]) rfl rfl rfl ?_
  refine ev_gc (p' := 15) (v := 3) rfl rfl rfl ly_2 rfl rfl ?_
  refine ev_al (p' := 16) (v := 256) rfl rfl ly_3 (by decide) (by decide) rfl (congrArg Int32.ofNat hn_3) ?_
  refine ev_b2 (t := 45) (p' := 19) rfl rfl rfl (by decide) ?_
  refine ev_x (i := .aload_n 0) (len := 1) (p' := 20) (s' := [.ref 2]) rfl rfl rfl ?_
  refine ev_gc (p' := 23) (v := 3) rfl rfl rfl ly_2 rfl rfl ?_
  refine ev_x (i := .aload_n 0) (len := 1) (p' := 24) (s' := [.ref 2, .ref 3]) rfl rfl rfl ?_
  refine ev_gi (p' := 27) (v := 13) rfl rfl rfl ly_2 rfl rfl rfl ?_
  refine ev_x (i := .iload_n 1) (len := 1) (p' := 28) (s' := [.int (xs 4), .int 13, .ref 3]) rfl rfl rfl ?_
  refine ev_x (i := .iload_n 2) (len := 1) (p' := 29) (s' := [.int 16, .int (xs 4), .int 13, .ref 3]) rfl rfl rfl ?_
  refine ev_x (i := .iushr) (len := 1) (p' := 30) (s' := [.int (((xs 4)).toUInt32 >>> ((16 : Int32).toUInt32 &&& Int32.toUInt32 31)).toInt32, .int 13, .ref 3]) rfl rfl rfl ?_
  refine ev_x (i := .sipush 255) (len := 3) (p' := 33) (s' := [.int 255, .int (((xs 4)).toUInt32 >>> ((16 : Int32).toUInt32 &&& Int32.toUInt32 31)).toInt32, .int 13, .ref 3]) rfl rfl rfl ?_
  refine ev_x (i := .iand) (len := 1) (p' := 34) (s' := [.int ((((xs 4)).toUInt32 >>> ((16 : Int32).toUInt32 &&& Int32.toUInt32 31)).toInt32 &&& 255), .int 13, .ref 3]) rfl rfl rfl ?_
  refine ev_pa (j := 13) (p' := 35) rfl rfl ly_3 rfl (sp_in_of hn_3 rfl) rfl ?_
  refine ev_x (i := .aload_n 0) (len := 1) (p' := 36) (s' := [.ref 2]) rfl rfl rfl ?_
  refine ev_x (i := .dup) (len := 1) (p' := 37) (s' := [.ref 2, .ref 2]) rfl rfl rfl ?_
  refine ev_gi (p' := 40) (v := 13) rfl rfl rfl ly_2 rfl rfl rfl ?_
  refine ev_x (i := .iconst 1) (len := 1) (p' := 41) (s' := [.int 1, .int 13, .ref 2]) rfl rfl rfl ?_
  refine ev_x (i := .iadd) (len := 1) (p' := 42) (s' := [.int 14, .ref 2]) rfl rfl rfl ?_
  refine ev_pi (p' := 45) rfl rfl rfl ly_2 rfl rfl rfl rfl ?_
  refine ev_x (i := .iinc 2 (-8)) (len := 3) (p' := 48) (s' := []) (l' := [(2, .int 8), (0, .ref 2), (1, .int (xs 4))]) rfl rfl rfl ?_
  refine ev_x (i := .goto (-45)) (len := 3) (p' := 3) (s' := []) rfl rfl rfl ?_
  refine ev_x (i := .iload_n 2) (len := 1) (p' := 4) (s' := [.int 8]) rfl rfl rfl ?_
  refine ev_b0 (t := 51) (p' := 7) rfl rfl rfl (by decide) ?_
  refine ev_x (i := .aload_n 0) (len := 1) (p' := 8) (s' := [.ref 2]) rfl rfl rfl ?_
  refine ev_gi (p' := 11) (v := 14) rfl rfl rfl ly_2 rfl rfl rfl ?_
  refine ev_x (i := .aload_n 0) (len := 1) (p' := 12) (s' := [.ref 2, .int 14]) rfl rfl rfl ?_
  refine ev_gc (p' := 15) (v := 3) rfl rfl rfl ly_2 rfl rfl ?_
  refine ev_al (p' := 16) (v := 256) rfl rfl ly_3 (by decide) (by decide) rfl (congrArg Int32.ofNat hn_3) ?_
  refine ev_b2 (t := 45) (p' := 19) rfl rfl rfl (by decide) ?_
  refine ev_x (i := .aload_n 0) (len := 1) (p' := 20) (s' := [.ref 2]) rfl rfl rfl ?_
  refine ev_gc (p' := 23) (v := 3) rfl rfl rfl ly_2 rfl rfl ?_
  refine ev_x (i := .aload_n 0) (len := 1) (p' := 24) (s' := [.ref 2, .ref 3]) rfl rfl rfl ?_
  refine ev_gi (p' := 27) (v := 14) rfl rfl rfl ly_2 rfl rfl rfl ?_
  refine ev_x (i := .iload_n 1) (len := 1) (p' := 28) (s' := [.int (xs 4), .int 14, .ref 3]) rfl rfl rfl ?_
  refine ev_x (i := .iload_n 2) (len := 1) (p' := 29) (s' := [.int 8, .int (xs 4), .int 14, .ref 3]) rfl rfl rfl ?_
  refine ev_x (i := .iushr) (len := 1) (p' := 30) (s' := [.int (((xs 4)).toUInt32 >>> ((8 : Int32).toUInt32 &&& Int32.toUInt32 31)).toInt32, .int 14, .ref 3]) rfl rfl rfl ?_
  refine ev_x (i := .sipush 255) (len := 3) (p' := 33) (s' := [.int 255, .int (((xs 4)).toUInt32 >>> ((8 : Int32).toUInt32 &&& Int32.toUInt32 31)).toInt32, .int 14, .ref 3]) rfl rfl rfl ?_
  refine ev_x (i := .iand) (len := 1) (p' := 34) (s' := [.int ((((xs 4)).toUInt32 >>> ((8 : Int32).toUInt32 &&& Int32.toUInt32 31)).toInt32 &&& 255), .int 14, .ref 3]) rfl rfl rfl ?_
  refine ev_pa (j := 14) (p' := 35) rfl rfl ly_3 rfl (sp_in_of hn_3 rfl) rfl ?_
  refine ev_x (i := .aload_n 0) (len := 1) (p' := 36) (s' := [.ref 2]) rfl rfl rfl ?_
  refine ev_x (i := .dup) (len := 1) (p' := 37) (s' := [.ref 2, .ref 2]) rfl rfl rfl ?_
  refine ev_gi (p' := 40) (v := 14) rfl rfl rfl ly_2 rfl rfl rfl ?_
  refine ev_x (i := .iconst 1) (len := 1) (p' := 41) (s' := [.int 1, .int 14, .ref 2]) rfl rfl rfl ?_
  refine ev_x (i := .iadd) (len := 1) (p' := 42) (s' := [.int 15, .ref 2]) rfl rfl rfl ?_
  refine ev_pi (p' := 45) rfl rfl rfl ly_2 rfl rfl rfl rfl ?_
  refine ev_x (i := .iinc 2 (-8)) (len := 3) (p' := 48) (s' := []) (l' := [(2, .int 0), (0, .ref 2), (1, .int (xs 4))]) rfl rfl rfl ?_
  refine ev_x (i := .goto (-45)) (len := 3) (p' := 3) (s' := []) rfl rfl rfl ?_
  refine ev_x (i := .iload_n 2) (len := 1) (p' := 4) (s' := [.int 0]) rfl rfl rfl ?_
  refine ev_b0 (t := 51) (p' := 7) rfl rfl rfl (by decide) ?_
  refine ev_x (i := .aload_n 0) (len := 1) (p' := 8) (s' := [.ref 2]) rfl rfl rfl ?_
  refine ev_gi (p' := 11) (v := 15) rfl rfl rfl ly_2 rfl rfl rfl ?_
  refine ev_x (i := .aload_n 0) (len := 1) (p' := 12) (s' := [.ref 2, .int 15]) rfl rfl rfl ?_
  refine ev_gc (p' := 15) (v := 3) rfl rfl rfl ly_2 rfl rfl ?_
  refine ev_al (p' := 16) (v := 256) rfl rfl ly_3 (by decide) (by decide) rfl (congrArg Int32.ofNat hn_3) ?_
  refine ev_b2 (t := 45) (p' := 19) rfl rfl rfl (by decide) ?_
  refine ev_x (i := .aload_n 0) (len := 1) (p' := 20) (s' := [.ref 2]) rfl rfl rfl ?_
  refine ev_gc (p' := 23) (v := 3) rfl rfl rfl ly_2 rfl rfl ?_
  refine ev_x (i := .aload_n 0) (len := 1) (p' := 24) (s' := [.ref 2, .ref 3]) rfl rfl rfl ?_
  refine ev_gi (p' := 27) (v := 15) rfl rfl rfl ly_2 rfl rfl rfl ?_
  refine ev_x (i := .iload_n 1) (len := 1) (p' := 28) (s' := [.int (xs 4), .int 15, .ref 3]) rfl rfl rfl ?_
  refine ev_x (i := .iload_n 2) (len := 1) (p' := 29) (s' := [.int 0, .int (xs 4), .int 15, .ref 3]) rfl rfl rfl ?_
  refine ev_x (i := .iushr) (len := 1) (p' := 30) (s' := [.int (((xs 4)).toUInt32 >>> ((0 : Int32).toUInt32 &&& Int32.toUInt32 31)).toInt32, .int 15, .ref 3]) rfl rfl rfl ?_
  refine ev_x (i := .sipush 255) (len := 3) (p' := 33) (s' := [.int 255, .int (((xs 4)).toUInt32 >>> ((0 : Int32).toUInt32 &&& Int32.toUInt32 31)).toInt32, .int 15, .ref 3]) rfl rfl rfl ?_
  refine ev_x (i := .iand) (len := 1) (p' := 34) (s' := [.int ((((xs 4)).toUInt32 >>> ((0 : Int32).toUInt32 &&& Int32.toUInt32 31)).toInt32 &&& 255), .int 15, .ref 3]) rfl rfl rfl ?_
  refine ev_pa (j := 15) (p' := 35) rfl rfl ly_3 rfl (sp_in_of hn_3 rfl) rfl ?_
  refine ev_x (i := .aload_n 0) (len := 1) (p' := 36) (s' := [.ref 2]) rfl rfl rfl ?_
  refine ev_x (i := .dup) (len := 1) (p' := 37) (s' := [.ref 2, .ref 2]) rfl rfl rfl ?_
  refine ev_gi (p' := 40) (v := 15) rfl rfl rfl ly_2 rfl rfl rfl ?_
  refine ev_x (i := .iconst 1) (len := 1) (p' := 41) (s' := [.int 1, .int 15, .ref 2]) rfl rfl rfl ?_
  refine ev_x (i := .iadd) (len := 1) (p' := 42) (s' := [.int 16, .ref 2]) rfl rfl rfl ?_
  refine ev_pi (p' := 45) rfl rfl rfl ly_2 rfl rfl rfl rfl ?_
  refine ev_x (i := .iinc 2 (-8)) (len := 3) (p' := 48) (s' := []) (l' := [(2, .int (-8)), (0, .ref 2), (1, .int (xs 4))]) rfl rfl rfl ?_
  refine ev_x (i := .goto (-45)) (len := 3) (p' := 3) (s' := []) rfl rfl rfl ?_
  refine ev_x (i := .iload_n 2) (len := 1) (p' := 4) (s' := [.int (-8)]) rfl rfl rfl ?_
  refine ev_b0 (t := 51) (p' := 51) rfl rfl rfl (by decide) ?_
  exact ev_vret rfl rfl rfl
set_option maxHeartbeats 4000000 in
set_option maxRecDepth 100000 in
/-- GameText$Words.put(I)V -/
theorem wl0_166 {d : Nat} {σ : st_S} {xs : Nat → Int32} (hi_2_1 : σ.1 2 1 = 16) (hn_3 : (σ.2.2.2.1 3).1 = 256) : vz_ev P0 (d + 1) 14 0 (lv_args 0 [.ref 2, .int (xs 5)]) [] (hp σ) (.inl none, hp (st_i (st_e (st_i (st_e (st_i (st_e (st_i (st_e (σ) 3 16 ((((xs 5)).toUInt32 >>> ((24 : Int32).toUInt32 &&& Int32.toUInt32 31)).toInt32 &&& 255)) 2 1 17) 3 17 ((((xs 5)).toUInt32 >>> ((16 : Int32).toUInt32 &&& Int32.toUInt32 31)).toInt32 &&& 255)) 2 1 18) 3 18 ((((xs 5)).toUInt32 >>> ((8 : Int32).toUInt32 &&& Int32.toUInt32 31)).toInt32 &&& 255)) 2 1 19) 3 19 ((((xs 5)).toUInt32 >>> ((0 : Int32).toUInt32 &&& Int32.toUInt32 31)).toInt32 &&& 255)) 2 1 20)) := by
  refine ev_x (i := .bipush 24) (len := 2) (p' := 2) (s' := [.int 24]) rfl rfl rfl ?_
  refine ev_x (i := .istore_n 2) (len := 1) (p' := 3) (s' := []) (l' := [(2, .int 24), (0, .ref 2), (1, .int (xs 5))]) rfl rfl rfl ?_
  refine ev_x (i := .iload_n 2) (len := 1) (p' := 4) (s' := [.int 24]) rfl rfl rfl ?_
  refine ev_b0 (t := 51) (p' := 7) rfl rfl rfl (by decide) ?_
  refine ev_x (i := .aload_n 0) (len := 1) (p' := 8) (s' := [.ref 2]) rfl rfl rfl ?_
  refine ev_gi (p' := 11) (v := 16) rfl rfl rfl ly_2 rfl rfl hi_2_1 ?_
  refine ev_x (i := .aload_n 0) (len := 1) (p' := 12) (s' := [.ref 2, .int 16]) rfl rfl rfl ?_
  refine ev_gc (p' := 15) (v := 3) rfl rfl rfl ly_2 rfl rfl ?_
  refine ev_al (p' := 16) (v := 256) rfl rfl ly_3 (by decide) (by decide) rfl (congrArg Int32.ofNat hn_3) ?_
  refine ev_b2 (t := 45) (p' := 19) rfl rfl rfl (by decide) ?_
  refine ev_x (i := .aload_n 0) (len := 1) (p' := 20) (s' := [.ref 2]) rfl rfl rfl ?_
  refine ev_gc (p' := 23) (v := 3) rfl rfl rfl ly_2 rfl rfl ?_
  refine ev_x (i := .aload_n 0) (len := 1) (p' := 24) (s' := [.ref 2, .ref 3]) rfl rfl rfl ?_
  refine ev_gi (p' := 27) (v := 16) rfl rfl rfl ly_2 rfl rfl hi_2_1 ?_
  refine ev_x (i := .iload_n 1) (len := 1) (p' := 28) (s' := [.int (xs 5), .int 16, .ref 3]) rfl rfl rfl ?_
  refine ev_x (i := .iload_n 2) (len := 1) (p' := 29) (s' := [.int 24, .int (xs 5), .int 16, .ref 3]) rfl rfl rfl ?_
  refine ev_x (i := .iushr) (len := 1) (p' := 30) (s' := [.int (((xs 5)).toUInt32 >>> ((24 : Int32).toUInt32 &&& Int32.toUInt32 31)).toInt32, .int 16, .ref 3]) rfl rfl rfl ?_
  refine ev_x (i := .sipush 255) (len := 3) (p' := 33) (s' := [.int 255, .int (((xs 5)).toUInt32 >>> ((24 : Int32).toUInt32 &&& Int32.toUInt32 31)).toInt32, .int 16, .ref 3]) rfl rfl rfl ?_
  refine ev_x (i := .iand) (len := 1) (p' := 34) (s' := [.int ((((xs 5)).toUInt32 >>> ((24 : Int32).toUInt32 &&& Int32.toUInt32 31)).toInt32 &&& 255), .int 16, .ref 3]) rfl rfl rfl ?_
  refine ev_pa (j := 16) (p' := 35) rfl rfl ly_3 rfl (sp_in_of hn_3 rfl) rfl ?_
  refine ev_x (i := .aload_n 0) (len := 1) (p' := 36) (s' := [.ref 2]) rfl rfl rfl ?_
  refine ev_x (i := .dup) (len := 1) (p' := 37) (s' := [.ref 2, .ref 2]) rfl rfl rfl ?_
  refine ev_gi (p' := 40) (v := 16) rfl rfl rfl ly_2 rfl rfl hi_2_1 ?_
  refine ev_x (i := .iconst 1) (len := 1) (p' := 41) (s' := [.int 1, .int 16, .ref 2]) rfl rfl rfl ?_
  refine ev_x (i := .iadd) (len := 1) (p' := 42) (s' := [.int 17, .ref 2]) rfl rfl rfl ?_
  refine ev_pi (p' := 45) rfl rfl rfl ly_2 rfl rfl rfl rfl ?_
  refine ev_x (i := .iinc 2 (-8)) (len := 3) (p' := 48) (s' := []) (l' := [(2, .int 16), (0, .ref 2), (1, .int (xs 5))]) rfl rfl rfl ?_
  refine ev_x (i := .goto (-45)) (len := 3) (p' := 3) (s' := []) rfl rfl rfl ?_
  refine ev_x (i := .iload_n 2) (len := 1) (p' := 4) (s' := [.int 16]) rfl rfl rfl ?_
  refine ev_b0 (t := 51) (p' := 7) rfl rfl rfl (by decide) ?_
  refine ev_x (i := .aload_n 0) (len := 1) (p' := 8) (s' := [.ref 2]) rfl rfl rfl ?_
  refine ev_gi (p' := 11) (v := 17) rfl rfl rfl ly_2 rfl rfl rfl ?_
  refine ev_x (i := .aload_n 0) (len := 1) (p' := 12) (s' := [.ref 2, .int 17]) rfl rfl rfl ?_
  refine ev_gc (p' := 15) (v := 3) rfl rfl rfl ly_2 rfl rfl ?_
  refine ev_al (p' := 16) (v := 256) rfl rfl ly_3 (by decide) (by decide) rfl (congrArg Int32.ofNat hn_3) ?_
  refine ev_b2 (t := 45) (p' := 19) rfl rfl rfl (by decide) ?_
  refine ev_x (i := .aload_n 0) (len := 1) (p' := 20) (s' := [.ref 2]) rfl rfl rfl ?_
  refine ev_gc (p' := 23) (v := 3) rfl rfl rfl ly_2 rfl rfl ?_
  refine ev_x (i := .aload_n 0) (len := 1) (p' := 24) (s' := [.ref 2, .ref 3]) rfl rfl rfl ?_
  refine ev_gi (p' := 27) (v := 17) rfl rfl rfl ly_2 rfl rfl rfl ?_
  refine ev_x (i := .iload_n 1) (len := 1) (p' := 28) (s' := [.int (xs 5), .int 17, .ref 3]) rfl rfl rfl ?_
  refine ev_x (i := .iload_n 2) (len := 1) (p' := 29) (s' := [.int 16, .int (xs 5), .int 17, .ref 3]) rfl rfl rfl ?_
  refine ev_x (i := .iushr) (len := 1) (p' := 30) (s' := [.int (((xs 5)).toUInt32 >>> ((16 : Int32).toUInt32 &&& Int32.toUInt32 31)).toInt32, .int 17, .ref 3]) rfl rfl rfl ?_
  refine ev_x (i := .sipush 255) (len := 3) (p' := 33) (s' := [.int 255, .int (((xs 5)).toUInt32 >>> ((16 : Int32).toUInt32 &&& Int32.toUInt32 31)).toInt32, .int 17, .ref 3]) rfl rfl rfl ?_
  refine ev_x (i := .iand) (len := 1) (p' := 34) (s' := [.int ((((xs 5)).toUInt32 >>> ((16 : Int32).toUInt32 &&& Int32.toUInt32 31)).toInt32 &&& 255), .int 17, .ref 3]) rfl rfl rfl ?_
  refine ev_pa (j := 17) (p' := 35) rfl rfl ly_3 rfl (sp_in_of hn_3 rfl) rfl ?_
  refine ev_x (i := .aload_n 0) (len := 1) (p' := 36) (s' := [.ref 2]) rfl rfl rfl ?_
  refine ev_x (i := .dup) (len := 1) (p' := 37) (s' := [.ref 2, .ref 2]) rfl rfl rfl ?_
  refine ev_gi (p' := 40) (v := 17) rfl rfl rfl ly_2 rfl rfl rfl ?_
  refine ev_x (i := .iconst 1) (len := 1) (p' := 41) (s' := [.int 1, .int 17, .ref 2]) rfl rfl rfl ?_
  refine ev_x (i := .iadd) (len := 1) (p' := 42) (s' := [.int 18, .ref 2]) rfl rfl rfl ?_
  refine ev_pi (p' := 45) rfl rfl rfl ly_2 rfl rfl rfl rfl ?_
  refine ev_x (i := .iinc 2 (-8)) (len := 3) (p' := 48) (s' := []) (l' := [(2, .int 8), (0, .ref 2), (1, .int (xs 5))]) rfl rfl rfl ?_
  refine ev_x (i := .goto (-45)) (len := 3) (p' := 3) (s' := []) rfl rfl rfl ?_
  refine ev_x (i := .iload_n 2) (len := 1) (p' := 4) (s' := [.int 8]) rfl rfl rfl ?_
  refine ev_b0 (t := 51) (p' := 7) rfl rfl rfl (by decide) ?_
  refine ev_x (i := .aload_n 0) (len := 1) (p' := 8) (s' := [.ref 2]) rfl rfl rfl ?_
  refine ev_gi (p' := 11) (v := 18) rfl rfl rfl ly_2 rfl rfl rfl ?_
  refine ev_x (i := .aload_n 0) (len := 1) (p' := 12) (s' := [.ref 2, .int 18]) rfl rfl rfl ?_
  refine ev_gc (p' := 15) (v := 3) rfl rfl rfl ly_2 rfl rfl ?_
  refine ev_al (p' := 16) (v := 256) rfl rfl ly_3 (by decide) (by decide) rfl (congrArg Int32.ofNat hn_3) ?_
  refine ev_b2 (t := 45) (p' := 19) rfl rfl rfl (by decide) ?_
  refine ev_x (i := .aload_n 0) (len := 1) (p' := 20) (s' := [.ref 2]) rfl rfl rfl ?_
  refine ev_gc (p' := 23) (v := 3) rfl rfl rfl ly_2 rfl rfl ?_
  refine ev_x (i := .aload_n 0) (len := 1) (p' := 24) (s' := [.ref 2, .ref 3]) rfl rfl rfl ?_
  refine ev_gi (p' := 27) (v := 18) rfl rfl rfl ly_2 rfl rfl rfl ?_
  refine ev_x (i := .iload_n 1) (len := 1) (p' := 28) (s' := [.int (xs 5), .int 18, .ref 3]) rfl rfl rfl ?_
  refine ev_x (i := .iload_n 2) (len := 1) (p' := 29) (s' := [.int 8, .int (xs 5), .int 18, .ref 3]) rfl rfl rfl ?_
  refine ev_x (i := .iushr) (len := 1) (p' := 30) (s' := [.int (((xs 5)).toUInt32 >>> ((8 : Int32).toUInt32 &&& Int32.toUInt32 31)).toInt32, .int 18, .ref 3]) rfl rfl rfl ?_
  refine ev_x (i := .sipush 255) (len := 3) (p' := 33) (s' := [.int 255, .int (((xs 5)).toUInt32 >>> ((8 : Int32).toUInt32 &&& Int32.toUInt32 31)).toInt32, .int 18, .ref 3]) rfl rfl rfl ?_
  refine ev_x (i := .iand) (len := 1) (p' := 34) (s' := [.int ((((xs 5)).toUInt32 >>> ((8 : Int32).toUInt32 &&& Int32.toUInt32 31)).toInt32 &&& 255), .int 18, .ref 3]) rfl rfl rfl ?_
  refine ev_pa (j := 18) (p' := 35) rfl rfl ly_3 rfl (sp_in_of hn_3 rfl) rfl ?_
  refine ev_x (i := .aload_n 0) (len := 1) (p' := 36) (s' := [.ref 2]) rfl rfl rfl ?_
  refine ev_x (i := .dup) (len := 1) (p' := 37) (s' := [.ref 2, .ref 2]) rfl rfl rfl ?_
  refine ev_gi (p' := 40) (v := 18) rfl rfl rfl ly_2 rfl rfl rfl ?_
  refine ev_x (i := .iconst 1) (len := 1) (p' := 41) (s' := [.int 1, .int 18, .ref 2]) rfl rfl rfl ?_
  refine ev_x (i := .iadd) (len := 1) (p' := 42) (s' := [.int 19, .ref 2]) rfl rfl rfl ?_
  refine ev_pi (p' := 45) rfl rfl rfl ly_2 rfl rfl rfl rfl ?_
  refine ev_x (i := .iinc 2 (-8)) (len := 3) (p' := 48) (s' := []) (l' := [(2, .int 0), (0, .ref 2), (1, .int (xs 5))]) rfl rfl rfl ?_
  refine ev_x (i := .goto (-45)) (len := 3) (p' := 3) (s' := []) rfl rfl rfl ?_
  refine ev_x (i := .iload_n 2) (len := 1) (p' := 4) (s' := [.int 0]) rfl rfl rfl ?_
  refine ev_b0 (t := 51) (p' := 7) rfl rfl rfl (by decide) ?_
  refine ev_x (i := .aload_n 0) (len := 1) (p' := 8) (s' := [.ref 2]) rfl rfl rfl ?_
  refine ev_gi (p' := 11) (v := 19) rfl rfl rfl ly_2 rfl rfl rfl ?_
  refine ev_x (i := .aload_n 0) (len := 1) (p' := 12) (s' := [.ref 2, .int 19]) rfl rfl rfl ?_
  refine ev_gc (p' := 15) (v := 3) rfl rfl rfl ly_2 rfl rfl ?_
  refine ev_al (p' := 16) (v := 256) rfl rfl ly_3 (by decide) (by decide) rfl (congrArg Int32.ofNat hn_3) ?_
  refine ev_b2 (t := 45) (p' := 19) rfl rfl rfl (by decide) ?_
  refine ev_x (i := .aload_n 0) (len := 1) (p' := 20) (s' := [.ref 2]) rfl rfl rfl ?_
  refine ev_gc (p' := 23) (v := 3) rfl rfl rfl ly_2 rfl rfl ?_
  refine ev_x (i := .aload_n 0) (len := 1) (p' := 24) (s' := [.ref 2, .ref 3]) rfl rfl rfl ?_
  refine ev_gi (p' := 27) (v := 19) rfl rfl rfl ly_2 rfl rfl rfl ?_
  refine ev_x (i := .iload_n 1) (len := 1) (p' := 28) (s' := [.int (xs 5), .int 19, .ref 3]) rfl rfl rfl ?_
  refine ev_x (i := .iload_n 2) (len := 1) (p' := 29) (s' := [.int 0, .int (xs 5), .int 19, .ref 3]) rfl rfl rfl ?_
  refine ev_x (i := .iushr) (len := 1) (p' := 30) (s' := [.int (((xs 5)).toUInt32 >>> ((0 : Int32).toUInt32 &&& Int32.toUInt32 31)).toInt32, .int 19, .ref 3]) rfl rfl rfl ?_
  refine ev_x (i := .sipush 255) (len := 3) (p' := 33) (s' := [.int 255, .int (((xs 5)).toUInt32 >>> ((0 : Int32).toUInt32 &&& Int32.toUInt32 31)).toInt32, .int 19, .ref 3]) rfl rfl rfl ?_
  refine ev_x (i := .iand) (len := 1) (p' := 34) (s' := [.int ((((xs 5)).toUInt32 >>> ((0 : Int32).toUInt32 &&& Int32.toUInt32 31)).toInt32 &&& 255), .int 19, .ref 3]) rfl rfl rfl ?_
  refine ev_pa (j := 19) (p' := 35) rfl rfl ly_3 rfl (sp_in_of hn_3 rfl) rfl ?_
  refine ev_x (i := .aload_n 0) (len := 1) (p' := 36) (s' := [.ref 2]) rfl rfl rfl ?_
  refine ev_x (i := .dup) (len := 1) (p' := 37) (s' := [.ref 2, .ref 2]) rfl rfl rfl ?_
  refine ev_gi (p' := 40) (v := 19) rfl rfl rfl ly_2 rfl rfl rfl ?_
  refine ev_x (i := .iconst 1) (len := 1) (p' := 41) (s' := [.int 1, .int 19, .ref 2]) rfl rfl rfl ?_
  refine ev_x (i := .iadd) (len := 1) (p' := 42) (s' := [.int 20, .ref 2]) rfl rfl rfl ?_
  refine ev_pi (p' := 45) rfl rfl rfl ly_2 rfl rfl rfl rfl ?_
  refine ev_x (i := .iinc 2 (-8)) (len := 3) (p' := 48) (s' := []) (l' := [(2, .int (-8)), (0, .ref 2), (1, .int (xs 5))]) rfl rfl rfl ?_
  refine ev_x (i := .goto (-45)) (len := 3) (p' := 3) (s' := []) rfl rfl rfl ?_
  refine ev_x (i := .iload_n 2) (len := 1) (p' := 4) (s' := [.int (-8)]) rfl rfl rfl ?_
  refine ev_b0 (t := 51) (p' := 51) rfl rfl rfl (by decide) ?_
  exact ev_vret rfl rfl rfl
set_option maxHeartbeats 4000000 in
set_option maxRecDepth 100000 in
/-- GameText.feed(IIIII)I -/
theorem wl0_167 {d : Nat} {σ : st_S} {xs : Nat → Int32} (hi_2_1 : σ.1 2 1 = 0) (hn_3 : (σ.2.2.2.1 3).1 = 256) : vz_ev P0 (d + 2) 11 0 (lv_args 0 [.ref 1, .int (xs 1), .int (xs 2), .int (xs 3), .int (xs 4), .int (xs 5)]) [] (hp σ) (.inl (some (.int 20)), hp (st_i (st_e (st_i (st_e (st_i (st_e (st_i (st_e ((st_i (st_e (st_i (st_e (st_i (st_e (st_i (st_e ((st_i (st_e (st_i (st_e (st_i (st_e (st_i (st_e ((st_i (st_e (st_i (st_e (st_i (st_e (st_i (st_e ((st_i (st_e (st_i (st_e (st_i (st_e (st_i (st_e (((σ))) 3 0 ((((xs 1)).toUInt32 >>> ((24 : Int32).toUInt32 &&& Int32.toUInt32 31)).toInt32 &&& 255)) 2 1 1) 3 1 ((((xs 1)).toUInt32 >>> ((16 : Int32).toUInt32 &&& Int32.toUInt32 31)).toInt32 &&& 255)) 2 1 2) 3 2 ((((xs 1)).toUInt32 >>> ((8 : Int32).toUInt32 &&& Int32.toUInt32 31)).toInt32 &&& 255)) 2 1 3) 3 3 ((((xs 1)).toUInt32 >>> ((0 : Int32).toUInt32 &&& Int32.toUInt32 31)).toInt32 &&& 255)) 2 1 4)) 3 4 ((((xs 2)).toUInt32 >>> ((24 : Int32).toUInt32 &&& Int32.toUInt32 31)).toInt32 &&& 255)) 2 1 5) 3 5 ((((xs 2)).toUInt32 >>> ((16 : Int32).toUInt32 &&& Int32.toUInt32 31)).toInt32 &&& 255)) 2 1 6) 3 6 ((((xs 2)).toUInt32 >>> ((8 : Int32).toUInt32 &&& Int32.toUInt32 31)).toInt32 &&& 255)) 2 1 7) 3 7 ((((xs 2)).toUInt32 >>> ((0 : Int32).toUInt32 &&& Int32.toUInt32 31)).toInt32 &&& 255)) 2 1 8)) 3 8 ((((xs 3)).toUInt32 >>> ((24 : Int32).toUInt32 &&& Int32.toUInt32 31)).toInt32 &&& 255)) 2 1 9) 3 9 ((((xs 3)).toUInt32 >>> ((16 : Int32).toUInt32 &&& Int32.toUInt32 31)).toInt32 &&& 255)) 2 1 10) 3 10 ((((xs 3)).toUInt32 >>> ((8 : Int32).toUInt32 &&& Int32.toUInt32 31)).toInt32 &&& 255)) 2 1 11) 3 11 ((((xs 3)).toUInt32 >>> ((0 : Int32).toUInt32 &&& Int32.toUInt32 31)).toInt32 &&& 255)) 2 1 12)) 3 12 ((((xs 4)).toUInt32 >>> ((24 : Int32).toUInt32 &&& Int32.toUInt32 31)).toInt32 &&& 255)) 2 1 13) 3 13 ((((xs 4)).toUInt32 >>> ((16 : Int32).toUInt32 &&& Int32.toUInt32 31)).toInt32 &&& 255)) 2 1 14) 3 14 ((((xs 4)).toUInt32 >>> ((8 : Int32).toUInt32 &&& Int32.toUInt32 31)).toInt32 &&& 255)) 2 1 15) 3 15 ((((xs 4)).toUInt32 >>> ((0 : Int32).toUInt32 &&& Int32.toUInt32 31)).toInt32 &&& 255)) 2 1 16)) 3 16 ((((xs 5)).toUInt32 >>> ((24 : Int32).toUInt32 &&& Int32.toUInt32 31)).toInt32 &&& 255)) 2 1 17) 3 17 ((((xs 5)).toUInt32 >>> ((16 : Int32).toUInt32 &&& Int32.toUInt32 31)).toInt32 &&& 255)) 2 1 18) 3 18 ((((xs 5)).toUInt32 >>> ((8 : Int32).toUInt32 &&& Int32.toUInt32 31)).toInt32 &&& 255)) 2 1 19) 3 19 ((((xs 5)).toUInt32 >>> ((0 : Int32).toUInt32 &&& Int32.toUInt32 31)).toInt32 &&& 255)) 2 1 20)) := by
  refine ev_x (i := .aload_n 0) (len := 1) (p' := 1) (s' := [.ref 1]) rfl rfl rfl ?_
  refine ev_gc (p' := 4) (v := 2) rfl rfl rfl ly_1 rfl rfl ?_
  refine ev_gi (p' := 7) (v := 0) rfl rfl rfl ly_2 rfl rfl hi_2_1 ?_
  refine ev_x (i := .bipush 20) (len := 2) (p' := 9) (s' := [.int 20, .int 0]) rfl rfl rfl ?_
  refine ev_x (i := .iadd) (len := 1) (p' := 10) (s' := [.int 20]) rfl rfl rfl ?_
  refine ev_x (i := .sipush 16384) (len := 3) (p' := 13) (s' := [.int 16384, .int 20]) rfl rfl rfl ?_
  refine ev_b2 (t := 18) (p' := 18) rfl rfl rfl (by decide) ?_
  refine ev_x (i := .aload_n 0) (len := 1) (p' := 19) (s' := [.ref 1]) rfl rfl rfl ?_
  refine ev_gc (p' := 22) (v := 2) rfl rfl rfl ly_1 rfl rfl ?_
  refine ev_cv (d := d + 1) (As := []) (a := 2) (p' := 25) rfl rfl rfl ly_2 rfl rfl rfl rfl rfl rfl rfl (wl0_161 (d := d + 0) (hi_2_1 := hi_2_1) (hn_3 := hn_3)) ?_
  refine ev_st (st' := []) rfl ?_
  refine ev_x (i := .aload_n 0) (len := 1) (p' := 26) (s' := [.ref 1]) rfl rfl rfl ?_
  refine ev_gc (p' := 29) (v := 2) rfl rfl rfl ly_1 rfl rfl ?_
  refine ev_x (i := .iload_n 1) (len := 1) (p' := 30) (s' := [.int (xs 1), .ref 2]) rfl rfl rfl ?_
  refine ev_cv (d := d + 1) (As := [.int (xs 1)]) (a := 2) (p' := 33) rfl rfl rfl ly_2 rfl rfl rfl rfl rfl rfl rfl (wl0_162 (d := d + 0) (hi_2_1 := hi_2_1) (hn_3 := hn_3)) ?_
  refine ev_st (st' := []) rfl ?_
  refine ev_x (i := .aload_n 0) (len := 1) (p' := 34) (s' := [.ref 1]) rfl rfl rfl ?_
  refine ev_gc (p' := 37) (v := 2) rfl rfl rfl ly_1 rfl rfl ?_
  refine ev_x (i := .iload_n 2) (len := 1) (p' := 38) (s' := [.int (xs 2), .ref 2]) rfl rfl rfl ?_
  refine ev_cv (d := d + 1) (As := [.int (xs 2)]) (a := 2) (p' := 41) rfl rfl rfl ly_2 rfl rfl rfl rfl rfl rfl rfl (wl0_163 (d := d + 0) (hi_2_1 := rfl) (hn_3 := hn_3)) ?_
  refine ev_st (st' := []) rfl ?_
  refine ev_x (i := .aload_n 0) (len := 1) (p' := 42) (s' := [.ref 1]) rfl rfl rfl ?_
  refine ev_gc (p' := 45) (v := 2) rfl rfl rfl ly_1 rfl rfl ?_
  refine ev_x (i := .iload_n 3) (len := 1) (p' := 46) (s' := [.int (xs 3), .ref 2]) rfl rfl rfl ?_
  refine ev_cv (d := d + 1) (As := [.int (xs 3)]) (a := 2) (p' := 49) rfl rfl rfl ly_2 rfl rfl rfl rfl rfl rfl rfl (wl0_164 (d := d + 0) (hi_2_1 := rfl) (hn_3 := hn_3)) ?_
  refine ev_st (st' := []) rfl ?_
  refine ev_x (i := .aload_n 0) (len := 1) (p' := 50) (s' := [.ref 1]) rfl rfl rfl ?_
  refine ev_gc (p' := 53) (v := 2) rfl rfl rfl ly_1 rfl rfl ?_
  refine ev_x (i := .iload 4) (len := 2) (p' := 55) (s' := [.int (xs 4), .ref 2]) rfl rfl rfl ?_
  refine ev_cv (d := d + 1) (As := [.int (xs 4)]) (a := 2) (p' := 58) rfl rfl rfl ly_2 rfl rfl rfl rfl rfl rfl rfl (wl0_165 (d := d + 0) (hi_2_1 := rfl) (hn_3 := hn_3)) ?_
  refine ev_st (st' := []) rfl ?_
  refine ev_x (i := .aload_n 0) (len := 1) (p' := 59) (s' := [.ref 1]) rfl rfl rfl ?_
  refine ev_gc (p' := 62) (v := 2) rfl rfl rfl ly_1 rfl rfl ?_
  refine ev_x (i := .iload 5) (len := 2) (p' := 64) (s' := [.int (xs 5), .ref 2]) rfl rfl rfl ?_
  refine ev_cv (d := d + 1) (As := [.int (xs 5)]) (a := 2) (p' := 67) rfl rfl rfl ly_2 rfl rfl rfl rfl rfl rfl rfl (wl0_166 (d := d + 0) (hi_2_1 := rfl) (hn_3 := hn_3)) ?_
  refine ev_st (st' := []) rfl ?_
  refine ev_x (i := .aload_n 0) (len := 1) (p' := 68) (s' := [.ref 1]) rfl rfl rfl ?_
  refine ev_gc (p' := 71) (v := 2) rfl rfl rfl ly_1 rfl rfl ?_
  refine ev_gi (p' := 74) (v := 20) rfl rfl rfl ly_2 rfl rfl rfl ?_
  exact ev_iret rfl rfl rfl rfl
set_option maxHeartbeats 4000000 in
set_option maxRecDepth 100000 in
/-- GameTextModel.add4(I)V -/
theorem wl0_168 {d : Nat} {σ : st_S} {xs : Nat → Int32} (hr_66_1 : σ.2.2.1 66 1 = 67) (hi_67_1 : σ.1 67 1 = 0) (hn_68 : (σ.2.2.2.1 68).1 = 16) : vz_ev P0 (d + 2) 132 0 (lv_args 0 [.ref 66, .int (xs 1)]) [] (hp σ) (.inl none, hp (st_i (st_e (st_i (st_e (st_i (st_e (st_i (st_e (σ) 68 0 (((xs 1) >>> ((24 : Int32) &&& 31)) &&& 255)) 67 1 (nI (0 + 1))) 68 1 (((xs 1) >>> ((16 : Int32) &&& 31)) &&& 255)) 67 1 (nI (1 + 1))) 68 2 (((xs 1) >>> ((8 : Int32) &&& 31)) &&& 255)) 67 1 (nI (2 + 1))) 68 3 (((xs 1) >>> ((0 : Int32) &&& 31)) &&& 255)) 67 1 (nI (3 + 1)))) := by
  refine ev_x (i := .bipush 24) (len := 2) (p' := 2) (s' := [.int 24]) rfl rfl rfl ?_
  refine ev_x (i := .istore_n 2) (len := 1) (p' := 3) (s' := []) (l' := [(2, .int 24), (0, .ref 66), (1, .int (xs 1))]) rfl rfl rfl ?_
  refine ev_x (i := .iload_n 2) (len := 1) (p' := 4) (s' := [.int 24]) rfl rfl rfl ?_
  refine ev_b0 (t := 27) (p' := 7) rfl rfl rfl (by decide) ?_
  refine ev_x (i := .aload_n 0) (len := 1) (p' := 8) (s' := [.ref 66]) rfl rfl rfl ?_
  refine ev_gr (p' := 11) (v := 67) rfl rfl rfl ly_66 rfl rfl hr_66_1 ?_
  refine ev_x (i := .iload_n 1) (len := 1) (p' := 12) (s' := [.int (xs 1), .ref 67]) rfl rfl rfl ?_
  refine ev_x (i := .iload_n 2) (len := 1) (p' := 13) (s' := [.int 24, .int (xs 1), .ref 67]) rfl rfl rfl ?_
  refine ev_x (i := .ishr) (len := 1) (p' := 14) (s' := [.int ((xs 1) >>> ((24 : Int32) &&& 31)), .ref 67]) rfl rfl rfl ?_
  refine ev_x (i := .sipush 255) (len := 3) (p' := 17) (s' := [.int 255, .int ((xs 1) >>> ((24 : Int32) &&& 31)), .ref 67]) rfl rfl rfl ?_
  refine ev_x (i := .iand) (len := 1) (p' := 18) (s' := [.int (((xs 1) >>> ((24 : Int32) &&& 31)) &&& 255), .ref 67]) rfl rfl rfl ?_
  refine ev_cv (d := d + 1) (As := [.int (((xs 1) >>> ((24 : Int32) &&& 31)) &&& 255)]) (a := 67) (p' := 21) rfl rfl rfl ly_67 rfl rfl rfl rfl rfl rfl rfl (add_n_67 (n := 0) (m := 16) (v := (((xs 1) >>> ((24 : Int32) &&& 31)) &&& 255)) (hm := by decide) (h := by decide) (d := d + 0) (hi_67_1 := hi_67_1) (hn_68 := hn_68)) ?_
  refine ev_st (st' := []) rfl ?_
  refine ev_x (i := .iinc 2 (-8)) (len := 3) (p' := 24) (s' := []) (l' := [(2, .int 16), (0, .ref 66), (1, .int (xs 1))]) rfl rfl rfl ?_
  refine ev_x (i := .goto (-21)) (len := 3) (p' := 3) (s' := []) rfl rfl rfl ?_
  refine ev_x (i := .iload_n 2) (len := 1) (p' := 4) (s' := [.int 16]) rfl rfl rfl ?_
  refine ev_b0 (t := 27) (p' := 7) rfl rfl rfl (by decide) ?_
  refine ev_x (i := .aload_n 0) (len := 1) (p' := 8) (s' := [.ref 66]) rfl rfl rfl ?_
  refine ev_gr (p' := 11) (v := 67) rfl rfl rfl ly_66 rfl rfl hr_66_1 ?_
  refine ev_x (i := .iload_n 1) (len := 1) (p' := 12) (s' := [.int (xs 1), .ref 67]) rfl rfl rfl ?_
  refine ev_x (i := .iload_n 2) (len := 1) (p' := 13) (s' := [.int 16, .int (xs 1), .ref 67]) rfl rfl rfl ?_
  refine ev_x (i := .ishr) (len := 1) (p' := 14) (s' := [.int ((xs 1) >>> ((16 : Int32) &&& 31)), .ref 67]) rfl rfl rfl ?_
  refine ev_x (i := .sipush 255) (len := 3) (p' := 17) (s' := [.int 255, .int ((xs 1) >>> ((16 : Int32) &&& 31)), .ref 67]) rfl rfl rfl ?_
  refine ev_x (i := .iand) (len := 1) (p' := 18) (s' := [.int (((xs 1) >>> ((16 : Int32) &&& 31)) &&& 255), .ref 67]) rfl rfl rfl ?_
  refine ev_cv (d := d + 1) (As := [.int (((xs 1) >>> ((16 : Int32) &&& 31)) &&& 255)]) (a := 67) (p' := 21) rfl rfl rfl ly_67 rfl rfl rfl rfl rfl rfl rfl (add_n_67 (n := 1) (m := 16) (v := (((xs 1) >>> ((16 : Int32) &&& 31)) &&& 255)) (hm := by decide) (h := by decide) (d := d + 0) (hi_67_1 := rfl) (hn_68 := hn_68)) ?_
  refine ev_st (st' := []) rfl ?_
  refine ev_x (i := .iinc 2 (-8)) (len := 3) (p' := 24) (s' := []) (l' := [(2, .int 8), (0, .ref 66), (1, .int (xs 1))]) rfl rfl rfl ?_
  refine ev_x (i := .goto (-21)) (len := 3) (p' := 3) (s' := []) rfl rfl rfl ?_
  refine ev_x (i := .iload_n 2) (len := 1) (p' := 4) (s' := [.int 8]) rfl rfl rfl ?_
  refine ev_b0 (t := 27) (p' := 7) rfl rfl rfl (by decide) ?_
  refine ev_x (i := .aload_n 0) (len := 1) (p' := 8) (s' := [.ref 66]) rfl rfl rfl ?_
  refine ev_gr (p' := 11) (v := 67) rfl rfl rfl ly_66 rfl rfl hr_66_1 ?_
  refine ev_x (i := .iload_n 1) (len := 1) (p' := 12) (s' := [.int (xs 1), .ref 67]) rfl rfl rfl ?_
  refine ev_x (i := .iload_n 2) (len := 1) (p' := 13) (s' := [.int 8, .int (xs 1), .ref 67]) rfl rfl rfl ?_
  refine ev_x (i := .ishr) (len := 1) (p' := 14) (s' := [.int ((xs 1) >>> ((8 : Int32) &&& 31)), .ref 67]) rfl rfl rfl ?_
  refine ev_x (i := .sipush 255) (len := 3) (p' := 17) (s' := [.int 255, .int ((xs 1) >>> ((8 : Int32) &&& 31)), .ref 67]) rfl rfl rfl ?_
  refine ev_x (i := .iand) (len := 1) (p' := 18) (s' := [.int (((xs 1) >>> ((8 : Int32) &&& 31)) &&& 255), .ref 67]) rfl rfl rfl ?_
  refine ev_cv (d := d + 1) (As := [.int (((xs 1) >>> ((8 : Int32) &&& 31)) &&& 255)]) (a := 67) (p' := 21) rfl rfl rfl ly_67 rfl rfl rfl rfl rfl rfl rfl (add_n_67 (n := 2) (m := 16) (v := (((xs 1) >>> ((8 : Int32) &&& 31)) &&& 255)) (hm := by decide) (h := by decide) (d := d + 0) (hi_67_1 := rfl) (hn_68 := hn_68)) ?_
  refine ev_st (st' := []) rfl ?_
  refine ev_x (i := .iinc 2 (-8)) (len := 3) (p' := 24) (s' := []) (l' := [(2, .int 0), (0, .ref 66), (1, .int (xs 1))]) rfl rfl rfl ?_
  refine ev_x (i := .goto (-21)) (len := 3) (p' := 3) (s' := []) rfl rfl rfl ?_
  refine ev_x (i := .iload_n 2) (len := 1) (p' := 4) (s' := [.int 0]) rfl rfl rfl ?_
  refine ev_b0 (t := 27) (p' := 7) rfl rfl rfl (by decide) ?_
  refine ev_x (i := .aload_n 0) (len := 1) (p' := 8) (s' := [.ref 66]) rfl rfl rfl ?_
  refine ev_gr (p' := 11) (v := 67) rfl rfl rfl ly_66 rfl rfl hr_66_1 ?_
  refine ev_x (i := .iload_n 1) (len := 1) (p' := 12) (s' := [.int (xs 1), .ref 67]) rfl rfl rfl ?_
  refine ev_x (i := .iload_n 2) (len := 1) (p' := 13) (s' := [.int 0, .int (xs 1), .ref 67]) rfl rfl rfl ?_
  refine ev_x (i := .ishr) (len := 1) (p' := 14) (s' := [.int ((xs 1) >>> ((0 : Int32) &&& 31)), .ref 67]) rfl rfl rfl ?_
  refine ev_x (i := .sipush 255) (len := 3) (p' := 17) (s' := [.int 255, .int ((xs 1) >>> ((0 : Int32) &&& 31)), .ref 67]) rfl rfl rfl ?_
  refine ev_x (i := .iand) (len := 1) (p' := 18) (s' := [.int (((xs 1) >>> ((0 : Int32) &&& 31)) &&& 255), .ref 67]) rfl rfl rfl ?_
  refine ev_cv (d := d + 1) (As := [.int (((xs 1) >>> ((0 : Int32) &&& 31)) &&& 255)]) (a := 67) (p' := 21) rfl rfl rfl ly_67 rfl rfl rfl rfl rfl rfl rfl (add_n_67 (n := 3) (m := 16) (v := (((xs 1) >>> ((0 : Int32) &&& 31)) &&& 255)) (hm := by decide) (h := by decide) (d := d + 0) (hi_67_1 := rfl) (hn_68 := hn_68)) ?_
  refine ev_st (st' := []) rfl ?_
  refine ev_x (i := .iinc 2 (-8)) (len := 3) (p' := 24) (s' := []) (l' := [(2, .int (-8)), (0, .ref 66), (1, .int (xs 1))]) rfl rfl rfl ?_
  refine ev_x (i := .goto (-21)) (len := 3) (p' := 3) (s' := []) rfl rfl rfl ?_
  refine ev_x (i := .iload_n 2) (len := 1) (p' := 4) (s' := [.int (-8)]) rfl rfl rfl ?_
  refine ev_b0 (t := 27) (p' := 27) rfl rfl rfl (by decide) ?_
  exact ev_vret rfl rfl rfl
set_option maxHeartbeats 4000000 in
set_option maxRecDepth 100000 in
/-- GameTextModel.add4(I)V -/
theorem wl0_169 {d : Nat} {σ : st_S} {xs : Nat → Int32} (hr_66_1 : σ.2.2.1 66 1 = 67) (hi_67_1 : σ.1 67 1 = 4) (hn_68 : (σ.2.2.2.1 68).1 = 16) : vz_ev P0 (d + 2) 132 0 (lv_args 0 [.ref 66, .int (xs 2)]) [] (hp σ) (.inl none, hp (st_i (st_e (st_i (st_e (st_i (st_e (st_i (st_e (σ) 68 4 (((xs 2) >>> ((24 : Int32) &&& 31)) &&& 255)) 67 1 (nI (4 + 1))) 68 5 (((xs 2) >>> ((16 : Int32) &&& 31)) &&& 255)) 67 1 (nI (5 + 1))) 68 6 (((xs 2) >>> ((8 : Int32) &&& 31)) &&& 255)) 67 1 (nI (6 + 1))) 68 7 (((xs 2) >>> ((0 : Int32) &&& 31)) &&& 255)) 67 1 (nI (7 + 1)))) := by
  refine ev_x (i := .bipush 24) (len := 2) (p' := 2) (s' := [.int 24]) rfl rfl rfl ?_
  refine ev_x (i := .istore_n 2) (len := 1) (p' := 3) (s' := []) (l' := [(2, .int 24), (0, .ref 66), (1, .int (xs 2))]) rfl rfl rfl ?_
  refine ev_x (i := .iload_n 2) (len := 1) (p' := 4) (s' := [.int 24]) rfl rfl rfl ?_
  refine ev_b0 (t := 27) (p' := 7) rfl rfl rfl (by decide) ?_
  refine ev_x (i := .aload_n 0) (len := 1) (p' := 8) (s' := [.ref 66]) rfl rfl rfl ?_
  refine ev_gr (p' := 11) (v := 67) rfl rfl rfl ly_66 rfl rfl hr_66_1 ?_
  refine ev_x (i := .iload_n 1) (len := 1) (p' := 12) (s' := [.int (xs 2), .ref 67]) rfl rfl rfl ?_
  refine ev_x (i := .iload_n 2) (len := 1) (p' := 13) (s' := [.int 24, .int (xs 2), .ref 67]) rfl rfl rfl ?_
  refine ev_x (i := .ishr) (len := 1) (p' := 14) (s' := [.int ((xs 2) >>> ((24 : Int32) &&& 31)), .ref 67]) rfl rfl rfl ?_
  refine ev_x (i := .sipush 255) (len := 3) (p' := 17) (s' := [.int 255, .int ((xs 2) >>> ((24 : Int32) &&& 31)), .ref 67]) rfl rfl rfl ?_
  refine ev_x (i := .iand) (len := 1) (p' := 18) (s' := [.int (((xs 2) >>> ((24 : Int32) &&& 31)) &&& 255), .ref 67]) rfl rfl rfl ?_
  refine ev_cv (d := d + 1) (As := [.int (((xs 2) >>> ((24 : Int32) &&& 31)) &&& 255)]) (a := 67) (p' := 21) rfl rfl rfl ly_67 rfl rfl rfl rfl rfl rfl rfl (add_n_67 (n := 4) (m := 16) (v := (((xs 2) >>> ((24 : Int32) &&& 31)) &&& 255)) (hm := by decide) (h := by decide) (d := d + 0) (hi_67_1 := hi_67_1) (hn_68 := hn_68)) ?_
  refine ev_st (st' := []) rfl ?_
  refine ev_x (i := .iinc 2 (-8)) (len := 3) (p' := 24) (s' := []) (l' := [(2, .int 16), (0, .ref 66), (1, .int (xs 2))]) rfl rfl rfl ?_
  refine ev_x (i := .goto (-21)) (len := 3) (p' := 3) (s' := []) rfl rfl rfl ?_
  refine ev_x (i := .iload_n 2) (len := 1) (p' := 4) (s' := [.int 16]) rfl rfl rfl ?_
  refine ev_b0 (t := 27) (p' := 7) rfl rfl rfl (by decide) ?_
  refine ev_x (i := .aload_n 0) (len := 1) (p' := 8) (s' := [.ref 66]) rfl rfl rfl ?_
  refine ev_gr (p' := 11) (v := 67) rfl rfl rfl ly_66 rfl rfl hr_66_1 ?_
  refine ev_x (i := .iload_n 1) (len := 1) (p' := 12) (s' := [.int (xs 2), .ref 67]) rfl rfl rfl ?_
  refine ev_x (i := .iload_n 2) (len := 1) (p' := 13) (s' := [.int 16, .int (xs 2), .ref 67]) rfl rfl rfl ?_
  refine ev_x (i := .ishr) (len := 1) (p' := 14) (s' := [.int ((xs 2) >>> ((16 : Int32) &&& 31)), .ref 67]) rfl rfl rfl ?_
  refine ev_x (i := .sipush 255) (len := 3) (p' := 17) (s' := [.int 255, .int ((xs 2) >>> ((16 : Int32) &&& 31)), .ref 67]) rfl rfl rfl ?_
  refine ev_x (i := .iand) (len := 1) (p' := 18) (s' := [.int (((xs 2) >>> ((16 : Int32) &&& 31)) &&& 255), .ref 67]) rfl rfl rfl ?_
  refine ev_cv (d := d + 1) (As := [.int (((xs 2) >>> ((16 : Int32) &&& 31)) &&& 255)]) (a := 67) (p' := 21) rfl rfl rfl ly_67 rfl rfl rfl rfl rfl rfl rfl (add_n_67 (n := 5) (m := 16) (v := (((xs 2) >>> ((16 : Int32) &&& 31)) &&& 255)) (hm := by decide) (h := by decide) (d := d + 0) (hi_67_1 := rfl) (hn_68 := hn_68)) ?_
  refine ev_st (st' := []) rfl ?_
  refine ev_x (i := .iinc 2 (-8)) (len := 3) (p' := 24) (s' := []) (l' := [(2, .int 8), (0, .ref 66), (1, .int (xs 2))]) rfl rfl rfl ?_
  refine ev_x (i := .goto (-21)) (len := 3) (p' := 3) (s' := []) rfl rfl rfl ?_
  refine ev_x (i := .iload_n 2) (len := 1) (p' := 4) (s' := [.int 8]) rfl rfl rfl ?_
  refine ev_b0 (t := 27) (p' := 7) rfl rfl rfl (by decide) ?_
  refine ev_x (i := .aload_n 0) (len := 1) (p' := 8) (s' := [.ref 66]) rfl rfl rfl ?_
  refine ev_gr (p' := 11) (v := 67) rfl rfl rfl ly_66 rfl rfl hr_66_1 ?_
  refine ev_x (i := .iload_n 1) (len := 1) (p' := 12) (s' := [.int (xs 2), .ref 67]) rfl rfl rfl ?_
  refine ev_x (i := .iload_n 2) (len := 1) (p' := 13) (s' := [.int 8, .int (xs 2), .ref 67]) rfl rfl rfl ?_
  refine ev_x (i := .ishr) (len := 1) (p' := 14) (s' := [.int ((xs 2) >>> ((8 : Int32) &&& 31)), .ref 67]) rfl rfl rfl ?_
  refine ev_x (i := .sipush 255) (len := 3) (p' := 17) (s' := [.int 255, .int ((xs 2) >>> ((8 : Int32) &&& 31)), .ref 67]) rfl rfl rfl ?_
  refine ev_x (i := .iand) (len := 1) (p' := 18) (s' := [.int (((xs 2) >>> ((8 : Int32) &&& 31)) &&& 255), .ref 67]) rfl rfl rfl ?_
  refine ev_cv (d := d + 1) (As := [.int (((xs 2) >>> ((8 : Int32) &&& 31)) &&& 255)]) (a := 67) (p' := 21) rfl rfl rfl ly_67 rfl rfl rfl rfl rfl rfl rfl (add_n_67 (n := 6) (m := 16) (v := (((xs 2) >>> ((8 : Int32) &&& 31)) &&& 255)) (hm := by decide) (h := by decide) (d := d + 0) (hi_67_1 := rfl) (hn_68 := hn_68)) ?_
  refine ev_st (st' := []) rfl ?_
  refine ev_x (i := .iinc 2 (-8)) (len := 3) (p' := 24) (s' := []) (l' := [(2, .int 0), (0, .ref 66), (1, .int (xs 2))]) rfl rfl rfl ?_
  refine ev_x (i := .goto (-21)) (len := 3) (p' := 3) (s' := []) rfl rfl rfl ?_
  refine ev_x (i := .iload_n 2) (len := 1) (p' := 4) (s' := [.int 0]) rfl rfl rfl ?_
  refine ev_b0 (t := 27) (p' := 7) rfl rfl rfl (by decide) ?_
  refine ev_x (i := .aload_n 0) (len := 1) (p' := 8) (s' := [.ref 66]) rfl rfl rfl ?_
  refine ev_gr (p' := 11) (v := 67) rfl rfl rfl ly_66 rfl rfl hr_66_1 ?_
  refine ev_x (i := .iload_n 1) (len := 1) (p' := 12) (s' := [.int (xs 2), .ref 67]) rfl rfl rfl ?_
  refine ev_x (i := .iload_n 2) (len := 1) (p' := 13) (s' := [.int 0, .int (xs 2), .ref 67]) rfl rfl rfl ?_
  refine ev_x (i := .ishr) (len := 1) (p' := 14) (s' := [.int ((xs 2) >>> ((0 : Int32) &&& 31)), .ref 67]) rfl rfl rfl ?_
  refine ev_x (i := .sipush 255) (len := 3) (p' := 17) (s' := [.int 255, .int ((xs 2) >>> ((0 : Int32) &&& 31)), .ref 67]) rfl rfl rfl ?_
  refine ev_x (i := .iand) (len := 1) (p' := 18) (s' := [.int (((xs 2) >>> ((0 : Int32) &&& 31)) &&& 255), .ref 67]) rfl rfl rfl ?_
  refine ev_cv (d := d + 1) (As := [.int (((xs 2) >>> ((0 : Int32) &&& 31)) &&& 255)]) (a := 67) (p' := 21) rfl rfl rfl ly_67 rfl rfl rfl rfl rfl rfl rfl (add_n_67 (n := 7) (m := 16) (v := (((xs 2) >>> ((0 : Int32) &&& 31)) &&& 255)) (hm := by decide) (h := by decide) (d := d + 0) (hi_67_1 := rfl) (hn_68 := hn_68)) ?_
  refine ev_st (st' := []) rfl ?_
  refine ev_x (i := .iinc 2 (-8)) (len := 3) (p' := 24) (s' := []) (l' := [(2, .int (-8)), (0, .ref 66), (1, .int (xs 2))]) rfl rfl rfl ?_
  refine ev_x (i := .goto (-21)) (len := 3) (p' := 3) (s' := []) rfl rfl rfl ?_
  refine ev_x (i := .iload_n 2) (len := 1) (p' := 4) (s' := [.int (-8)]) rfl rfl rfl ?_
  refine ev_b0 (t := 27) (p' := 27) rfl rfl rfl (by decide) ?_
  exact ev_vret rfl rfl rfl
set_option maxHeartbeats 4000000 in
set_option maxRecDepth 100000 in
/-- GameTextModel.add4(I)V -/
theorem wl0_170 {d : Nat} {σ : st_S} {xs : Nat → Int32} (hr_66_1 : σ.2.2.1 66 1 = 67) (hi_67_1 : σ.1 67 1 = 8) (hn_68 : (σ.2.2.2.1 68).1 = 16) : vz_ev P0 (d + 2) 132 0 (lv_args 0 [.ref 66, .int (xs 3)]) [] (hp σ) (.inl none, hp (st_i (st_e (st_i (st_e (st_i (st_e (st_i (st_e (σ) 68 8 (((xs 3) >>> ((24 : Int32) &&& 31)) &&& 255)) 67 1 (nI (8 + 1))) 68 9 (((xs 3) >>> ((16 : Int32) &&& 31)) &&& 255)) 67 1 (nI (9 + 1))) 68 10 (((xs 3) >>> ((8 : Int32) &&& 31)) &&& 255)) 67 1 (nI (10 + 1))) 68 11 (((xs 3) >>> ((0 : Int32) &&& 31)) &&& 255)) 67 1 (nI (11 + 1)))) := by
  refine ev_x (i := .bipush 24) (len := 2) (p' := 2) (s' := [.int 24]) rfl rfl rfl ?_
  refine ev_x (i := .istore_n 2) (len := 1) (p' := 3) (s' := []) (l' := [(2, .int 24), (0, .ref 66), (1, .int (xs 3))]) rfl rfl rfl ?_
  refine ev_x (i := .iload_n 2) (len := 1) (p' := 4) (s' := [.int 24]) rfl rfl rfl ?_
  refine ev_b0 (t := 27) (p' := 7) rfl rfl rfl (by decide) ?_
  refine ev_x (i := .aload_n 0) (len := 1) (p' := 8) (s' := [.ref 66]) rfl rfl rfl ?_
  refine ev_gr (p' := 11) (v := 67) rfl rfl rfl ly_66 rfl rfl hr_66_1 ?_
  refine ev_x (i := .iload_n 1) (len := 1) (p' := 12) (s' := [.int (xs 3), .ref 67]) rfl rfl rfl ?_
  refine ev_x (i := .iload_n 2) (len := 1) (p' := 13) (s' := [.int 24, .int (xs 3), .ref 67]) rfl rfl rfl ?_
  refine ev_x (i := .ishr) (len := 1) (p' := 14) (s' := [.int ((xs 3) >>> ((24 : Int32) &&& 31)), .ref 67]) rfl rfl rfl ?_
  refine ev_x (i := .sipush 255) (len := 3) (p' := 17) (s' := [.int 255, .int ((xs 3) >>> ((24 : Int32) &&& 31)), .ref 67]) rfl rfl rfl ?_
  refine ev_x (i := .iand) (len := 1) (p' := 18) (s' := [.int (((xs 3) >>> ((24 : Int32) &&& 31)) &&& 255), .ref 67]) rfl rfl rfl ?_
  refine ev_cv (d := d + 1) (As := [.int (((xs 3) >>> ((24 : Int32) &&& 31)) &&& 255)]) (a := 67) (p' := 21) rfl rfl rfl ly_67 rfl rfl rfl rfl rfl rfl rfl (add_n_67 (n := 8) (m := 16) (v := (((xs 3) >>> ((24 : Int32) &&& 31)) &&& 255)) (hm := by decide) (h := by decide) (d := d + 0) (hi_67_1 := hi_67_1) (hn_68 := hn_68)) ?_
  refine ev_st (st' := []) rfl ?_
  refine ev_x (i := .iinc 2 (-8)) (len := 3) (p' := 24) (s' := []) (l' := [(2, .int 16), (0, .ref 66), (1, .int (xs 3))]) rfl rfl rfl ?_
  refine ev_x (i := .goto (-21)) (len := 3) (p' := 3) (s' := []) rfl rfl rfl ?_
  refine ev_x (i := .iload_n 2) (len := 1) (p' := 4) (s' := [.int 16]) rfl rfl rfl ?_
  refine ev_b0 (t := 27) (p' := 7) rfl rfl rfl (by decide) ?_
  refine ev_x (i := .aload_n 0) (len := 1) (p' := 8) (s' := [.ref 66]) rfl rfl rfl ?_
  refine ev_gr (p' := 11) (v := 67) rfl rfl rfl ly_66 rfl rfl hr_66_1 ?_
  refine ev_x (i := .iload_n 1) (len := 1) (p' := 12) (s' := [.int (xs 3), .ref 67]) rfl rfl rfl ?_
  refine ev_x (i := .iload_n 2) (len := 1) (p' := 13) (s' := [.int 16, .int (xs 3), .ref 67]) rfl rfl rfl ?_
  refine ev_x (i := .ishr) (len := 1) (p' := 14) (s' := [.int ((xs 3) >>> ((16 : Int32) &&& 31)), .ref 67]) rfl rfl rfl ?_
  refine ev_x (i := .sipush 255) (len := 3) (p' := 17) (s' := [.int 255, .int ((xs 3) >>> ((16 : Int32) &&& 31)), .ref 67]) rfl rfl rfl ?_
  refine ev_x (i := .iand) (len := 1) (p' := 18) (s' := [.int (((xs 3) >>> ((16 : Int32) &&& 31)) &&& 255), .ref 67]) rfl rfl rfl ?_
  refine ev_cv (d := d + 1) (As := [.int (((xs 3) >>> ((16 : Int32) &&& 31)) &&& 255)]) (a := 67) (p' := 21) rfl rfl rfl ly_67 rfl rfl rfl rfl rfl rfl rfl (add_n_67 (n := 9) (m := 16) (v := (((xs 3) >>> ((16 : Int32) &&& 31)) &&& 255)) (hm := by decide) (h := by decide) (d := d + 0) (hi_67_1 := rfl) (hn_68 := hn_68)) ?_
  refine ev_st (st' := []) rfl ?_
  refine ev_x (i := .iinc 2 (-8)) (len := 3) (p' := 24) (s' := []) (l' := [(2, .int 8), (0, .ref 66), (1, .int (xs 3))]) rfl rfl rfl ?_
  refine ev_x (i := .goto (-21)) (len := 3) (p' := 3) (s' := []) rfl rfl rfl ?_
  refine ev_x (i := .iload_n 2) (len := 1) (p' := 4) (s' := [.int 8]) rfl rfl rfl ?_
  refine ev_b0 (t := 27) (p' := 7) rfl rfl rfl (by decide) ?_
  refine ev_x (i := .aload_n 0) (len := 1) (p' := 8) (s' := [.ref 66]) rfl rfl rfl ?_
  refine ev_gr (p' := 11) (v := 67) rfl rfl rfl ly_66 rfl rfl hr_66_1 ?_
  refine ev_x (i := .iload_n 1) (len := 1) (p' := 12) (s' := [.int (xs 3), .ref 67]) rfl rfl rfl ?_
  refine ev_x (i := .iload_n 2) (len := 1) (p' := 13) (s' := [.int 8, .int (xs 3), .ref 67]) rfl rfl rfl ?_
  refine ev_x (i := .ishr) (len := 1) (p' := 14) (s' := [.int ((xs 3) >>> ((8 : Int32) &&& 31)), .ref 67]) rfl rfl rfl ?_
  refine ev_x (i := .sipush 255) (len := 3) (p' := 17) (s' := [.int 255, .int ((xs 3) >>> ((8 : Int32) &&& 31)), .ref 67]) rfl rfl rfl ?_
  refine ev_x (i := .iand) (len := 1) (p' := 18) (s' := [.int (((xs 3) >>> ((8 : Int32) &&& 31)) &&& 255), .ref 67]) rfl rfl rfl ?_
  refine ev_cv (d := d + 1) (As := [.int (((xs 3) >>> ((8 : Int32) &&& 31)) &&& 255)]) (a := 67) (p' := 21) rfl rfl rfl ly_67 rfl rfl rfl rfl rfl rfl rfl (add_n_67 (n := 10) (m := 16) (v := (((xs 3) >>> ((8 : Int32) &&& 31)) &&& 255)) (hm := by decide) (h := by decide) (d := d + 0) (hi_67_1 := rfl) (hn_68 := hn_68)) ?_
  refine ev_st (st' := []) rfl ?_
  refine ev_x (i := .iinc 2 (-8)) (len := 3) (p' := 24) (s' := []) (l' := [(2, .int 0), (0, .ref 66), (1, .int (xs 3))]) rfl rfl rfl ?_
  refine ev_x (i := .goto (-21)) (len := 3) (p' := 3) (s' := []) rfl rfl rfl ?_
  refine ev_x (i := .iload_n 2) (len := 1) (p' := 4) (s' := [.int 0]) rfl rfl rfl ?_
  refine ev_b0 (t := 27) (p' := 7) rfl rfl rfl (by decide) ?_
  refine ev_x (i := .aload_n 0) (len := 1) (p' := 8) (s' := [.ref 66]) rfl rfl rfl ?_
  refine ev_gr (p' := 11) (v := 67) rfl rfl rfl ly_66 rfl rfl hr_66_1 ?_
  refine ev_x (i := .iload_n 1) (len := 1) (p' := 12) (s' := [.int (xs 3), .ref 67]) rfl rfl rfl ?_
  refine ev_x (i := .iload_n 2) (len := 1) (p' := 13) (s' := [.int 0, .int (xs 3), .ref 67]) rfl rfl rfl ?_
  refine ev_x (i := .ishr) (len := 1) (p' := 14) (s' := [.int ((xs 3) >>> ((0 : Int32) &&& 31)), .ref 67]) rfl rfl rfl ?_
  refine ev_x (i := .sipush 255) (len := 3) (p' := 17) (s' := [.int 255, .int ((xs 3) >>> ((0 : Int32) &&& 31)), .ref 67]) rfl rfl rfl ?_
  refine ev_x (i := .iand) (len := 1) (p' := 18) (s' := [.int (((xs 3) >>> ((0 : Int32) &&& 31)) &&& 255), .ref 67]) rfl rfl rfl ?_
  refine ev_cv (d := d + 1) (As := [.int (((xs 3) >>> ((0 : Int32) &&& 31)) &&& 255)]) (a := 67) (p' := 21) rfl rfl rfl ly_67 rfl rfl rfl rfl rfl rfl rfl (add_n_67 (n := 11) (m := 16) (v := (((xs 3) >>> ((0 : Int32) &&& 31)) &&& 255)) (hm := by decide) (h := by decide) (d := d + 0) (hi_67_1 := rfl) (hn_68 := hn_68)) ?_
  refine ev_st (st' := []) rfl ?_
  refine ev_x (i := .iinc 2 (-8)) (len := 3) (p' := 24) (s' := []) (l' := [(2, .int (-8)), (0, .ref 66), (1, .int (xs 3))]) rfl rfl rfl ?_
  refine ev_x (i := .goto (-21)) (len := 3) (p' := 3) (s' := []) rfl rfl rfl ?_
  refine ev_x (i := .iload_n 2) (len := 1) (p' := 4) (s' := [.int (-8)]) rfl rfl rfl ?_
  refine ev_b0 (t := 27) (p' := 27) rfl rfl rfl (by decide) ?_
  exact ev_vret rfl rfl rfl
set_option maxHeartbeats 4000000 in
set_option maxRecDepth 100000 in
/-- GameTextModel.add4(I)V -/
theorem wl0_171 {d : Nat} {σ : st_S} {xs : Nat → Int32} (hr_66_1 : σ.2.2.1 66 1 = 67) (hi_67_1 : σ.1 67 1 = 12) (hn_68 : (σ.2.2.2.1 68).1 = 16) : vz_ev P0 (d + 2) 132 0 (lv_args 0 [.ref 66, .int (xs 4)]) [] (hp σ) (.inl none, hp (st_i (st_e (st_i (st_e (st_i (st_e (st_i (st_e (σ) 68 12 (((xs 4) >>> ((24 : Int32) &&& 31)) &&& 255)) 67 1 (nI (12 + 1))) 68 13 (((xs 4) >>> ((16 : Int32) &&& 31)) &&& 255)) 67 1 (nI (13 + 1))) 68 14 (((xs 4) >>> ((8 : Int32) &&& 31)) &&& 255)) 67 1 (nI (14 + 1))) 68 15 (((xs 4) >>> ((0 : Int32) &&& 31)) &&& 255)) 67 1 (nI (15 + 1)))) := by
  refine ev_x (i := .bipush 24) (len := 2) (p' := 2) (s' := [.int 24]) rfl rfl rfl ?_
  refine ev_x (i := .istore_n 2) (len := 1) (p' := 3) (s' := []) (l' := [(2, .int 24), (0, .ref 66), (1, .int (xs 4))]) rfl rfl rfl ?_
  refine ev_x (i := .iload_n 2) (len := 1) (p' := 4) (s' := [.int 24]) rfl rfl rfl ?_
  refine ev_b0 (t := 27) (p' := 7) rfl rfl rfl (by decide) ?_
  refine ev_x (i := .aload_n 0) (len := 1) (p' := 8) (s' := [.ref 66]) rfl rfl rfl ?_
  refine ev_gr (p' := 11) (v := 67) rfl rfl rfl ly_66 rfl rfl hr_66_1 ?_
  refine ev_x (i := .iload_n 1) (len := 1) (p' := 12) (s' := [.int (xs 4), .ref 67]) rfl rfl rfl ?_
  refine ev_x (i := .iload_n 2) (len := 1) (p' := 13) (s' := [.int 24, .int (xs 4), .ref 67]) rfl rfl rfl ?_
  refine ev_x (i := .ishr) (len := 1) (p' := 14) (s' := [.int ((xs 4) >>> ((24 : Int32) &&& 31)), .ref 67]) rfl rfl rfl ?_
  refine ev_x (i := .sipush 255) (len := 3) (p' := 17) (s' := [.int 255, .int ((xs 4) >>> ((24 : Int32) &&& 31)), .ref 67]) rfl rfl rfl ?_
  refine ev_x (i := .iand) (len := 1) (p' := 18) (s' := [.int (((xs 4) >>> ((24 : Int32) &&& 31)) &&& 255), .ref 67]) rfl rfl rfl ?_
  refine ev_cv (d := d + 1) (As := [.int (((xs 4) >>> ((24 : Int32) &&& 31)) &&& 255)]) (a := 67) (p' := 21) rfl rfl rfl ly_67 rfl rfl rfl rfl rfl rfl rfl (add_n_67 (n := 12) (m := 16) (v := (((xs 4) >>> ((24 : Int32) &&& 31)) &&& 255)) (hm := by decide) (h := by decide) (d := d + 0) (hi_67_1 := hi_67_1) (hn_68 := hn_68)) ?_
  refine ev_st (st' := []) rfl ?_
  refine ev_x (i := .iinc 2 (-8)) (len := 3) (p' := 24) (s' := []) (l' := [(2, .int 16), (0, .ref 66), (1, .int (xs 4))]) rfl rfl rfl ?_
  refine ev_x (i := .goto (-21)) (len := 3) (p' := 3) (s' := []) rfl rfl rfl ?_
  refine ev_x (i := .iload_n 2) (len := 1) (p' := 4) (s' := [.int 16]) rfl rfl rfl ?_
  refine ev_b0 (t := 27) (p' := 7) rfl rfl rfl (by decide) ?_
  refine ev_x (i := .aload_n 0) (len := 1) (p' := 8) (s' := [.ref 66]) rfl rfl rfl ?_
  refine ev_gr (p' := 11) (v := 67) rfl rfl rfl ly_66 rfl rfl hr_66_1 ?_
  refine ev_x (i := .iload_n 1) (len := 1) (p' := 12) (s' := [.int (xs 4), .ref 67]) rfl rfl rfl ?_
  refine ev_x (i := .iload_n 2) (len := 1) (p' := 13) (s' := [.int 16, .int (xs 4), .ref 67]) rfl rfl rfl ?_
  refine ev_x (i := .ishr) (len := 1) (p' := 14) (s' := [.int ((xs 4) >>> ((16 : Int32) &&& 31)), .ref 67]) rfl rfl rfl ?_
  refine ev_x (i := .sipush 255) (len := 3) (p' := 17) (s' := [.int 255, .int ((xs 4) >>> ((16 : Int32) &&& 31)), .ref 67]) rfl rfl rfl ?_
  refine ev_x (i := .iand) (len := 1) (p' := 18) (s' := [.int (((xs 4) >>> ((16 : Int32) &&& 31)) &&& 255), .ref 67]) rfl rfl rfl ?_
  refine ev_cv (d := d + 1) (As := [.int (((xs 4) >>> ((16 : Int32) &&& 31)) &&& 255)]) (a := 67) (p' := 21) rfl rfl rfl ly_67 rfl rfl rfl rfl rfl rfl rfl (add_n_67 (n := 13) (m := 16) (v := (((xs 4) >>> ((16 : Int32) &&& 31)) &&& 255)) (hm := by decide) (h := by decide) (d := d + 0) (hi_67_1 := rfl) (hn_68 := hn_68)) ?_
  refine ev_st (st' := []) rfl ?_
  refine ev_x (i := .iinc 2 (-8)) (len := 3) (p' := 24) (s' := []) (l' := [(2, .int 8), (0, .ref 66), (1, .int (xs 4))]) rfl rfl rfl ?_
  refine ev_x (i := .goto (-21)) (len := 3) (p' := 3) (s' := []) rfl rfl rfl ?_
  refine ev_x (i := .iload_n 2) (len := 1) (p' := 4) (s' := [.int 8]) rfl rfl rfl ?_
  refine ev_b0 (t := 27) (p' := 7) rfl rfl rfl (by decide) ?_
  refine ev_x (i := .aload_n 0) (len := 1) (p' := 8) (s' := [.ref 66]) rfl rfl rfl ?_
  refine ev_gr (p' := 11) (v := 67) rfl rfl rfl ly_66 rfl rfl hr_66_1 ?_
  refine ev_x (i := .iload_n 1) (len := 1) (p' := 12) (s' := [.int (xs 4), .ref 67]) rfl rfl rfl ?_
  refine ev_x (i := .iload_n 2) (len := 1) (p' := 13) (s' := [.int 8, .int (xs 4), .ref 67]) rfl rfl rfl ?_
  refine ev_x (i := .ishr) (len := 1) (p' := 14) (s' := [.int ((xs 4) >>> ((8 : Int32) &&& 31)), .ref 67]) rfl rfl rfl ?_
  refine ev_x (i := .sipush 255) (len := 3) (p' := 17) (s' := [.int 255, .int ((xs 4) >>> ((8 : Int32) &&& 31)), .ref 67]) rfl rfl rfl ?_
  refine ev_x (i := .iand) (len := 1) (p' := 18) (s' := [.int (((xs 4) >>> ((8 : Int32) &&& 31)) &&& 255), .ref 67]) rfl rfl rfl ?_
  refine ev_cv (d := d + 1) (As := [.int (((xs 4) >>> ((8 : Int32) &&& 31)) &&& 255)]) (a := 67) (p' := 21) rfl rfl rfl ly_67 rfl rfl rfl rfl rfl rfl rfl (add_n_67 (n := 14) (m := 16) (v := (((xs 4) >>> ((8 : Int32) &&& 31)) &&& 255)) (hm := by decide) (h := by decide) (d := d + 0) (hi_67_1 := rfl) (hn_68 := hn_68)) ?_
  refine ev_st (st' := []) rfl ?_
  refine ev_x (i := .iinc 2 (-8)) (len := 3) (p' := 24) (s' := []) (l' := [(2, .int 0), (0, .ref 66), (1, .int (xs 4))]) rfl rfl rfl ?_
  refine ev_x (i := .goto (-21)) (len := 3) (p' := 3) (s' := []) rfl rfl rfl ?_
  refine ev_x (i := .iload_n 2) (len := 1) (p' := 4) (s' := [.int 0]) rfl rfl rfl ?_
  refine ev_b0 (t := 27) (p' := 7) rfl rfl rfl (by decide) ?_
  refine ev_x (i := .aload_n 0) (len := 1) (p' := 8) (s' := [.ref 66]) rfl rfl rfl ?_
  refine ev_gr (p' := 11) (v := 67) rfl rfl rfl ly_66 rfl rfl hr_66_1 ?_
  refine ev_x (i := .iload_n 1) (len := 1) (p' := 12) (s' := [.int (xs 4), .ref 67]) rfl rfl rfl ?_
  refine ev_x (i := .iload_n 2) (len := 1) (p' := 13) (s' := [.int 0, .int (xs 4), .ref 67]) rfl rfl rfl ?_
  refine ev_x (i := .ishr) (len := 1) (p' := 14) (s' := [.int ((xs 4) >>> ((0 : Int32) &&& 31)), .ref 67]) rfl rfl rfl ?_
  refine ev_x (i := .sipush 255) (len := 3) (p' := 17) (s' := [.int 255, .int ((xs 4) >>> ((0 : Int32) &&& 31)), .ref 67]) rfl rfl rfl ?_
  refine ev_x (i := .iand) (len := 1) (p' := 18) (s' := [.int (((xs 4) >>> ((0 : Int32) &&& 31)) &&& 255), .ref 67]) rfl rfl rfl ?_
  refine ev_cv (d := d + 1) (As := [.int (((xs 4) >>> ((0 : Int32) &&& 31)) &&& 255)]) (a := 67) (p' := 21) rfl rfl rfl ly_67 rfl rfl rfl rfl rfl rfl rfl (add_n_67 (n := 15) (m := 16) (v := (((xs 4) >>> ((0 : Int32) &&& 31)) &&& 255)) (hm := by decide) (h := by decide) (d := d + 0) (hi_67_1 := rfl) (hn_68 := hn_68)) ?_
  refine ev_st (st' := []) rfl ?_
  refine ev_x (i := .iinc 2 (-8)) (len := 3) (p' := 24) (s' := []) (l' := [(2, .int (-8)), (0, .ref 66), (1, .int (xs 4))]) rfl rfl rfl ?_
  refine ev_x (i := .goto (-21)) (len := 3) (p' := 3) (s' := []) rfl rfl rfl ?_
  refine ev_x (i := .iload_n 2) (len := 1) (p' := 4) (s' := [.int (-8)]) rfl rfl rfl ?_
  refine ev_b0 (t := 27) (p' := 27) rfl rfl rfl (by decide) ?_
  exact ev_vret rfl rfl rfl
set_option maxHeartbeats 4000000 in
set_option maxRecDepth 100000 in
/-- GameTextModel.add4(I)V -/
theorem wl0_172 {d : Nat} {σ : st_S} {xs : Nat → Int32} (hr_66_1 : σ.2.2.1 66 1 = 67) (hi_67_1 : σ.1 67 1 = 16) (hn_68 : (σ.2.2.2.1 68).1 = 16) (hq : σ.2.2.2.2.2.1 + 188 < vz_M0) : vz_ev P0 (d + 2) 132 0 (lv_args 0 [.ref 66, .int (xs 5)]) [] (hp σ) (.inl none, hp (st_i (st_e (st_i (st_e (st_i (st_e (st_i (st_e (st_gw (σ) 68 16 (2 * 16)) 68 16 (((xs 5) >>> ((24 : Int32) &&& 31)) &&& 255)) 67 1 (nI (16 + 1))) 68 17 (((xs 5) >>> ((16 : Int32) &&& 31)) &&& 255)) 67 1 (nI (17 + 1))) 68 18 (((xs 5) >>> ((8 : Int32) &&& 31)) &&& 255)) 67 1 (nI (18 + 1))) 68 19 (((xs 5) >>> ((0 : Int32) &&& 31)) &&& 255)) 67 1 (nI (19 + 1)))) := by
  refine ev_x (i := .bipush 24) (len := 2) (p' := 2) (s' := [.int 24]) rfl rfl rfl ?_
  refine ev_x (i := .istore_n 2) (len := 1) (p' := 3) (s' := []) (l' := [(2, .int 24), (0, .ref 66), (1, .int (xs 5))]) rfl rfl rfl ?_
  refine ev_x (i := .iload_n 2) (len := 1) (p' := 4) (s' := [.int 24]) rfl rfl rfl ?_
  refine ev_b0 (t := 27) (p' := 7) rfl rfl rfl (by decide) ?_
  refine ev_x (i := .aload_n 0) (len := 1) (p' := 8) (s' := [.ref 66]) rfl rfl rfl ?_
  refine ev_gr (p' := 11) (v := 67) rfl rfl rfl ly_66 rfl rfl hr_66_1 ?_
  refine ev_x (i := .iload_n 1) (len := 1) (p' := 12) (s' := [.int (xs 5), .ref 67]) rfl rfl rfl ?_
  refine ev_x (i := .iload_n 2) (len := 1) (p' := 13) (s' := [.int 24, .int (xs 5), .ref 67]) rfl rfl rfl ?_
  refine ev_x (i := .ishr) (len := 1) (p' := 14) (s' := [.int ((xs 5) >>> ((24 : Int32) &&& 31)), .ref 67]) rfl rfl rfl ?_
  refine ev_x (i := .sipush 255) (len := 3) (p' := 17) (s' := [.int 255, .int ((xs 5) >>> ((24 : Int32) &&& 31)), .ref 67]) rfl rfl rfl ?_
  refine ev_x (i := .iand) (len := 1) (p' := 18) (s' := [.int (((xs 5) >>> ((24 : Int32) &&& 31)) &&& 255), .ref 67]) rfl rfl rfl ?_
  refine ev_cv (d := d + 1) (As := [.int (((xs 5) >>> ((24 : Int32) &&& 31)) &&& 255)]) (a := 67) (p' := 21) rfl rfl rfl ly_67 rfl rfl rfl rfl rfl rfl rfl (add_g_67 (n := 16) (v := (((xs 5) >>> ((24 : Int32) &&& 31)) &&& 255)) (h0 := by decide) (hm := by decide) (d := d + 0) (hi_67_1 := hi_67_1) (hn_68 := hn_68) (hq := hq)) ?_
  refine ev_st (st' := []) rfl ?_
  refine ev_x (i := .iinc 2 (-8)) (len := 3) (p' := 24) (s' := []) (l' := [(2, .int 16), (0, .ref 66), (1, .int (xs 5))]) rfl rfl rfl ?_
  refine ev_x (i := .goto (-21)) (len := 3) (p' := 3) (s' := []) rfl rfl rfl ?_
  refine ev_x (i := .iload_n 2) (len := 1) (p' := 4) (s' := [.int 16]) rfl rfl rfl ?_
  refine ev_b0 (t := 27) (p' := 7) rfl rfl rfl (by decide) ?_
  refine ev_x (i := .aload_n 0) (len := 1) (p' := 8) (s' := [.ref 66]) rfl rfl rfl ?_
  refine ev_gr (p' := 11) (v := 67) rfl rfl rfl ly_66 rfl rfl hr_66_1 ?_
  refine ev_x (i := .iload_n 1) (len := 1) (p' := 12) (s' := [.int (xs 5), .ref 67]) rfl rfl rfl ?_
  refine ev_x (i := .iload_n 2) (len := 1) (p' := 13) (s' := [.int 16, .int (xs 5), .ref 67]) rfl rfl rfl ?_
  refine ev_x (i := .ishr) (len := 1) (p' := 14) (s' := [.int ((xs 5) >>> ((16 : Int32) &&& 31)), .ref 67]) rfl rfl rfl ?_
  refine ev_x (i := .sipush 255) (len := 3) (p' := 17) (s' := [.int 255, .int ((xs 5) >>> ((16 : Int32) &&& 31)), .ref 67]) rfl rfl rfl ?_
  refine ev_x (i := .iand) (len := 1) (p' := 18) (s' := [.int (((xs 5) >>> ((16 : Int32) &&& 31)) &&& 255), .ref 67]) rfl rfl rfl ?_
  refine ev_cv (d := d + 1) (As := [.int (((xs 5) >>> ((16 : Int32) &&& 31)) &&& 255)]) (a := 67) (p' := 21) rfl rfl rfl ly_67 rfl rfl rfl rfl rfl rfl rfl (add_n_67 (n := 17) (m := 32) (v := (((xs 5) >>> ((16 : Int32) &&& 31)) &&& 255)) (hm := by decide) (h := by decide) (d := d + 0) (hi_67_1 := rfl) (hn_68 := rfl)) ?_
  refine ev_st (st' := []) rfl ?_
  refine ev_x (i := .iinc 2 (-8)) (len := 3) (p' := 24) (s' := []) (l' := [(2, .int 8), (0, .ref 66), (1, .int (xs 5))]) rfl rfl rfl ?_
  refine ev_x (i := .goto (-21)) (len := 3) (p' := 3) (s' := []) rfl rfl rfl ?_
  refine ev_x (i := .iload_n 2) (len := 1) (p' := 4) (s' := [.int 8]) rfl rfl rfl ?_
  refine ev_b0 (t := 27) (p' := 7) rfl rfl rfl (by decide) ?_
  refine ev_x (i := .aload_n 0) (len := 1) (p' := 8) (s' := [.ref 66]) rfl rfl rfl ?_
  refine ev_gr (p' := 11) (v := 67) rfl rfl rfl ly_66 rfl rfl hr_66_1 ?_
  refine ev_x (i := .iload_n 1) (len := 1) (p' := 12) (s' := [.int (xs 5), .ref 67]) rfl rfl rfl ?_
  refine ev_x (i := .iload_n 2) (len := 1) (p' := 13) (s' := [.int 8, .int (xs 5), .ref 67]) rfl rfl rfl ?_
  refine ev_x (i := .ishr) (len := 1) (p' := 14) (s' := [.int ((xs 5) >>> ((8 : Int32) &&& 31)), .ref 67]) rfl rfl rfl ?_
  refine ev_x (i := .sipush 255) (len := 3) (p' := 17) (s' := [.int 255, .int ((xs 5) >>> ((8 : Int32) &&& 31)), .ref 67]) rfl rfl rfl ?_
  refine ev_x (i := .iand) (len := 1) (p' := 18) (s' := [.int (((xs 5) >>> ((8 : Int32) &&& 31)) &&& 255), .ref 67]) rfl rfl rfl ?_
  refine ev_cv (d := d + 1) (As := [.int (((xs 5) >>> ((8 : Int32) &&& 31)) &&& 255)]) (a := 67) (p' := 21) rfl rfl rfl ly_67 rfl rfl rfl rfl rfl rfl rfl (add_n_67 (n := 18) (m := 32) (v := (((xs 5) >>> ((8 : Int32) &&& 31)) &&& 255)) (hm := by decide) (h := by decide) (d := d + 0) (hi_67_1 := rfl) (hn_68 := rfl)) ?_
  refine ev_st (st' := []) rfl ?_
  refine ev_x (i := .iinc 2 (-8)) (len := 3) (p' := 24) (s' := []) (l' := [(2, .int 0), (0, .ref 66), (1, .int (xs 5))]) rfl rfl rfl ?_
  refine ev_x (i := .goto (-21)) (len := 3) (p' := 3) (s' := []) rfl rfl rfl ?_
  refine ev_x (i := .iload_n 2) (len := 1) (p' := 4) (s' := [.int 0]) rfl rfl rfl ?_
  refine ev_b0 (t := 27) (p' := 7) rfl rfl rfl (by decide) ?_
  refine ev_x (i := .aload_n 0) (len := 1) (p' := 8) (s' := [.ref 66]) rfl rfl rfl ?_
  refine ev_gr (p' := 11) (v := 67) rfl rfl rfl ly_66 rfl rfl hr_66_1 ?_
  refine ev_x (i := .iload_n 1) (len := 1) (p' := 12) (s' := [.int (xs 5), .ref 67]) rfl rfl rfl ?_
  refine ev_x (i := .iload_n 2) (len := 1) (p' := 13) (s' := [.int 0, .int (xs 5), .ref 67]) rfl rfl rfl ?_
  refine ev_x (i := .ishr) (len := 1) (p' := 14) (s' := [.int ((xs 5) >>> ((0 : Int32) &&& 31)), .ref 67]) rfl rfl rfl ?_
  refine ev_x (i := .sipush 255) (len := 3) (p' := 17) (s' := [.int 255, .int ((xs 5) >>> ((0 : Int32) &&& 31)), .ref 67]) rfl rfl rfl ?_
  refine ev_x (i := .iand) (len := 1) (p' := 18) (s' := [.int (((xs 5) >>> ((0 : Int32) &&& 31)) &&& 255), .ref 67]) rfl rfl rfl ?_
  refine ev_cv (d := d + 1) (As := [.int (((xs 5) >>> ((0 : Int32) &&& 31)) &&& 255)]) (a := 67) (p' := 21) rfl rfl rfl ly_67 rfl rfl rfl rfl rfl rfl rfl (add_n_67 (n := 19) (m := 32) (v := (((xs 5) >>> ((0 : Int32) &&& 31)) &&& 255)) (hm := by decide) (h := by decide) (d := d + 0) (hi_67_1 := rfl) (hn_68 := rfl)) ?_
  refine ev_st (st' := []) rfl ?_
  refine ev_x (i := .iinc 2 (-8)) (len := 3) (p' := 24) (s' := []) (l' := [(2, .int (-8)), (0, .ref 66), (1, .int (xs 5))]) rfl rfl rfl ?_
  refine ev_x (i := .goto (-21)) (len := 3) (p' := 3) (s' := []) rfl rfl rfl ?_
  refine ev_x (i := .iload_n 2) (len := 1) (p' := 4) (s' := [.int (-8)]) rfl rfl rfl ?_
  refine ev_b0 (t := 27) (p' := 27) rfl rfl rfl (by decide) ?_
  exact ev_vret rfl rfl rfl
set_option maxHeartbeats 4000000 in
set_option maxRecDepth 100000 in
/-- GameTextModel.feed(IIIII)I -/
theorem wl0_173 {d : Nat} {σ : st_S} {xs : Nat → Int32} (hr_66_1 : σ.2.2.1 66 1 = 67) (hi_67_1 : σ.1 67 1 = 0) (hn_68 : (σ.2.2.2.1 68).1 = 16) (hq : σ.2.2.2.2.2.1 + 188 < vz_M0) : vz_ev P0 (d + 3) 131 0 (lv_args 0 [.ref 66, .int (xs 1), .int (xs 2), .int (xs 3), .int (xs 4), .int (xs 5)]) [] (hp σ) (.inl (some (.int 20)), hp (st_i (st_e (st_i (st_e (st_i (st_e (st_i (st_e (st_gw ((st_i (st_e (st_i (st_e (st_i (st_e (st_i (st_e ((st_i (st_e (st_i (st_e (st_i (st_e (st_i (st_e ((st_i (st_e (st_i (st_e (st_i (st_e (st_i (st_e ((st_i (st_e (st_i (st_e (st_i (st_e (st_i (st_e ((st_i (σ) 66 0 0)) 68 0 (((xs 1) >>> ((24 : Int32) &&& 31)) &&& 255)) 67 1 (nI (0 + 1))) 68 1 (((xs 1) >>> ((16 : Int32) &&& 31)) &&& 255)) 67 1 (nI (1 + 1))) 68 2 (((xs 1) >>> ((8 : Int32) &&& 31)) &&& 255)) 67 1 (nI (2 + 1))) 68 3 (((xs 1) >>> ((0 : Int32) &&& 31)) &&& 255)) 67 1 (nI (3 + 1)))) 68 4 (((xs 2) >>> ((24 : Int32) &&& 31)) &&& 255)) 67 1 (nI (4 + 1))) 68 5 (((xs 2) >>> ((16 : Int32) &&& 31)) &&& 255)) 67 1 (nI (5 + 1))) 68 6 (((xs 2) >>> ((8 : Int32) &&& 31)) &&& 255)) 67 1 (nI (6 + 1))) 68 7 (((xs 2) >>> ((0 : Int32) &&& 31)) &&& 255)) 67 1 (nI (7 + 1)))) 68 8 (((xs 3) >>> ((24 : Int32) &&& 31)) &&& 255)) 67 1 (nI (8 + 1))) 68 9 (((xs 3) >>> ((16 : Int32) &&& 31)) &&& 255)) 67 1 (nI (9 + 1))) 68 10 (((xs 3) >>> ((8 : Int32) &&& 31)) &&& 255)) 67 1 (nI (10 + 1))) 68 11 (((xs 3) >>> ((0 : Int32) &&& 31)) &&& 255)) 67 1 (nI (11 + 1)))) 68 12 (((xs 4) >>> ((24 : Int32) &&& 31)) &&& 255)) 67 1 (nI (12 + 1))) 68 13 (((xs 4) >>> ((16 : Int32) &&& 31)) &&& 255)) 67 1 (nI (13 + 1))) 68 14 (((xs 4) >>> ((8 : Int32) &&& 31)) &&& 255)) 67 1 (nI (14 + 1))) 68 15 (((xs 4) >>> ((0 : Int32) &&& 31)) &&& 255)) 67 1 (nI (15 + 1)))) 68 16 (2 * 16)) 68 16 (((xs 5) >>> ((24 : Int32) &&& 31)) &&& 255)) 67 1 (nI (16 + 1))) 68 17 (((xs 5) >>> ((16 : Int32) &&& 31)) &&& 255)) 67 1 (nI (17 + 1))) 68 18 (((xs 5) >>> ((8 : Int32) &&& 31)) &&& 255)) 67 1 (nI (18 + 1))) 68 19 (((xs 5) >>> ((0 : Int32) &&& 31)) &&& 255)) 67 1 (nI (19 + 1)))) := by
  refine ev_x (i := .aload_n 0) (len := 1) (p' := 1) (s' := [.ref 66]) rfl rfl rfl ?_
  refine ev_x (i := .iconst 0) (len := 1) (p' := 2) (s' := [.int 0, .ref 66]) rfl rfl rfl ?_
  refine ev_pi (p' := 5) rfl rfl rfl ly_66 rfl rfl rfl rfl ?_
  refine ev_x (i := .aload_n 0) (len := 1) (p' := 6) (s' := [.ref 66]) rfl rfl rfl ?_
  refine ev_gr (p' := 9) (v := 67) rfl rfl rfl ly_66 rfl rfl hr_66_1 ?_
  refine ev_gi (p' := 12) (v := 0) rfl rfl rfl ly_67 rfl rfl hi_67_1 ?_
  refine ev_x (i := .bipush 20) (len := 2) (p' := 14) (s' := [.int 20, .int 0]) rfl rfl rfl ?_
  refine ev_x (i := .iadd) (len := 1) (p' := 15) (s' := [.int 20]) rfl rfl rfl ?_
  refine ev_x (i := .sipush 16384) (len := 3) (p' := 18) (s' := [.int 16384, .int 20]) rfl rfl rfl ?_
  refine ev_b2 (t := 23) (p' := 23) rfl rfl rfl (by decide) ?_
  refine ev_x (i := .aload_n 0) (len := 1) (p' := 24) (s' := [.ref 66]) rfl rfl rfl ?_
  refine ev_x (i := .iload_n 1) (len := 1) (p' := 25) (s' := [.int (xs 1), .ref 66]) rfl rfl rfl ?_
  refine ev_cv (d := d + 2) (As := [.int (xs 1)]) (a := 66) (p' := 28) rfl rfl rfl ly_66 rfl rfl rfl rfl rfl rfl rfl (wl0_168 (d := d + 0) (hr_66_1 := hr_66_1) (hi_67_1 := hi_67_1) (hn_68 := hn_68)) ?_
  refine ev_st (st' := []) rfl ?_
  refine ev_x (i := .aload_n 0) (len := 1) (p' := 29) (s' := [.ref 66]) rfl rfl rfl ?_
  refine ev_x (i := .iload_n 2) (len := 1) (p' := 30) (s' := [.int (xs 2), .ref 66]) rfl rfl rfl ?_
  refine ev_cv (d := d + 2) (As := [.int (xs 2)]) (a := 66) (p' := 33) rfl rfl rfl ly_66 rfl rfl rfl rfl rfl rfl rfl (wl0_169 (d := d + 0) (hr_66_1 := hr_66_1) (hi_67_1 := rfl) (hn_68 := hn_68)) ?_
  refine ev_st (st' := []) rfl ?_
  refine ev_x (i := .aload_n 0) (len := 1) (p' := 34) (s' := [.ref 66]) rfl rfl rfl ?_
  refine ev_x (i := .iload_n 3) (len := 1) (p' := 35) (s' := [.int (xs 3), .ref 66]) rfl rfl rfl ?_
  refine ev_cv (d := d + 2) (As := [.int (xs 3)]) (a := 66) (p' := 38) rfl rfl rfl ly_66 rfl rfl rfl rfl rfl rfl rfl (wl0_170 (d := d + 0) (hr_66_1 := hr_66_1) (hi_67_1 := rfl) (hn_68 := hn_68)) ?_
  refine ev_st (st' := []) rfl ?_
  refine ev_x (i := .aload_n 0) (len := 1) (p' := 39) (s' := [.ref 66]) rfl rfl rfl ?_
  refine ev_x (i := .iload 4) (len := 2) (p' := 41) (s' := [.int (xs 4), .ref 66]) rfl rfl rfl ?_
  refine ev_cv (d := d + 2) (As := [.int (xs 4)]) (a := 66) (p' := 44) rfl rfl rfl ly_66 rfl rfl rfl rfl rfl rfl rfl (wl0_171 (d := d + 0) (hr_66_1 := hr_66_1) (hi_67_1 := rfl) (hn_68 := hn_68)) ?_
  refine ev_st (st' := []) rfl ?_
  refine ev_x (i := .aload_n 0) (len := 1) (p' := 45) (s' := [.ref 66]) rfl rfl rfl ?_
  refine ev_x (i := .iload 5) (len := 2) (p' := 47) (s' := [.int (xs 5), .ref 66]) rfl rfl rfl ?_
  refine ev_cv (d := d + 2) (As := [.int (xs 5)]) (a := 66) (p' := 50) rfl rfl rfl ly_66 rfl rfl rfl rfl rfl rfl rfl (wl0_172 (d := d + 0) (hr_66_1 := hr_66_1) (hi_67_1 := rfl) (hn_68 := hn_68) (hq := hq)) ?_
  refine ev_st (st' := []) rfl ?_
  refine ev_x (i := .aload_n 0) (len := 1) (p' := 51) (s' := [.ref 66]) rfl rfl rfl ?_
  refine ev_gr (p' := 54) (v := 67) rfl rfl rfl ly_66 rfl rfl hr_66_1 ?_
  refine ev_gi (p' := 57) (v := 20) rfl rfl rfl ly_67 rfl rfl rfl ?_
  exact ev_iret rfl rfl rfl rfl
set_option maxHeartbeats 4000000 in
set_option maxRecDepth 100000 in
/-- GameTextLaw.law([I)Z -/
theorem law_0 {d : Nat} {σ : st_S} {L : Nat} {xs : Nat → Int32} (hs : σ.2.2.2.2.2.2.1 0 = .inl (0, L, .inl xs)) (h6 : 6 ≤ L) (hi_2_1 : σ.1 2 1 = 0) (hn_3 : (σ.2.2.2.1 3).1 = 256) (hr_66_1 : σ.2.2.1 66 1 = 67) (hi_67_1 : σ.1 67 1 = 0) (hn_68 : (σ.2.2.2.1 68).1 = 16) (hq : σ.2.2.2.2.2.1 + 188 < vz_M0) (c_1 : ¬ (((Int32.ofNat L) - 6) < 0)) (hx : ((xs 0) &&& 15) = 0) (c_2 : ((Int32.ofNat L) - 6) < 6) : vz_ev P0 (d + 4) 0 23 ([(4, .int 0), (3, .ref 187), (2, .ref 66), (1, .ref 1), (0, .ref 0)]) [] (hp σ) (.inl (some (.int 1)), hp (st_i (st_e (st_i (st_e (st_i (st_e (st_i (st_e (st_gw ((st_i (st_e (st_i (st_e (st_i (st_e (st_i (st_e ((st_i (st_e (st_i (st_e (st_i (st_e (st_i (st_e ((st_i (st_e (st_i (st_e (st_i (st_e (st_i (st_e ((st_i (st_e (st_i (st_e (st_i (st_e (st_i (st_e ((st_i ((st_i (st_e (st_i (st_e (st_i (st_e (st_i (st_e ((st_i (st_e (st_i (st_e (st_i (st_e (st_i (st_e ((st_i (st_e (st_i (st_e (st_i (st_e (st_i (st_e ((st_i (st_e (st_i (st_e (st_i (st_e (st_i (st_e ((st_i (st_e (st_i (st_e (st_i (st_e (st_i (st_e ((((σ)))) 3 0 ((((xs 1)).toUInt32 >>> ((24 : Int32).toUInt32 &&& Int32.toUInt32 31)).toInt32 &&& 255)) 2 1 1) 3 1 ((((xs 1)).toUInt32 >>> ((16 : Int32).toUInt32 &&& Int32.toUInt32 31)).toInt32 &&& 255)) 2 1 2) 3 2 ((((xs 1)).toUInt32 >>> ((8 : Int32).toUInt32 &&& Int32.toUInt32 31)).toInt32 &&& 255)) 2 1 3) 3 3 ((((xs 1)).toUInt32 >>> ((0 : Int32).toUInt32 &&& Int32.toUInt32 31)).toInt32 &&& 255)) 2 1 4)) 3 4 ((((xs 2)).toUInt32 >>> ((24 : Int32).toUInt32 &&& Int32.toUInt32 31)).toInt32 &&& 255)) 2 1 5) 3 5 ((((xs 2)).toUInt32 >>> ((16 : Int32).toUInt32 &&& Int32.toUInt32 31)).toInt32 &&& 255)) 2 1 6) 3 6 ((((xs 2)).toUInt32 >>> ((8 : Int32).toUInt32 &&& Int32.toUInt32 31)).toInt32 &&& 255)) 2 1 7) 3 7 ((((xs 2)).toUInt32 >>> ((0 : Int32).toUInt32 &&& Int32.toUInt32 31)).toInt32 &&& 255)) 2 1 8)) 3 8 ((((xs 3)).toUInt32 >>> ((24 : Int32).toUInt32 &&& Int32.toUInt32 31)).toInt32 &&& 255)) 2 1 9) 3 9 ((((xs 3)).toUInt32 >>> ((16 : Int32).toUInt32 &&& Int32.toUInt32 31)).toInt32 &&& 255)) 2 1 10) 3 10 ((((xs 3)).toUInt32 >>> ((8 : Int32).toUInt32 &&& Int32.toUInt32 31)).toInt32 &&& 255)) 2 1 11) 3 11 ((((xs 3)).toUInt32 >>> ((0 : Int32).toUInt32 &&& Int32.toUInt32 31)).toInt32 &&& 255)) 2 1 12)) 3 12 ((((xs 4)).toUInt32 >>> ((24 : Int32).toUInt32 &&& Int32.toUInt32 31)).toInt32 &&& 255)) 2 1 13) 3 13 ((((xs 4)).toUInt32 >>> ((16 : Int32).toUInt32 &&& Int32.toUInt32 31)).toInt32 &&& 255)) 2 1 14) 3 14 ((((xs 4)).toUInt32 >>> ((8 : Int32).toUInt32 &&& Int32.toUInt32 31)).toInt32 &&& 255)) 2 1 15) 3 15 ((((xs 4)).toUInt32 >>> ((0 : Int32).toUInt32 &&& Int32.toUInt32 31)).toInt32 &&& 255)) 2 1 16)) 3 16 ((((xs 5)).toUInt32 >>> ((24 : Int32).toUInt32 &&& Int32.toUInt32 31)).toInt32 &&& 255)) 2 1 17) 3 17 ((((xs 5)).toUInt32 >>> ((16 : Int32).toUInt32 &&& Int32.toUInt32 31)).toInt32 &&& 255)) 2 1 18) 3 18 ((((xs 5)).toUInt32 >>> ((8 : Int32).toUInt32 &&& Int32.toUInt32 31)).toInt32 &&& 255)) 2 1 19) 3 19 ((((xs 5)).toUInt32 >>> ((0 : Int32).toUInt32 &&& Int32.toUInt32 31)).toInt32 &&& 255)) 2 1 20)) 66 0 0)) 68 0 (((xs 1) >>> ((24 : Int32) &&& 31)) &&& 255)) 67 1 (nI (0 + 1))) 68 1 (((xs 1) >>> ((16 : Int32) &&& 31)) &&& 255)) 67 1 (nI (1 + 1))) 68 2 (((xs 1) >>> ((8 : Int32) &&& 31)) &&& 255)) 67 1 (nI (2 + 1))) 68 3 (((xs 1) >>> ((0 : Int32) &&& 31)) &&& 255)) 67 1 (nI (3 + 1)))) 68 4 (((xs 2) >>> ((24 : Int32) &&& 31)) &&& 255)) 67 1 (nI (4 + 1))) 68 5 (((xs 2) >>> ((16 : Int32) &&& 31)) &&& 255)) 67 1 (nI (5 + 1))) 68 6 (((xs 2) >>> ((8 : Int32) &&& 31)) &&& 255)) 67 1 (nI (6 + 1))) 68 7 (((xs 2) >>> ((0 : Int32) &&& 31)) &&& 255)) 67 1 (nI (7 + 1)))) 68 8 (((xs 3) >>> ((24 : Int32) &&& 31)) &&& 255)) 67 1 (nI (8 + 1))) 68 9 (((xs 3) >>> ((16 : Int32) &&& 31)) &&& 255)) 67 1 (nI (9 + 1))) 68 10 (((xs 3) >>> ((8 : Int32) &&& 31)) &&& 255)) 67 1 (nI (10 + 1))) 68 11 (((xs 3) >>> ((0 : Int32) &&& 31)) &&& 255)) 67 1 (nI (11 + 1)))) 68 12 (((xs 4) >>> ((24 : Int32) &&& 31)) &&& 255)) 67 1 (nI (12 + 1))) 68 13 (((xs 4) >>> ((16 : Int32) &&& 31)) &&& 255)) 67 1 (nI (13 + 1))) 68 14 (((xs 4) >>> ((8 : Int32) &&& 31)) &&& 255)) 67 1 (nI (14 + 1))) 68 15 (((xs 4) >>> ((0 : Int32) &&& 31)) &&& 255)) 67 1 (nI (15 + 1)))) 68 16 (2 * 16)) 68 16 (((xs 5) >>> ((24 : Int32) &&& 31)) &&& 255)) 67 1 (nI (16 + 1))) 68 17 (((xs 5) >>> ((16 : Int32) &&& 31)) &&& 255)) 67 1 (nI (17 + 1))) 68 18 (((xs 5) >>> ((8 : Int32) &&& 31)) &&& 255)) 67 1 (nI (18 + 1))) 68 19 (((xs 5) >>> ((0 : Int32) &&& 31)) &&& 255)) 67 1 (nI (19 + 1)))) := by
  refine ev_x (i := .iload 4) (len := 2) (p' := 25) (s' := [.int 0]) rfl rfl rfl ?_
  refine ev_x (i := .aload_n 0) (len := 1) (p' := 26) (s' := [.ref 0, .int 0]) rfl rfl rfl ?_
  refine ev_sl (p' := 27) rfl rfl hs rfl ?_
  refine ev_x (i := .bipush 6) (len := 2) (p' := 29) (s' := [.int 6, .int (Int32.ofNat L), .int 0]) rfl rfl rfl ?_
  refine ev_x (i := .isub) (len := 1) (p' := 30) (s' := [.int ((Int32.ofNat L) - 6), .int 0]) rfl rfl rfl ?_
  refine ev_b2 (t := 621) (p' := 33) rfl rfl rfl (if_neg c_1) ?_
  refine ev_x (i := .aload_n 0) (len := 1) (p' := 34) (s' := [.ref 0]) rfl rfl rfl ?_
  refine ev_x (i := .iload 4) (len := 2) (p' := 36) (s' := [.int 0, .ref 0]) rfl rfl rfl ?_
  refine ev_sg (p' := 37) rfl rfl hs (sp_in_L h6 rfl) rfl ?_
  refine ev_st (st' := [.int (xs 0)]) rfl ?_
  refine ev_x (i := .bipush 15) (len := 2) (p' := 39) (s' := [.int 15, .int (xs 0)]) rfl rfl rfl ?_
  refine ev_x (i := .iand) (len := 1) (p' := 40) (s' := [.int ((xs 0) &&& 15)]) rfl rfl rfl ?_
  refine ev_st (st' := [.int 0]) (congrArg (fun z => [Value.int z]) hx) ?_
  refine ev_ts (off := 72) (t := 112) rfl rfl (by decide) rfl ?_
  refine ev_x (i := .aload_n 1) (len := 1) (p' := 113) (s' := [.ref 1]) rfl rfl rfl ?_
  refine ev_x (i := .aload_n 0) (len := 1) (p' := 114) (s' := [.ref 0, .ref 1]) rfl rfl rfl ?_
  refine ev_x (i := .iload 4) (len := 2) (p' := 116) (s' := [.int 0, .ref 0, .ref 1]) rfl rfl rfl ?_
  refine ev_x (i := .iconst 1) (len := 1) (p' := 117) (s' := [.int 1, .int 0, .ref 0, .ref 1]) rfl rfl rfl ?_
  refine ev_x (i := .iadd) (len := 1) (p' := 118) (s' := [.int 1, .ref 0, .ref 1]) rfl rfl rfl ?_
  refine ev_sg (p' := 119) rfl rfl hs (sp_in_L h6 rfl) rfl ?_
  refine ev_st (st' := [.int (xs 1), .ref 1]) rfl ?_
  refine ev_x (i := .aload_n 0) (len := 1) (p' := 120) (s' := [.ref 0, .int (xs 1), .ref 1]) rfl rfl rfl ?_
  refine ev_x (i := .iload 4) (len := 2) (p' := 122) (s' := [.int 0, .ref 0, .int (xs 1), .ref 1]) rfl rfl rfl ?_
  refine ev_x (i := .iconst 2) (len := 1) (p' := 123) (s' := [.int 2, .int 0, .ref 0, .int (xs 1), .ref 1]) rfl rfl rfl ?_
  refine ev_x (i := .iadd) (len := 1) (p' := 124) (s' := [.int 2, .ref 0, .int (xs 1), .ref 1]) rfl rfl rfl ?_
  refine ev_sg (p' := 125) rfl rfl hs (sp_in_L h6 rfl) rfl ?_
  refine ev_st (st' := [.int (xs 2), .int (xs 1), .ref 1]) rfl ?_
  refine ev_x (i := .aload_n 0) (len := 1) (p' := 126) (s' := [.ref 0, .int (xs 2), .int (xs 1), .ref 1]) rfl rfl rfl ?_
  refine ev_x (i := .iload 4) (len := 2) (p' := 128) (s' := [.int 0, .ref 0, .int (xs 2), .int (xs 1), .ref 1]) rfl rfl rfl ?_
  refine ev_x (i := .iconst 3) (len := 1) (p' := 129) (s' := [.int 3, .int 0, .ref 0, .int (xs 2), .int (xs 1), .ref 1]) rfl rfl rfl ?_
  refine ev_x (i := .iadd) (len := 1) (p' := 130) (s' := [.int 3, .ref 0, .int (xs 2), .int (xs 1), .ref 1]) rfl rfl rfl ?_
  refine ev_sg (p' := 131) rfl rfl hs (sp_in_L h6 rfl) rfl ?_
  refine ev_st (st' := [.int (xs 3), .int (xs 2), .int (xs 1), .ref 1]) rfl ?_
  refine ev_x (i := .aload_n 0) (len := 1) (p' := 132) (s' := [.ref 0, .int (xs 3), .int (xs 2), .int (xs 1), .ref 1]) rfl rfl rfl ?_
  refine ev_x (i := .iload 4) (len := 2) (p' := 134) (s' := [.int 0, .ref 0, .int (xs 3), .int (xs 2), .int (xs 1), .ref 1]) rfl rfl rfl ?_
  refine ev_x (i := .iconst 4) (len := 1) (p' := 135) (s' := [.int 4, .int 0, .ref 0, .int (xs 3), .int (xs 2), .int (xs 1), .ref 1]) rfl rfl rfl ?_
  refine ev_x (i := .iadd) (len := 1) (p' := 136) (s' := [.int 4, .ref 0, .int (xs 3), .int (xs 2), .int (xs 1), .ref 1]) rfl rfl rfl ?_
  refine ev_sg (p' := 137) rfl rfl hs (sp_in_L h6 rfl) rfl ?_
  refine ev_st (st' := [.int (xs 4), .int (xs 3), .int (xs 2), .int (xs 1), .ref 1]) rfl ?_
  refine ev_x (i := .aload_n 0) (len := 1) (p' := 138) (s' := [.ref 0, .int (xs 4), .int (xs 3), .int (xs 2), .int (xs 1), .ref 1]) rfl rfl rfl ?_
  refine ev_x (i := .iload 4) (len := 2) (p' := 140) (s' := [.int 0, .ref 0, .int (xs 4), .int (xs 3), .int (xs 2), .int (xs 1), .ref 1]) rfl rfl rfl ?_
  refine ev_x (i := .iconst 5) (len := 1) (p' := 141) (s' := [.int 5, .int 0, .ref 0, .int (xs 4), .int (xs 3), .int (xs 2), .int (xs 1), .ref 1]) rfl rfl rfl ?_
  refine ev_x (i := .iadd) (len := 1) (p' := 142) (s' := [.int 5, .ref 0, .int (xs 4), .int (xs 3), .int (xs 2), .int (xs 1), .ref 1]) rfl rfl rfl ?_
  refine ev_sg (p' := 143) rfl rfl hs (sp_in_L h6 rfl) rfl ?_
  refine ev_st (st' := [.int (xs 5), .int (xs 4), .int (xs 3), .int (xs 2), .int (xs 1), .ref 1]) rfl ?_
  refine ev_cv (d := d + 3) (As := [.int (xs 1), .int (xs 2), .int (xs 3), .int (xs 4), .int (xs 5)]) (a := 1) (p' := 146) rfl rfl rfl ly_1 rfl rfl rfl rfl rfl rfl rfl (wl0_167 (d := d + 1) (hi_2_1 := hi_2_1) (hn_3 := hn_3)) ?_
  refine ev_st (st' := [.int 20]) rfl ?_
  refine ev_x (i := .aload_n 2) (len := 1) (p' := 147) (s' := [.ref 66, .int 20]) rfl rfl rfl ?_
  refine ev_x (i := .aload_n 0) (len := 1) (p' := 148) (s' := [.ref 0, .ref 66, .int 20]) rfl rfl rfl ?_
  refine ev_x (i := .iload 4) (len := 2) (p' := 150) (s' := [.int 0, .ref 0, .ref 66, .int 20]) rfl rfl rfl ?_
  refine ev_x (i := .iconst 1) (len := 1) (p' := 151) (s' := [.int 1, .int 0, .ref 0, .ref 66, .int 20]) rfl rfl rfl ?_
  refine ev_x (i := .iadd) (len := 1) (p' := 152) (s' := [.int 1, .ref 0, .ref 66, .int 20]) rfl rfl rfl ?_
  refine ev_sg (p' := 153) rfl rfl hs (sp_in_L h6 rfl) rfl ?_
  refine ev_st (st' := [.int (xs 1), .ref 66, .int 20]) rfl ?_
  refine ev_x (i := .aload_n 0) (len := 1) (p' := 154) (s' := [.ref 0, .int (xs 1), .ref 66, .int 20]) rfl rfl rfl ?_
  refine ev_x (i := .iload 4) (len := 2) (p' := 156) (s' := [.int 0, .ref 0, .int (xs 1), .ref 66, .int 20]) rfl rfl rfl ?_
  refine ev_x (i := .iconst 2) (len := 1) (p' := 157) (s' := [.int 2, .int 0, .ref 0, .int (xs 1), .ref 66, .int 20]) rfl rfl rfl ?_
  refine ev_x (i := .iadd) (len := 1) (p' := 158) (s' := [.int 2, .ref 0, .int (xs 1), .ref 66, .int 20]) rfl rfl rfl ?_
  refine ev_sg (p' := 159) rfl rfl hs (sp_in_L h6 rfl) rfl ?_
  refine ev_st (st' := [.int (xs 2), .int (xs 1), .ref 66, .int 20]) rfl ?_
  refine ev_x (i := .aload_n 0) (len := 1) (p' := 160) (s' := [.ref 0, .int (xs 2), .int (xs 1), .ref 66, .int 20]) rfl rfl rfl ?_
  refine ev_x (i := .iload 4) (len := 2) (p' := 162) (s' := [.int 0, .ref 0, .int (xs 2), .int (xs 1), .ref 66, .int 20]) rfl rfl rfl ?_
  refine ev_x (i := .iconst 3) (len := 1) (p' := 163) (s' := [.int 3, .int 0, .ref 0, .int (xs 2), .int (xs 1), .ref 66, .int 20]) rfl rfl rfl ?_
  refine ev_x (i := .iadd) (len := 1) (p' := 164) (s' := [.int 3, .ref 0, .int (xs 2), .int (xs 1), .ref 66, .int 20]) rfl rfl rfl ?_
  refine ev_sg (p' := 165) rfl rfl hs (sp_in_L h6 rfl) rfl ?_
  refine ev_st (st' := [.int (xs 3), .int (xs 2), .int (xs 1), .ref 66, .int 20]) rfl ?_
  refine ev_x (i := .aload_n 0) (len := 1) (p' := 166) (s' := [.ref 0, .int (xs 3), .int (xs 2), .int (xs 1), .ref 66, .int 20]) rfl rfl rfl ?_
  refine ev_x (i := .iload 4) (len := 2) (p' := 168) (s' := [.int 0, .ref 0, .int (xs 3), .int (xs 2), .int (xs 1), .ref 66, .int 20]) rfl rfl rfl ?_
  refine ev_x (i := .iconst 4) (len := 1) (p' := 169) (s' := [.int 4, .int 0, .ref 0, .int (xs 3), .int (xs 2), .int (xs 1), .ref 66, .int 20]) rfl rfl rfl ?_
  refine ev_x (i := .iadd) (len := 1) (p' := 170) (s' := [.int 4, .ref 0, .int (xs 3), .int (xs 2), .int (xs 1), .ref 66, .int 20]) rfl rfl rfl ?_
  refine ev_sg (p' := 171) rfl rfl hs (sp_in_L h6 rfl) rfl ?_
  refine ev_st (st' := [.int (xs 4), .int (xs 3), .int (xs 2), .int (xs 1), .ref 66, .int 20]) rfl ?_
  refine ev_x (i := .aload_n 0) (len := 1) (p' := 172) (s' := [.ref 0, .int (xs 4), .int (xs 3), .int (xs 2), .int (xs 1), .ref 66, .int 20]) rfl rfl rfl ?_
  refine ev_x (i := .iload 4) (len := 2) (p' := 174) (s' := [.int 0, .ref 0, .int (xs 4), .int (xs 3), .int (xs 2), .int (xs 1), .ref 66, .int 20]) rfl rfl rfl ?_
  refine ev_x (i := .iconst 5) (len := 1) (p' := 175) (s' := [.int 5, .int 0, .ref 0, .int (xs 4), .int (xs 3), .int (xs 2), .int (xs 1), .ref 66, .int 20]) rfl rfl rfl ?_
  refine ev_x (i := .iadd) (len := 1) (p' := 176) (s' := [.int 5, .ref 0, .int (xs 4), .int (xs 3), .int (xs 2), .int (xs 1), .ref 66, .int 20]) rfl rfl rfl ?_
  refine ev_sg (p' := 177) rfl rfl hs (sp_in_L h6 rfl) rfl ?_
  refine ev_st (st' := [.int (xs 5), .int (xs 4), .int (xs 3), .int (xs 2), .int (xs 1), .ref 66, .int 20]) rfl ?_
  refine ev_cv (d := d + 3) (As := [.int (xs 1), .int (xs 2), .int (xs 3), .int (xs 4), .int (xs 5)]) (a := 66) (p' := 180) rfl rfl rfl ly_66 rfl rfl rfl rfl rfl rfl rfl (wl0_173 (d := d + 0) (hr_66_1 := hr_66_1) (hi_67_1 := hi_67_1) (hn_68 := hn_68) (hq := hq)) ?_
  refine ev_st (st' := [.int 20, .int 20]) rfl ?_
  refine ev_b2 (t := 615) (p' := 615) rfl rfl rfl (by decide) ?_
  refine ev_x (i := .iinc 4 6) (len := 3) (p' := 618) (s' := []) (l' := [(4, .int 6), (3, .ref 187), (2, .ref 66), (1, .ref 1), (0, .ref 0)]) rfl rfl rfl ?_
  refine ev_x (i := .goto (-595)) (len := 3) (p' := 23) (s' := []) rfl rfl rfl ?_
  refine ev_x (i := .iload 4) (len := 2) (p' := 25) (s' := [.int 6]) rfl rfl rfl ?_
  refine ev_x (i := .aload_n 0) (len := 1) (p' := 26) (s' := [.ref 0, .int 6]) rfl rfl rfl ?_
  refine ev_sl (p' := 27) rfl rfl hs rfl ?_
  refine ev_x (i := .bipush 6) (len := 2) (p' := 29) (s' := [.int 6, .int (Int32.ofNat L), .int 6]) rfl rfl rfl ?_
  refine ev_x (i := .isub) (len := 1) (p' := 30) (s' := [.int ((Int32.ofNat L) - 6), .int 6]) rfl rfl rfl ?_
  refine ev_b2 (t := 621) (p' := 621) rfl rfl rfl (if_pos c_2) ?_
  refine ev_x (i := .iconst 1) (len := 1) (p' := 622) (s' := [.int 1]) rfl rfl rfl ?_
  exact ev_iret rfl rfl rfl rfl
