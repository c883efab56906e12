/-! the law, compile. Written by wip/prog/gen_p1.py -/
set_option maxHeartbeats 4000000 in
set_option maxRecDepth 100000 in
/-- GameText$Words.skipBlanks()V -/
theorem wl2_136 {d : Nat} {σ : st_S} (hi_2_2 : σ.1 2 2 = 0) (hi_2_1 : σ.1 2 1 = 0) : vz_ev P0 (d + 1) 18 0 (lv_args 0 [.ref 2]) [] (hp σ) (.inl none, hp (σ)) := by
  refine ev_x (i := .iconst 0) (len := 1) (p' := 1) (s' := [.int 0]) rfl rfl rfl ?_
  refine ev_x (i := .istore_n 1) (len := 1) (p' := 2) (s' := []) (l' := [(1, .int 0), (0, .ref 2)]) rfl rfl rfl ?_
  refine ev_x (i := .aload_n 0) (len := 1) (p' := 3) (s' := [.ref 2]) rfl rfl rfl ?_
  refine ev_gi (p' := 6) (v := 0) rfl rfl rfl ly_2 rfl rfl hi_2_2 ?_
  refine ev_x (i := .aload_n 0) (len := 1) (p' := 7) (s' := [.ref 2, .int 0]) rfl rfl rfl ?_
  refine ev_gi (p' := 10) (v := 0) rfl rfl rfl ly_2 rfl rfl hi_2_1 ?_
  refine ev_b2 (t := 91) (p' := 91) rfl rfl rfl (by decide) ?_
  exact ev_vret rfl rfl rfl
set_option maxHeartbeats 4000000 in
set_option maxRecDepth 100000 in
/-- GameText$Words.next()V -/
theorem wl2_137 {d : Nat} {σ : st_S} (hi_2_2 : σ.1 2 2 = 0) (hi_2_1 : σ.1 2 1 = 0) : vz_ev P0 (d + 2) 17 0 (lv_args 0 [.ref 2]) [] (hp σ) (.inl none, hp (st_i (st_i ((σ)) 2 4 0) 2 3 264)) := by
  refine ev_x (i := .aload_n 0) (len := 1) (p' := 1) (s' := [.ref 2]) rfl rfl rfl ?_
  refine ev_cv (d := d + 1) (As := []) (a := 2) (p' := 4) rfl rfl rfl ly_2 rfl rfl rfl rfl rfl rfl rfl (wl2_136 (d := d + 0) (hi_2_2 := hi_2_2) (hi_2_1 := hi_2_1)) ?_
  refine ev_st (st' := []) rfl ?_
  refine ev_x (i := .aload_n 0) (len := 1) (p' := 5) (s' := [.ref 2]) rfl rfl rfl ?_
  refine ev_x (i := .aload_n 0) (len := 1) (p' := 6) (s' := [.ref 2, .ref 2]) rfl rfl rfl ?_
  refine ev_gi (p' := 9) (v := 0) rfl rfl rfl ly_2 rfl rfl hi_2_2 ?_
  refine ev_pi (p' := 12) rfl rfl rfl ly_2 rfl rfl rfl rfl ?_
  refine ev_x (i := .aload_n 0) (len := 1) (p' := 13) (s' := [.ref 2]) rfl rfl rfl ?_
  refine ev_gi (p' := 16) (v := 0) rfl rfl rfl ly_2 rfl rfl hi_2_2 ?_
  refine ev_x (i := .aload_n 0) (len := 1) (p' := 17) (s' := [.ref 2, .int 0]) rfl rfl rfl ?_
  refine ev_gi (p' := 20) (v := 0) rfl rfl rfl ly_2 rfl rfl hi_2_1 ?_
  refine ev_b2 (t := 33) (p' := 23) rfl rfl rfl (by decide) ?_
  refine ev_x (i := .aload_n 0) (len := 1) (p' := 24) (s' := [.ref 2]) rfl rfl rfl ?_
  refine ev_x (i := .sipush 264) (len := 3) (p' := 27) (s' := [.int 264, .ref 2]) rfl rfl rfl ?_
  refine ev_pi (p' := 30) rfl rfl rfl ly_2 rfl rfl rfl rfl ?_
  refine ev_x (i := .goto 60) (len := 3) (p' := 90) (s' := []) rfl rfl rfl ?_
  exact ev_vret rfl rfl rfl
set_option maxHeartbeats 4000000 in
set_option maxRecDepth 100000 in
/-- GameText$Parser.reads(LGameText$Code;)Z -/
theorem wl2_138 {d : Nat} {σ : st_S} (hi_2_1 : σ.1 2 1 = 0) : vz_ev P0 (d + 3) 16 0 (lv_args 0 [.ref 36, .ref 21]) [] (hp σ) (.inl (some (.int 1)), hp (st_i (st_i (((st_i (st_i (st_i (st_r (σ) 36 7 21) 21 8 0) 2 2 0) 36 8 0))) 2 4 0) 2 3 264)) := by
  refine ev_x (i := .aload_n 0) (len := 1) (p' := 1) (s' := [.ref 36]) rfl rfl rfl ?_
  refine ev_x (i := .aload_n 1) (len := 1) (p' := 2) (s' := [.ref 21, .ref 36]) rfl rfl rfl ?_
  refine ev_pr (p' := 5) rfl rfl rfl ly_36 rfl rfl rfl rfl rfl ?_
  refine ev_x (i := .aload_n 0) (len := 1) (p' := 6) (s' := [.ref 36]) rfl rfl rfl ?_
  refine ev_gr (p' := 9) (v := 21) rfl rfl rfl ly_36 rfl rfl rfl ?_
  refine ev_x (i := .iconst 0) (len := 1) (p' := 10) (s' := [.int 0, .ref 21]) rfl rfl rfl ?_
  refine ev_pi (p' := 13) rfl rfl rfl ly_21 rfl rfl rfl rfl ?_
  refine ev_x (i := .aload_n 0) (len := 1) (p' := 14) (s' := [.ref 36]) rfl rfl rfl ?_
  refine ev_gc (p' := 17) (v := 2) rfl rfl rfl ly_36 rfl rfl ?_
  refine ev_x (i := .iconst 0) (len := 1) (p' := 18) (s' := [.int 0, .ref 2]) rfl rfl rfl ?_
  refine ev_pi (p' := 21) rfl rfl rfl ly_2 rfl rfl rfl rfl ?_
  refine ev_x (i := .aload_n 0) (len := 1) (p' := 22) (s' := [.ref 36]) rfl rfl rfl ?_
  refine ev_x (i := .iconst 0) (len := 1) (p' := 23) (s' := [.int 0, .ref 36]) rfl rfl rfl ?_
  refine ev_pi (p' := 26) rfl rfl rfl ly_36 rfl rfl rfl rfl ?_
  refine ev_x (i := .iconst 0) (len := 1) (p' := 27) (s' := [.int 0]) rfl rfl rfl ?_
  refine ev_x (i := .istore_n 2) (len := 1) (p' := 28) (s' := []) (l' := [(2, .int 0), (0, .ref 36), (1, .ref 21)]) rfl rfl rfl ?_
  refine ev_x (i := .iload_n 2) (len := 1) (p' := 29) (s' := [.int 0]) rfl rfl rfl ?_
  refine ev_x (i := .sipush 16384) (len := 3) (p' := 32) (s' := [.int 16384, .int 0]) rfl rfl rfl ?_
  refine ev_b2 (t := 151) (p' := 35) rfl rfl rfl (by decide) ?_
  refine ev_x (i := .aload_n 0) (len := 1) (p' := 36) (s' := [.ref 36]) rfl rfl rfl ?_
  refine ev_gc (p' := 39) (v := 2) rfl rfl rfl ly_36 rfl rfl ?_
  refine ev_cv (d := d + 2) (As := []) (a := 2) (p' := 42) rfl rfl rfl ly_2 rfl rfl rfl rfl rfl rfl rfl (wl2_137 (d := d + 0) (hi_2_2 := rfl) (hi_2_1 := hi_2_1)) ?_
  refine ev_st (st' := []) rfl ?_
  refine ev_x (i := .aload_n 0) (len := 1) (p' := 43) (s' := [.ref 36]) rfl rfl rfl ?_
  refine ev_gc (p' := 46) (v := 2) rfl rfl rfl ly_36 rfl rfl ?_
  refine ev_gi (p' := 49) (v := 264) rfl rfl rfl ly_2 rfl rfl rfl ?_
  refine ev_x (i := .sipush 264) (len := 3) (p' := 52) (s' := [.int 264, .int 264]) rfl rfl rfl ?_
  refine ev_b2 (t := 68) (p' := 55) rfl rfl rfl (by decide) ?_
  refine ev_x (i := .aload_n 0) (len := 1) (p' := 56) (s' := [.ref 36]) rfl rfl rfl ?_
  refine ev_gi (p' := 59) (v := 0) rfl rfl rfl ly_36 rfl rfl rfl ?_
  refine ev_b0 (t := 66) (p' := 62) rfl rfl rfl (by decide) ?_
  refine ev_x (i := .iconst 1) (len := 1) (p' := 63) (s' := [.int 1]) rfl rfl rfl ?_
  refine ev_x (i := .goto 4) (len := 3) (p' := 67) (s' := [.int 1]) rfl rfl rfl ?_
  exact ev_iret rfl rfl rfl rfl
set_option maxHeartbeats 4000000 in
set_option maxRecDepth 100000 in
/-- GameText$Text.clear()V -/
theorem wl2_139 {d : Nat} {σ : st_S}  : vz_ev P0 (d + 1) 54 0 (lv_args 0 [.ref 20]) [] (hp σ) (.inl none, hp (st_i (st_i (st_i (st_i (st_i (σ) 20 7 0) 20 8 0) 20 9 0) 20 10 0) 20 11 (-1))) := by
  refine ev_x (i := .aload_n 0) (len := 1) (p' := 1) (s' := [.ref 20]) rfl rfl rfl ?_
  refine ev_x (i := .iconst 0) (len := 1) (p' := 2) (s' := [.int 0, .ref 20]) rfl rfl rfl ?_
  refine ev_pi (p' := 5) rfl rfl rfl ly_20 rfl rfl rfl rfl ?_
  refine ev_x (i := .aload_n 0) (len := 1) (p' := 6) (s' := [.ref 20]) rfl rfl rfl ?_
  refine ev_x (i := .iconst 0) (len := 1) (p' := 7) (s' := [.int 0, .ref 20]) rfl rfl rfl ?_
  refine ev_pi (p' := 10) rfl rfl rfl ly_20 rfl rfl rfl rfl ?_
  refine ev_x (i := .aload_n 0) (len := 1) (p' := 11) (s' := [.ref 20]) rfl rfl rfl ?_
  refine ev_x (i := .iconst 0) (len := 1) (p' := 12) (s' := [.int 0, .ref 20]) rfl rfl rfl ?_
  refine ev_pi (p' := 15) rfl rfl rfl ly_20 rfl rfl rfl rfl ?_
  refine ev_x (i := .aload_n 0) (len := 1) (p' := 16) (s' := [.ref 20]) rfl rfl rfl ?_
  refine ev_x (i := .iconst 0) (len := 1) (p' := 17) (s' := [.int 0, .ref 20]) rfl rfl rfl ?_
  refine ev_pi (p' := 20) rfl rfl rfl ly_20 rfl rfl rfl rfl ?_
  refine ev_x (i := .aload_n 0) (len := 1) (p' := 21) (s' := [.ref 20]) rfl rfl rfl ?_
  refine ev_x (i := .iconst (-1)) (len := 1) (p' := 22) (s' := [.int (-1), .ref 20]) rfl rfl rfl ?_
  refine ev_pi (p' := 25) rfl rfl rfl ly_20 rfl rfl rfl rfl ?_
  exact ev_vret rfl rfl rfl
set_option maxHeartbeats 4000000 in
set_option maxRecDepth 100000 in
/-- GameText$Machine.load(LGameText$Text;)V -/
theorem wl2_140 {d : Nat} {σ : st_S} (hn_44 : (σ.2.2.2.1 44).1 = 60) : vz_ev P0 (d + 2) 55 0 (lv_args 0 [.ref 42, .ref 20]) [] (hp σ) (.inl none, hp (st_fl (st_i (st_r (st_r (σ) 42 3 20) 42 4 21) 42 5 1) 44 0)) := by
  refine ev_x (i := .aload_n 0) (len := 1) (p' := 1) (s' := [.ref 42]) rfl rfl rfl ?_
  refine ev_x (i := .aload_n 1) (len := 1) (p' := 2) (s' := [.ref 20, .ref 42]) rfl rfl rfl ?_
  refine ev_pr (p' := 5) rfl rfl rfl ly_42 rfl rfl rfl rfl rfl ?_
  refine ev_x (i := .aload_n 0) (len := 1) (p' := 6) (s' := [.ref 42]) rfl rfl rfl ?_
  refine ev_x (i := .aload_n 1) (len := 1) (p' := 7) (s' := [.ref 20, .ref 42]) rfl rfl rfl ?_
  refine ev_gc (p' := 10) (v := 21) rfl rfl rfl ly_20 rfl rfl ?_
  refine ev_pr (p' := 13) rfl rfl rfl ly_42 rfl rfl rfl rfl rfl ?_
  refine ev_x (i := .aload_n 0) (len := 1) (p' := 14) (s' := [.ref 42]) rfl rfl rfl ?_
  refine ev_x (i := .iconst 1) (len := 1) (p' := 15) (s' := [.int 1, .ref 42]) rfl rfl rfl ?_
  refine ev_pi (p' := 18) rfl rfl rfl ly_42 rfl rfl rfl rfl ?_
  refine ev_x (i := .aload_n 0) (len := 1) (p' := 19) (s' := [.ref 42]) rfl rfl rfl ?_
  refine ev_gc (p' := 22) (v := 44) rfl rfl rfl ly_42 rfl rfl ?_
  refine ev_x (i := .iconst 0) (len := 1) (p' := 23) (s' := [.int 0, .ref 44]) rfl rfl rfl ?_
  refine ev_callS (d := d + 1) (As := [.ref 44, .int 0]) rfl rfl rfl (by decide) rfl rfl rfl rfl rfl (fill_44 (d := d + 0) (hn_44 := hn_44)) ?_
  refine ev_st (st' := []) rfl ?_
  refine ev_pc (pc' := 26) rfl ?_
  exact ev_vret rfl rfl rfl
set_option maxHeartbeats 4000000 in
set_option maxRecDepth 100000 in
/-- GameText$Checker.fails(II)I -/
theorem wl2_141 {d : Nat} {σ : st_S}  : vz_ev P0 (d + 1) 61 0 (lv_args 0 [.ref 46, .int 10, .int 0]) [] (hp σ) (.inl (some (.int 10)), hp (st_i (σ) 46 4 0)) := by
  refine ev_x (i := .aload_n 0) (len := 1) (p' := 1) (s' := [.ref 46]) rfl rfl rfl ?_
  refine ev_x (i := .iload_n 2) (len := 1) (p' := 2) (s' := [.int 0, .ref 46]) rfl rfl rfl ?_
  refine ev_pi (p' := 5) rfl rfl rfl ly_46 rfl rfl rfl rfl ?_
  refine ev_x (i := .iload_n 1) (len := 1) (p' := 6) (s' := [.int 10]) rfl rfl rfl ?_
  exact ev_iret rfl rfl rfl rfl
set_option maxHeartbeats 4000000 in
set_option maxRecDepth 100000 in
/-- GameText$Checker.checks(LGameText$Text;)I -/
theorem wl2_142 {d : Nat} {σ : st_S} (hn_44 : (σ.2.2.2.1 44).1 = 60) (hi_21_8 : σ.1 21 8 = 0) (hi_2_1 : σ.1 2 1 = 0) : vz_ev P0 (d + 3) 53 0 (lv_args 0 [.ref 46, .ref 20]) [] (hp σ) (.inl (some (.int 10)), hp (st_i ((st_i (st_fl (st_i (st_r (st_r ((st_i (st_i (st_i (st_i (st_i (st_i ((st_r (st_r (σ) 46 2 20) 46 3 21)) 20 7 0) 20 8 0) 20 9 0) 20 10 0) 20 11 (-1)) 47 5 0)) 42 3 20) 42 4 21) 42 5 1) 44 0) 46 4 (-1))) 46 4 0)) := by
  refine ev_x (i := .aload_n 0) (len := 1) (p' := 1) (s' := [.ref 46]) rfl rfl rfl ?_
  refine ev_x (i := .aload_n 1) (len := 1) (p' := 2) (s' := [.ref 20, .ref 46]) rfl rfl rfl ?_
  refine ev_pr (p' := 5) rfl rfl rfl ly_46 rfl rfl rfl rfl rfl ?_
  refine ev_x (i := .aload_n 0) (len := 1) (p' := 6) (s' := [.ref 46]) rfl rfl rfl ?_
  refine ev_x (i := .aload_n 1) (len := 1) (p' := 7) (s' := [.ref 20, .ref 46]) rfl rfl rfl ?_
  refine ev_gc (p' := 10) (v := 21) rfl rfl rfl ly_20 rfl rfl ?_
  refine ev_pr (p' := 13) rfl rfl rfl ly_46 rfl rfl rfl rfl rfl ?_
  refine ev_x (i := .aload_n 0) (len := 1) (p' := 14) (s' := [.ref 46]) rfl rfl rfl ?_
  refine ev_gr (p' := 17) (v := 20) rfl rfl rfl ly_46 rfl rfl rfl ?_
  refine ev_cv (d := d + 2) (As := []) (a := 20) (p' := 20) rfl rfl rfl ly_20 rfl rfl rfl rfl rfl rfl rfl (wl2_139 (d := d + 1) ) ?_
  refine ev_st (st' := []) rfl ?_
  refine ev_x (i := .aload_n 0) (len := 1) (p' := 21) (s' := [.ref 46]) rfl rfl rfl ?_
  refine ev_gc (p' := 24) (v := 47) rfl rfl rfl ly_46 rfl rfl ?_
  refine ev_x (i := .iconst 0) (len := 1) (p' := 25) (s' := [.int 0, .ref 47]) rfl rfl rfl ?_
  refine ev_pi (p' := 28) rfl rfl rfl ly_47 rfl rfl rfl rfl ?_
  refine ev_x (i := .aload_n 0) (len := 1) (p' := 29) (s' := [.ref 46]) rfl rfl rfl ?_
  refine ev_gc (p' := 32) (v := 42) rfl rfl rfl ly_46 rfl rfl ?_
  refine ev_x (i := .aload_n 0) (len := 1) (p' := 33) (s' := [.ref 46, .ref 42]) rfl rfl rfl ?_
  refine ev_gr (p' := 36) (v := 20) rfl rfl rfl ly_46 rfl rfl rfl ?_
  refine ev_cv (d := d + 2) (As := [.ref 20]) (a := 42) (p' := 39) rfl rfl rfl ly_42 rfl rfl rfl rfl rfl rfl rfl (wl2_140 (d := d + 0) (hn_44 := hn_44)) ?_
  refine ev_st (st' := []) rfl ?_
  refine ev_x (i := .aload_n 0) (len := 1) (p' := 40) (s' := [.ref 46]) rfl rfl rfl ?_
  refine ev_x (i := .iconst (-1)) (len := 1) (p' := 41) (s' := [.int (-1), .ref 46]) rfl rfl rfl ?_
  refine ev_pi (p' := 44) rfl rfl rfl ly_46 rfl rfl rfl rfl ?_
  refine ev_x (i := .iconst 0) (len := 1) (p' := 45) (s' := [.int 0]) rfl rfl rfl ?_
  refine ev_x (i := .istore_n 2) (len := 1) (p' := 46) (s' := []) (l' := [(2, .int 0), (0, .ref 46), (1, .ref 20)]) rfl rfl rfl ?_
  refine ev_x (i := .iload_n 2) (len := 1) (p' := 47) (s' := [.int 0]) rfl rfl rfl ?_
  refine ev_x (i := .aload_n 0) (len := 1) (p' := 48) (s' := [.ref 46, .int 0]) rfl rfl rfl ?_
  refine ev_gr (p' := 51) (v := 21) rfl rfl rfl ly_46 rfl rfl rfl ?_
  refine ev_gi (p' := 54) (v := 0) rfl rfl rfl ly_21 rfl rfl hi_21_8 ?_
  refine ev_b2 (t := 120) (p' := 120) rfl rfl rfl (by decide) ?_
  refine ev_x (i := .aload_n 0) (len := 1) (p' := 121) (s' := [.ref 46]) rfl rfl rfl ?_
  refine ev_gr (p' := 124) (v := 20) rfl rfl rfl ly_46 rfl rfl rfl ?_
  refine ev_gi (p' := 127) (v := (-1)) rfl rfl rfl ly_20 rfl rfl rfl ?_
  refine ev_b0 (t := 149) (p' := 130) rfl rfl rfl (by decide) ?_
  refine ev_x (i := .aload_n 0) (len := 1) (p' := 131) (s' := [.ref 46]) rfl rfl rfl ?_
  refine ev_x (i := .bipush 10) (len := 2) (p' := 133) (s' := [.int 10, .ref 46]) rfl rfl rfl ?_
  refine ev_x (i := .aload_n 0) (len := 1) (p' := 134) (s' := [.ref 46, .int 10, .ref 46]) rfl rfl rfl ?_
  refine ev_gc (p' := 137) (v := 47) rfl rfl rfl ly_46 rfl rfl ?_
  refine ev_gc (p' := 140) (v := 2) rfl rfl rfl ly_47 rfl rfl ?_
  refine ev_gi (p' := 143) (v := 0) rfl rfl rfl ly_2 rfl rfl hi_2_1 ?_
  refine ev_cv (d := d + 2) (As := [.int 10, .int 0]) (a := 46) (p' := 146) rfl rfl rfl ly_46 rfl rfl rfl rfl rfl rfl rfl (wl2_141 (d := d + 1) ) ?_
  refine ev_st (st' := [.int 10]) rfl ?_
  refine ev_x (i := .goto 4) (len := 3) (p' := 150) (s' := [.int 10]) rfl rfl rfl ?_
  exact ev_iret rfl rfl rfl rfl
set_option maxHeartbeats 4000000 in
set_option maxRecDepth 100000 in
/-- GameText.compile()I -/
theorem wl2_143 {d : Nat} {σ : st_S} (hr_1_6 : σ.2.2.1 1 6 = 20) (hi_2_1 : σ.1 2 1 = 0) (hn_44 : (σ.2.2.2.1 44).1 = 60) : vz_ev P0 (d + 4) 15 0 (lv_args 0 [.ref 1]) [] (hp σ) (.inl (some (.int 10)), hp (st_i (st_i (st_i ((st_i (st_fl (st_i (st_r (st_r ((st_i (st_i (st_i (st_i (st_i (st_i ((st_r (st_r ((st_i (st_i (((st_i (st_i (st_i (st_r ((σ)) 36 7 21) 21 8 0) 2 2 0) 36 8 0))) 2 4 0) 2 3 264)) 46 2 20) 46 3 21)) 20 7 0) 20 8 0) 20 9 0) 20 10 0) 20 11 (-1)) 47 5 0)) 42 3 20) 42 4 21) 42 5 1) 44 0) 46 4 (-1))) 46 4 0) 1 9 0) 2 1 0)) := by
  refine ev_x (i := .iconst 0) (len := 1) (p' := 1) (s' := [.int 0]) rfl rfl rfl ?_
  refine ev_x (i := .istore_n 1) (len := 1) (p' := 2) (s' := []) (l' := [(1, .int 0), (0, .ref 1)]) rfl rfl rfl ?_
  refine ev_x (i := .aload_n 0) (len := 1) (p' := 3) (s' := [.ref 1]) rfl rfl rfl ?_
  refine ev_gc (p' := 6) (v := 36) rfl rfl rfl ly_1 rfl rfl ?_
  refine ev_x (i := .aload_n 0) (len := 1) (p' := 7) (s' := [.ref 1, .ref 36]) rfl rfl rfl ?_
  refine ev_gr (p' := 10) (v := 20) rfl rfl rfl ly_1 rfl rfl hr_1_6 ?_
  refine ev_gc (p' := 13) (v := 21) rfl rfl rfl ly_20 rfl rfl ?_
  refine ev_cv (d := d + 3) (As := [.ref 21]) (a := 36) (p' := 16) rfl rfl rfl ly_36 rfl rfl rfl rfl rfl rfl rfl (wl2_138 (d := d + 0) (hi_2_1 := hi_2_1)) ?_
  refine ev_st (st' := [.int 1]) rfl ?_
  refine ev_b0 (t := 45) (p' := 19) rfl rfl rfl (by decide) ?_
  refine ev_x (i := .aload_n 0) (len := 1) (p' := 20) (s' := [.ref 1]) rfl rfl rfl ?_
  refine ev_gc (p' := 23) (v := 46) rfl rfl rfl ly_1 rfl rfl ?_
  refine ev_x (i := .aload_n 0) (len := 1) (p' := 24) (s' := [.ref 1, .ref 46]) rfl rfl rfl ?_
  refine ev_gr (p' := 27) (v := 20) rfl rfl rfl ly_1 rfl rfl hr_1_6 ?_
  refine ev_cv (d := d + 3) (As := [.ref 20]) (a := 46) (p' := 30) rfl rfl rfl ly_46 rfl rfl rfl rfl rfl rfl rfl (wl2_142 (d := d + 0) (hn_44 := hn_44) (hi_21_8 := rfl) (hi_2_1 := hi_2_1)) ?_
  refine ev_st (st' := [.int 10]) rfl ?_
  refine ev_x (i := .istore_n 1) (len := 1) (p' := 31) (s' := []) (l' := [(1, .int 10), (0, .ref 1)]) rfl rfl rfl ?_
  refine ev_x (i := .aload_n 0) (len := 1) (p' := 32) (s' := [.ref 1]) rfl rfl rfl ?_
  refine ev_x (i := .aload_n 0) (len := 1) (p' := 33) (s' := [.ref 1, .ref 1]) rfl rfl rfl ?_
  refine ev_gc (p' := 36) (v := 46) rfl rfl rfl ly_1 rfl rfl ?_
  refine ev_gi (p' := 39) (v := 0) rfl rfl rfl ly_46 rfl rfl rfl ?_
  refine ev_pi (p' := 42) rfl rfl rfl ly_1 rfl rfl rfl rfl ?_
  refine ev_x (i := .goto 16) (len := 3) (p' := 58) (s' := []) rfl rfl rfl ?_
  refine ev_x (i := .aload_n 0) (len := 1) (p' := 59) (s' := [.ref 1]) rfl rfl rfl ?_
  refine ev_gc (p' := 62) (v := 2) rfl rfl rfl ly_1 rfl rfl ?_
  refine ev_x (i := .iconst 0) (len := 1) (p' := 63) (s' := [.int 0, .ref 2]) rfl rfl rfl ?_
  refine ev_pi (p' := 66) rfl rfl rfl ly_2 rfl rfl rfl rfl ?_
  refine ev_x (i := .iload_n 1) (len := 1) (p' := 67) (s' := [.int 10]) rfl rfl rfl ?_
  refine ev_b0 (t := 74) (p' := 74) rfl rfl rfl (by decide) ?_
  refine ev_x (i := .iload_n 1) (len := 1) (p' := 75) (s' := [.int 10]) rfl rfl rfl ?_
  exact ev_iret rfl rfl rfl rfl
set_option maxHeartbeats 4000000 in
set_option maxRecDepth 100000 in
/-- GameTextModel.skip(I)I -/
theorem wl2_144 {d : Nat} {σ : st_S} (hr_66_2 : σ.2.2.1 66 2 = 67) (hi_67_1 : σ.1 67 1 = 0) : vz_ev P0 (d + 1) 137 0 (lv_args 0 [.ref 66, .int 0]) [] (hp σ) (.inl (some (.int 0)), hp (σ)) := by
  refine ev_x (i := .iload_n 1) (len := 1) (p' := 1) (s' := [.int 0]) rfl rfl rfl ?_
  refine ev_x (i := .istore_n 2) (len := 1) (p' := 2) (s' := []) (l' := [(2, .int 0), (0, .ref 66), (1, .int 0)]) rfl rfl rfl ?_
  refine ev_x (i := .iload_n 2) (len := 1) (p' := 3) (s' := [.int 0]) rfl rfl rfl ?_
  refine ev_x (i := .aload_n 0) (len := 1) (p' := 4) (s' := [.ref 66, .int 0]) rfl rfl rfl ?_
  refine ev_gr (p' := 7) (v := 67) rfl rfl rfl ly_66 rfl rfl hr_66_2 ?_
  refine ev_gi (p' := 10) (v := 0) rfl rfl rfl ly_67 rfl rfl hi_67_1 ?_
  refine ev_b2 (t := 77) (p' := 77) rfl rfl rfl (by decide) ?_
  refine ev_x (i := .iload_n 2) (len := 1) (p' := 78) (s' := [.int 0]) rfl rfl rfl ?_
  exact ev_iret rfl rfl rfl rfl
set_option maxHeartbeats 4000000 in
set_option maxRecDepth 100000 in
/-- GameTextModel.word(III)V -/
theorem wl2_145 {d : Nat} {σ : st_S} (hi_71_1 : σ.1 71 1 = 0) (hn_72 : (σ.2.2.2.1 72).1 = 16) (hi_73_1 : σ.1 73 1 = 0) (hn_74 : (σ.2.2.2.1 74).1 = 16) (hi_75_1 : σ.1 75 1 = 0) (hn_76 : (σ.2.2.2.1 76).1 = 16) : vz_ev P0 (d + 2) 146 0 (lv_args 0 [.ref 66, .int 0, .int 0, .int 0]) [] (hp σ) (.inl none, hp (st_i (st_e (st_i (st_e (st_i (st_e (σ) 72 0 0) 71 1 (nI (0 + 1))) 74 0 0) 73 1 (nI (0 + 1))) 76 0 0) 75 1 (nI (0 + 1)))) := by
  refine ev_x (i := .aload_n 0) (len := 1) (p' := 1) (s' := [.ref 66]) rfl rfl rfl ?_
  refine ev_gc (p' := 4) (v := 71) rfl rfl rfl ly_66 rfl rfl ?_
  refine ev_x (i := .iload_n 1) (len := 1) (p' := 5) (s' := [.int 0, .ref 71]) rfl rfl rfl ?_
  refine ev_cv (d := d + 1) (As := [.int 0]) (a := 71) (p' := 8) rfl rfl rfl ly_71 rfl rfl rfl rfl rfl rfl rfl (add_n_71 (n := 0) (m := 16) (v := 0) (hm := by decide) (h := by decide) (d := d + 0) (hi_71_1 := hi_71_1) (hn_72 := hn_72)) ?_
  refine ev_st (st' := []) rfl ?_
  refine ev_x (i := .aload_n 0) (len := 1) (p' := 9) (s' := [.ref 66]) rfl rfl rfl ?_
  refine ev_gc (p' := 12) (v := 73) rfl rfl rfl ly_66 rfl rfl ?_
  refine ev_x (i := .iload_n 2) (len := 1) (p' := 13) (s' := [.int 0, .ref 73]) rfl rfl rfl ?_
  refine ev_cv (d := d + 1) (As := [.int 0]) (a := 73) (p' := 16) rfl rfl rfl ly_73 rfl rfl rfl rfl rfl rfl rfl (add_n_73 (n := 0) (m := 16) (v := 0) (hm := by decide) (h := by decide) (d := d + 0) (hi_73_1 := hi_73_1) (hn_74 := hn_74)) ?_
  refine ev_st (st' := []) rfl ?_
  refine ev_x (i := .aload_n 0) (len := 1) (p' := 17) (s' := [.ref 66]) rfl rfl rfl ?_
  refine ev_gc (p' := 20) (v := 75) rfl rfl rfl ly_66 rfl rfl ?_
  refine ev_x (i := .iload_n 3) (len := 1) (p' := 21) (s' := [.int 0, .ref 75]) rfl rfl rfl ?_
  refine ev_cv (d := d + 1) (As := [.int 0]) (a := 75) (p' := 24) rfl rfl rfl ly_75 rfl rfl rfl rfl rfl rfl rfl (add_n_75 (n := 0) (m := 16) (v := 0) (hm := by decide) (h := by decide) (d := d + 0) (hi_75_1 := hi_75_1) (hn_76 := hn_76)) ?_
  refine ev_st (st' := []) rfl ?_
  exact ev_vret rfl rfl rfl
set_option maxHeartbeats 4000000 in
set_option maxRecDepth 100000 in
/-- GameTextModel.cut()V -/
theorem wl2_146 {d : Nat} {σ : st_S} (hr_66_2 : σ.2.2.1 66 2 = 67) (hi_67_1 : σ.1 67 1 = 0) (hn_72 : (σ.2.2.2.1 72).1 = 16) (hn_74 : (σ.2.2.2.1 74).1 = 16) (hn_76 : (σ.2.2.2.1 76).1 = 16) : vz_ev P0 (d + 3) 136 0 (lv_args 0 [.ref 66]) [] (hp σ) (.inl none, hp (st_i (st_e (st_i (st_e (st_i (st_e (((st_i (st_i (st_i (σ) 71 1 0) 73 1 0) 75 1 0))) 72 0 0) 71 1 (nI (0 + 1))) 74 0 0) 73 1 (nI (0 + 1))) 76 0 0) 75 1 (nI (0 + 1)))) := by
  refine ev_x (i := .aload_n 0) (len := 1) (p' := 1) (s' := [.ref 66]) rfl rfl rfl ?_
  refine ev_gc (p' := 4) (v := 71) rfl rfl rfl ly_66 rfl rfl ?_
  refine ev_x (i := .iconst 0) (len := 1) (p' := 5) (s' := [.int 0, .ref 71]) rfl rfl rfl ?_
  refine ev_pi (p' := 8) rfl rfl rfl ly_71 rfl rfl rfl rfl ?_
  refine ev_x (i := .aload_n 0) (len := 1) (p' := 9) (s' := [.ref 66]) rfl rfl rfl ?_
  refine ev_gc (p' := 12) (v := 73) rfl rfl rfl ly_66 rfl rfl ?_
  refine ev_x (i := .iconst 0) (len := 1) (p' := 13) (s' := [.int 0, .ref 73]) rfl rfl rfl ?_
  refine ev_pi (p' := 16) rfl rfl rfl ly_73 rfl rfl rfl rfl ?_
  refine ev_x (i := .aload_n 0) (len := 1) (p' := 17) (s' := [.ref 66]) rfl rfl rfl ?_
  refine ev_gc (p' := 20) (v := 75) rfl rfl rfl ly_66 rfl rfl ?_
  refine ev_x (i := .iconst 0) (len := 1) (p' := 21) (s' := [.int 0, .ref 75]) rfl rfl rfl ?_
  refine ev_pi (p' := 24) rfl rfl rfl ly_75 rfl rfl rfl rfl ?_
  refine ev_x (i := .aload_n 0) (len := 1) (p' := 25) (s' := [.ref 66]) rfl rfl rfl ?_
  refine ev_x (i := .iconst 0) (len := 1) (p' := 26) (s' := [.int 0, .ref 66]) rfl rfl rfl ?_
  refine ev_cv (d := d + 2) (As := [.int 0]) (a := 66) (p' := 29) rfl rfl rfl ly_66 rfl rfl rfl rfl rfl rfl rfl (wl2_144 (d := d + 1) (hr_66_2 := hr_66_2) (hi_67_1 := hi_67_1)) ?_
  refine ev_st (st' := [.int 0]) rfl ?_
  refine ev_x (i := .istore_n 1) (len := 1) (p' := 30) (s' := []) (l' := [(1, .int 0), (0, .ref 66)]) rfl rfl rfl ?_
  refine ev_x (i := .iconst 1) (len := 1) (p' := 31) (s' := [.int 1]) rfl rfl rfl ?_
  refine ev_x (i := .istore_n 2) (len := 1) (p' := 32) (s' := []) (l' := [(2, .int 1), (1, .int 0), (0, .ref 66)]) rfl rfl rfl ?_
  refine ev_x (i := .iload_n 2) (len := 1) (p' := 33) (s' := [.int 1]) rfl rfl rfl ?_
  refine ev_b0 (t := 240) (p' := 36) rfl rfl rfl (by decide) ?_
  refine ev_x (i := .iload_n 1) (len := 1) (p' := 37) (s' := [.int 0]) rfl rfl rfl ?_
  refine ev_x (i := .aload_n 0) (len := 1) (p' := 38) (s' := [.ref 66, .int 0]) rfl rfl rfl ?_
  refine ev_gr (p' := 41) (v := 67) rfl rfl rfl ly_66 rfl rfl hr_66_2 ?_
  refine ev_gi (p' := 44) (v := 0) rfl rfl rfl ly_67 rfl rfl hi_67_1 ?_
  refine ev_b2 (t := 240) (p' := 240) rfl rfl rfl (by decide) ?_
  refine ev_x (i := .iload_n 2) (len := 1) (p' := 241) (s' := [.int 1]) rfl rfl rfl ?_
  refine ev_b0 (t := 263) (p' := 244) rfl rfl rfl (by decide) ?_
  refine ev_x (i := .aload_n 0) (len := 1) (p' := 245) (s' := [.ref 66]) rfl rfl rfl ?_
  refine ev_x (i := .iconst 0) (len := 1) (p' := 246) (s' := [.int 0, .ref 66]) rfl rfl rfl ?_
  refine ev_x (i := .aload_n 0) (len := 1) (p' := 247) (s' := [.ref 66, .int 0, .ref 66]) rfl rfl rfl ?_
  refine ev_gr (p' := 250) (v := 67) rfl rfl rfl ly_66 rfl rfl hr_66_2 ?_
  refine ev_gi (p' := 253) (v := 0) rfl rfl rfl ly_67 rfl rfl hi_67_1 ?_
  refine ev_x (i := .aload_n 0) (len := 1) (p' := 254) (s' := [.ref 66, .int 0, .int 0, .ref 66]) rfl rfl rfl ?_
  refine ev_gr (p' := 257) (v := 67) rfl rfl rfl ly_66 rfl rfl hr_66_2 ?_
  refine ev_gi (p' := 260) (v := 0) rfl rfl rfl ly_67 rfl rfl hi_67_1 ?_
  refine ev_cv (d := d + 2) (As := [.int 0, .int 0, .int 0]) (a := 66) (p' := 263) rfl rfl rfl ly_66 rfl rfl rfl rfl rfl rfl rfl (wl2_145 (d := d + 0) (hi_71_1 := rfl) (hn_72 := hn_72) (hi_73_1 := rfl) (hn_74 := hn_74) (hi_75_1 := rfl) (hn_76 := hn_76)) ?_
  refine ev_st (st' := []) rfl ?_
  exact ev_vret rfl rfl rfl
set_option maxHeartbeats 4000000 in
set_option maxRecDepth 100000 in
/-- GameTextModel$Numbers.take()I -/
theorem wl2_147 {d : Nat} {σ : st_S} (hi_77_1 : σ.1 77 1 = 1) (hn_78 : (σ.2.2.2.1 78).1 = 16) (he_78_0 : (σ.2.2.2.1 78).2 0 = 50) : vz_ev P0 (d + 1) 148 0 (lv_args 0 [.ref 77]) [] (hp σ) (.inl (some (.int 50)), hp (st_i (σ) 77 1 0)) := by
  refine ev_x (i := .aload_n 0) (len := 1) (p' := 1) (s' := [.ref 77]) rfl rfl rfl ?_
  refine ev_x (i := .aload_n 0) (len := 1) (p' := 2) (s' := [.ref 77, .ref 77]) rfl rfl rfl ?_
  refine ev_gi (p' := 5) (v := 1) rfl rfl rfl ly_77 rfl rfl hi_77_1 ?_
  refine ev_x (i := .iconst 1) (len := 1) (p' := 6) (s' := [.int 1, .int 1, .ref 77]) rfl rfl rfl ?_
  refine ev_x (i := .isub) (len := 1) (p' := 7) (s' := [.int 0, .ref 77]) rfl rfl rfl ?_
  refine ev_pi (p' := 10) rfl rfl rfl ly_77 rfl rfl rfl rfl ?_
  refine ev_x (i := .aload_n 0) (len := 1) (p' := 11) (s' := [.ref 77]) rfl rfl rfl ?_
  refine ev_gc (p' := 14) (v := 78) rfl rfl rfl ly_77 rfl rfl ?_
  refine ev_x (i := .aload_n 0) (len := 1) (p' := 15) (s' := [.ref 77, .ref 78]) rfl rfl rfl ?_
  refine ev_gi (p' := 18) (v := 0) rfl rfl rfl ly_77 rfl rfl rfl ?_
  refine ev_ga (p' := 19) (v := 50) rfl rfl ly_78 rfl (sp_in_of hn_78 rfl) he_78_0 ?_
  exact ev_iret rfl rfl rfl rfl
set_option maxHeartbeats 4000000 in
set_option maxRecDepth 100000 in
/-- GameTextModel$Numbers.at(I)I -/
theorem wl2_148 {d : Nat} {σ : st_S} (hn_72 : (σ.2.2.2.1 72).1 = 16) (he_72_0 : (σ.2.2.2.1 72).2 0 = 0) : vz_ev P0 (d + 1) 139 0 (lv_args 0 [.ref 71, .int 0]) [] (hp σ) (.inl (some (.int 0)), hp (σ)) := by
  refine ev_x (i := .aload_n 0) (len := 1) (p' := 1) (s' := [.ref 71]) rfl rfl rfl ?_
  refine ev_gc (p' := 4) (v := 72) rfl rfl rfl ly_71 rfl rfl ?_
  refine ev_x (i := .iload_n 1) (len := 1) (p' := 5) (s' := [.int 0, .ref 72]) rfl rfl rfl ?_
  refine ev_ga (p' := 6) (v := 0) rfl rfl ly_72 rfl (sp_in_of hn_72 rfl) he_72_0 ?_
  exact ev_iret rfl rfl rfl rfl
set_option maxHeartbeats 4000000 in
set_option maxRecDepth 100000 in
/-- GameTextModel.anItem(I)I -/
theorem wl2_149 {d : Nat} {σ : st_S}  : vz_ev P0 (d + 1) 150 0 (lv_args 0 [.ref 66, .int 0]) [] (hp σ) (.inl (some (.int 1)), hp (σ)) := by
  refine ev_x (i := .iload_n 1) (len := 1) (p' := 1) (s' := [.int 0]) rfl rfl rfl ?_
  refine ev_b0 (t := 6) (p' := 4) rfl rfl rfl (by decide) ?_
  refine ev_x (i := .iconst 1) (len := 1) (p' := 5) (s' := [.int 1]) rfl rfl rfl ?_
  exact ev_iret rfl rfl rfl rfl
set_option maxHeartbeats 4000000 in
set_option maxRecDepth 100000 in
/-- GameTextModel.item(II)I -/
theorem wl2_150 {d : Nat} {σ : st_S}  : vz_ev P0 (d + 2) 149 0 (lv_args 0 [.ref 66, .int 50, .int 0]) [] (hp σ) (.inl (some (.int 1)), hp ((σ))) := by
  refine ev_x (i := .iload_n 1) (len := 1) (p' := 1) (s' := [.int 50]) rfl rfl rfl ?_
  refine ev_ts (off := 59) (t := 60) rfl rfl (by decide) rfl ?_
  refine ev_x (i := .aload_n 0) (len := 1) (p' := 61) (s' := [.ref 66]) rfl rfl rfl ?_
  refine ev_x (i := .iload_n 2) (len := 1) (p' := 62) (s' := [.int 0, .ref 66]) rfl rfl rfl ?_
  refine ev_cv (d := d + 1) (As := [.int 0]) (a := 66) (p' := 65) rfl rfl rfl ly_66 rfl rfl rfl rfl rfl rfl rfl (wl2_149 (d := d + 0) ) ?_
  refine ev_st (st' := [.int 1]) rfl ?_
  exact ev_iret rfl rfl rfl rfl
set_option maxHeartbeats 4000000 in
set_option maxRecDepth 100000 in
/-- GameTextModel.readText()Z -/
theorem wl2_151 {d : Nat} {σ : st_S} (hn_78 : (σ.2.2.2.1 78).1 = 16) (hn_72 : (σ.2.2.2.1 72).1 = 16) (he_72_0 : (σ.2.2.2.1 72).2 0 = 0) : vz_ev P0 (d + 3) 147 0 (lv_args 0 [.ref 66]) [] (hp σ) (.inl (some (.int 1)), hp (st_i ((((st_i ((st_i (st_e (st_i (st_i (st_i (σ) 77 1 0) 66 7 0) 66 8 (-1)) 78 0 50) 77 1 (nI (0 + 1)))) 77 1 0)))) 66 8 (-1))) := by
  refine ev_x (i := .aload_n 0) (len := 1) (p' := 1) (s' := [.ref 66]) rfl rfl rfl ?_
  refine ev_gc (p' := 4) (v := 77) rfl rfl rfl ly_66 rfl rfl ?_
  refine ev_x (i := .iconst 0) (len := 1) (p' := 5) (s' := [.int 0, .ref 77]) rfl rfl rfl ?_
  refine ev_pi (p' := 8) rfl rfl rfl ly_77 rfl rfl rfl rfl ?_
  refine ev_x (i := .aload_n 0) (len := 1) (p' := 9) (s' := [.ref 66]) rfl rfl rfl ?_
  refine ev_x (i := .iconst 0) (len := 1) (p' := 10) (s' := [.int 0, .ref 66]) rfl rfl rfl ?_
  refine ev_pi (p' := 13) rfl rfl rfl ly_66 rfl rfl rfl rfl ?_
  refine ev_x (i := .aload_n 0) (len := 1) (p' := 14) (s' := [.ref 66]) rfl rfl rfl ?_
  refine ev_x (i := .iconst (-1)) (len := 1) (p' := 15) (s' := [.int (-1), .ref 66]) rfl rfl rfl ?_
  refine ev_pi (p' := 18) rfl rfl rfl ly_66 rfl rfl rfl rfl ?_
  refine ev_x (i := .aload_n 0) (len := 1) (p' := 19) (s' := [.ref 66]) rfl rfl rfl ?_
  refine ev_gc (p' := 22) (v := 77) rfl rfl rfl ly_66 rfl rfl ?_
  refine ev_x (i := .bipush 50) (len := 2) (p' := 24) (s' := [.int 50, .ref 77]) rfl rfl rfl ?_
  refine ev_cv (d := d + 2) (As := [.int 50]) (a := 77) (p' := 27) rfl rfl rfl ly_77 rfl rfl rfl rfl rfl rfl rfl (add_n_77 (n := 0) (m := 16) (v := 50) (hm := by decide) (h := by decide) (d := d + 1) (hi_77_1 := rfl) (hn_78 := hn_78)) ?_
  refine ev_st (st' := []) rfl ?_
  refine ev_x (i := .iconst 0) (len := 1) (p' := 28) (s' := [.int 0]) rfl rfl rfl ?_
  refine ev_x (i := .istore_n 1) (len := 1) (p' := 29) (s' := []) (l' := [(1, .int 0), (0, .ref 66)]) rfl rfl rfl ?_
  refine ev_x (i := .aload_n 0) (len := 1) (p' := 30) (s' := [.ref 66]) rfl rfl rfl ?_
  refine ev_gi (p' := 33) (v := (-1)) rfl rfl rfl ly_66 rfl rfl rfl ?_
  refine ev_b0 (t := 161) (p' := 36) rfl rfl rfl (by decide) ?_
  refine ev_x (i := .aload_n 0) (len := 1) (p' := 37) (s' := [.ref 66]) rfl rfl rfl ?_
  refine ev_gc (p' := 40) (v := 77) rfl rfl rfl ly_66 rfl rfl ?_
  refine ev_gi (p' := 43) (v := 1) rfl rfl rfl ly_77 rfl rfl rfl ?_
  refine ev_b0 (t := 161) (p' := 46) rfl rfl rfl (by decide) ?_
  refine ev_x (i := .aload_n 0) (len := 1) (p' := 47) (s' := [.ref 66]) rfl rfl rfl ?_
  refine ev_gc (p' := 50) (v := 77) rfl rfl rfl ly_66 rfl rfl ?_
  refine ev_cv (d := d + 2) (As := []) (a := 77) (p' := 53) rfl rfl rfl ly_77 rfl rfl rfl rfl rfl rfl rfl (wl2_147 (d := d + 1) (hi_77_1 := rfl) (hn_78 := hn_78) (he_78_0 := rfl)) ?_
  refine ev_st (st' := [.int 50]) rfl ?_
  refine ev_x (i := .istore_n 2) (len := 1) (p' := 54) (s' := []) (l' := [(2, .int 50), (1, .int 0), (0, .ref 66)]) rfl rfl rfl ?_
  refine ev_x (i := .aload_n 0) (len := 1) (p' := 55) (s' := [.ref 66]) rfl rfl rfl ?_
  refine ev_gc (p' := 58) (v := 71) rfl rfl rfl ly_66 rfl rfl ?_
  refine ev_x (i := .iload_n 1) (len := 1) (p' := 59) (s' := [.int 0, .ref 71]) rfl rfl rfl ?_
  refine ev_cv (d := d + 2) (As := [.int 0]) (a := 71) (p' := 62) rfl rfl rfl ly_71 rfl rfl rfl rfl rfl rfl rfl (wl2_148 (d := d + 1) (hn_72 := hn_72) (he_72_0 := he_72_0)) ?_
  refine ev_st (st' := [.int 0]) rfl ?_
  refine ev_x (i := .istore_n 3) (len := 1) (p' := 63) (s' := []) (l' := [(3, .int 0), (2, .int 50), (1, .int 0), (0, .ref 66)]) rfl rfl rfl ?_
  refine ev_x (i := .iload_n 2) (len := 1) (p' := 64) (s' := [.int 50]) rfl rfl rfl ?_
  refine ev_x (i := .bipush 75) (len := 2) (p' := 66) (s' := [.int 75, .int 50]) rfl rfl rfl ?_
  refine ev_b2 (t := 82) (p' := 82) rfl rfl rfl (by decide) ?_
  refine ev_x (i := .iload_n 2) (len := 1) (p' := 83) (s' := [.int 50]) rfl rfl rfl ?_
  refine ev_x (i := .bipush 50) (len := 2) (p' := 85) (s' := [.int 50, .int 50]) rfl rfl rfl ?_
  refine ev_b2 (t := 108) (p' := 108) rfl rfl rfl (by decide) ?_
  refine ev_x (i := .iload_n 2) (len := 1) (p' := 109) (s' := [.int 50]) rfl rfl rfl ?_
  refine ev_x (i := .bipush 61) (len := 2) (p' := 111) (s' := [.int 61, .int 50]) rfl rfl rfl ?_
  refine ev_b2 (t := 123) (p' := 114) rfl rfl rfl (by decide) ?_
  refine ev_x (i := .aload_n 0) (len := 1) (p' := 115) (s' := [.ref 66]) rfl rfl rfl ?_
  refine ev_x (i := .iload_n 2) (len := 1) (p' := 116) (s' := [.int 50, .ref 66]) rfl rfl rfl ?_
  refine ev_x (i := .iload_n 3) (len := 1) (p' := 117) (s' := [.int 0, .int 50, .ref 66]) rfl rfl rfl ?_
  refine ev_cv (d := d + 2) (As := [.int 50, .int 0]) (a := 66) (p' := 120) rfl rfl rfl ly_66 rfl rfl rfl rfl rfl rfl rfl (wl2_150 (d := d + 0) ) ?_
  refine ev_st (st' := [.int 1]) rfl ?_
  refine ev_x (i := .goto 9) (len := 3) (p' := 129) (s' := [.int 1]) rfl rfl rfl ?_
  refine ev_x (i := .istore 4) (len := 2) (p' := 131) (s' := []) (l' := [(4, .int 1), (3, .int 0), (2, .int 50), (1, .int 0), (0, .ref 66)]) rfl rfl rfl ?_
  refine ev_x (i := .aload_n 0) (len := 1) (p' := 132) (s' := [.ref 66]) rfl rfl rfl ?_
  refine ev_x (i := .iload 4) (len := 2) (p' := 134) (s' := [.int 1, .ref 66]) rfl rfl rfl ?_
  refine ev_b0 (t := 141) (p' := 141) rfl rfl rfl (by decide) ?_
  refine ev_x (i := .iconst (-1)) (len := 1) (p' := 142) (s' := [.int (-1), .ref 66]) rfl rfl rfl ?_
  refine ev_pi (p' := 145) rfl rfl rfl ly_66 rfl rfl rfl rfl ?_
  refine ev_x (i := .iload 4) (len := 2) (p' := 147) (s' := [.int 1]) rfl rfl rfl ?_
  refine ev_b0 (t := 156) (p' := 150) rfl rfl rfl (by decide) ?_
  refine ev_x (i := .iload_n 1) (len := 1) (p' := 151) (s' := [.int 0]) rfl rfl rfl ?_
  refine ev_x (i := .iconst 1) (len := 1) (p' := 152) (s' := [.int 1, .int 0]) rfl rfl rfl ?_
  refine ev_x (i := .iadd) (len := 1) (p' := 153) (s' := [.int 1]) rfl rfl rfl ?_
  refine ev_x (i := .goto 4) (len := 3) (p' := 157) (s' := [.int 1]) rfl rfl rfl ?_
  refine ev_x (i := .istore_n 1) (len := 1) (p' := 158) (s' := []) (l' := [(1, .int 1), (4, .int 1), (3, .int 0), (2, .int 50), (0, .ref 66)]) rfl rfl rfl ?_
  refine ev_x (i := .goto (-129)) (len := 3) (p' := 29) (s' := []) rfl rfl rfl ?_
  refine ev_x (i := .aload_n 0) (len := 1) (p' := 30) (s' := [.ref 66]) rfl rfl rfl ?_
  refine ev_gi (p' := 33) (v := (-1)) rfl rfl rfl ly_66 rfl rfl rfl ?_
  refine ev_b0 (t := 161) (p' := 36) rfl rfl rfl (by decide) ?_
  refine ev_x (i := .aload_n 0) (len := 1) (p' := 37) (s' := [.ref 66]) rfl rfl rfl ?_
  refine ev_gc (p' := 40) (v := 77) rfl rfl rfl ly_66 rfl rfl ?_
  refine ev_gi (p' := 43) (v := 0) rfl rfl rfl ly_77 rfl rfl rfl ?_
  refine ev_b0 (t := 161) (p' := 161) rfl rfl rfl (by decide) ?_
  refine ev_x (i := .aload_n 0) (len := 1) (p' := 162) (s' := [.ref 66]) rfl rfl rfl ?_
  refine ev_gi (p' := 165) (v := (-1)) rfl rfl rfl ly_66 rfl rfl rfl ?_
  refine ev_b0 (t := 172) (p' := 168) rfl rfl rfl (by decide) ?_
  refine ev_x (i := .iconst 1) (len := 1) (p' := 169) (s' := [.int 1]) rfl rfl rfl ?_
  refine ev_x (i := .goto 4) (len := 3) (p' := 173) (s' := [.int 1]) rfl rfl rfl ?_
  exact ev_iret rfl rfl rfl rfl
set_option maxHeartbeats 4000000 in
set_option maxRecDepth 100000 in
/-- GameTextModel$Game.clear()V -/
theorem wl2_152 {d : Nat} {σ : st_S}  : vz_ev P0 (d + 1) 161 0 (lv_args 0 [.ref 115]) [] (hp σ) (.inl none, hp (st_i (st_i (st_i (st_i (st_i (st_i (st_i (st_i (st_i (st_i (st_i (st_i (st_i (σ) 116 1 0) 118 1 0) 120 1 0) 122 1 0) 124 1 0) 126 1 0) 115 6 0) 115 12 0) 115 17 (-1)) 115 18 0) 145 1 0) 147 1 0) 149 1 0)) := by
  refine ev_x (i := .aload_n 0) (len := 1) (p' := 1) (s' := [.ref 115]) rfl rfl rfl ?_
  refine ev_gc (p' := 4) (v := 116) rfl rfl rfl ly_115 rfl rfl ?_
  refine ev_x (i := .iconst 0) (len := 1) (p' := 5) (s' := [.int 0, .ref 116]) rfl rfl rfl ?_
  refine ev_pi (p' := 8) rfl rfl rfl ly_116 rfl rfl rfl rfl ?_
  refine ev_x (i := .aload_n 0) (len := 1) (p' := 9) (s' := [.ref 115]) rfl rfl rfl ?_
  refine ev_gc (p' := 12) (v := 118) rfl rfl rfl ly_115 rfl rfl ?_
  refine ev_x (i := .iconst 0) (len := 1) (p' := 13) (s' := [.int 0, .ref 118]) rfl rfl rfl ?_
  refine ev_pi (p' := 16) rfl rfl rfl ly_118 rfl rfl rfl rfl ?_
  refine ev_x (i := .aload_n 0) (len := 1) (p' := 17) (s' := [.ref 115]) rfl rfl rfl ?_
  refine ev_gc (p' := 20) (v := 120) rfl rfl rfl ly_115 rfl rfl ?_
  refine ev_x (i := .iconst 0) (len := 1) (p' := 21) (s' := [.int 0, .ref 120]) rfl rfl rfl ?_
  refine ev_pi (p' := 24) rfl rfl rfl ly_120 rfl rfl rfl rfl ?_
  refine ev_x (i := .aload_n 0) (len := 1) (p' := 25) (s' := [.ref 115]) rfl rfl rfl ?_
  refine ev_gc (p' := 28) (v := 122) rfl rfl rfl ly_115 rfl rfl ?_
  refine ev_x (i := .iconst 0) (len := 1) (p' := 29) (s' := [.int 0, .ref 122]) rfl rfl rfl ?_
  refine ev_pi (p' := 32) rfl rfl rfl ly_122 rfl rfl rfl rfl ?_
  refine ev_x (i := .aload_n 0) (len := 1) (p' := 33) (s' := [.ref 115]) rfl rfl rfl ?_
  refine ev_gc (p' := 36) (v := 124) rfl rfl rfl ly_115 rfl rfl ?_
  refine ev_x (i := .iconst 0) (len := 1) (p' := 37) (s' := [.int 0, .ref 124]) rfl rfl rfl ?_
  refine ev_pi (p' := 40) rfl rfl rfl ly_124 rfl rfl rfl rfl ?_
  refine ev_x (i := .aload_n 0) (len := 1) (p' := 41) (s' := [.ref 115]) rfl rfl rfl ?_
  refine ev_gc (p' := 44) (v := 126) rfl rfl rfl ly_115 rfl rfl ?_
  refine ev_x (i := .iconst 0) (len := 1) (p' := 45) (s' := [.int 0, .ref 126]) rfl rfl rfl ?_
  refine ev_pi (p' := 48) rfl rfl rfl ly_126 rfl rfl rfl rfl ?_
  refine ev_x (i := .aload_n 0) (len := 1) (p' := 49) (s' := [.ref 115]) rfl rfl rfl ?_
  refine ev_x (i := .iconst 0) (len := 1) (p' := 50) (s' := [.int 0, .ref 115]) rfl rfl rfl ?_
  refine ev_pi (p' := 53) rfl rfl rfl ly_115 rfl rfl rfl rfl ?_
  refine ev_x (i := .aload_n 0) (len := 1) (p' := 54) (s' := [.ref 115]) rfl rfl rfl ?_
  refine ev_x (i := .iconst 0) (len := 1) (p' := 55) (s' := [.int 0, .ref 115]) rfl rfl rfl ?_
  refine ev_pi (p' := 58) rfl rfl rfl ly_115 rfl rfl rfl rfl ?_
  refine ev_x (i := .aload_n 0) (len := 1) (p' := 59) (s' := [.ref 115]) rfl rfl rfl ?_
  refine ev_x (i := .iconst (-1)) (len := 1) (p' := 60) (s' := [.int (-1), .ref 115]) rfl rfl rfl ?_
  refine ev_pi (p' := 63) rfl rfl rfl ly_115 rfl rfl rfl rfl ?_
  refine ev_x (i := .aload_n 0) (len := 1) (p' := 64) (s' := [.ref 115]) rfl rfl rfl ?_
  refine ev_x (i := .iconst 0) (len := 1) (p' := 65) (s' := [.int 0, .ref 115]) rfl rfl rfl ?_
  refine ev_pi (p' := 68) rfl rfl rfl ly_115 rfl rfl rfl rfl ?_
  refine ev_x (i := .aload_n 0) (len := 1) (p' := 69) (s' := [.ref 115]) rfl rfl rfl ?_
  refine ev_gc (p' := 72) (v := 145) rfl rfl rfl ly_115 rfl rfl ?_
  refine ev_x (i := .iconst 0) (len := 1) (p' := 73) (s' := [.int 0, .ref 145]) rfl rfl rfl ?_
  refine ev_pi (p' := 76) rfl rfl rfl ly_145 rfl rfl rfl rfl ?_
  refine ev_x (i := .aload_n 0) (len := 1) (p' := 77) (s' := [.ref 115]) rfl rfl rfl ?_
  refine ev_gc (p' := 80) (v := 147) rfl rfl rfl ly_115 rfl rfl ?_
  refine ev_x (i := .iconst 0) (len := 1) (p' := 81) (s' := [.int 0, .ref 147]) rfl rfl rfl ?_
  refine ev_pi (p' := 84) rfl rfl rfl ly_147 rfl rfl rfl rfl ?_
  refine ev_x (i := .aload_n 0) (len := 1) (p' := 85) (s' := [.ref 115]) rfl rfl rfl ?_
  refine ev_gc (p' := 88) (v := 149) rfl rfl rfl ly_115 rfl rfl ?_
  refine ev_x (i := .iconst 0) (len := 1) (p' := 89) (s' := [.int 0, .ref 149]) rfl rfl rfl ?_
  refine ev_pi (p' := 92) rfl rfl rfl ly_149 rfl rfl rfl rfl ?_
  exact ev_vret rfl rfl rfl
set_option maxHeartbeats 4000000 in
set_option maxRecDepth 100000 in
/-- GameTextModel$Numbers.at(I)I -/
theorem wl2_153 {d : Nat} {σ : st_S} (hn_72 : (σ.2.2.2.1 72).1 = 16) (he_72_0 : (σ.2.2.2.1 72).2 0 = 0) : vz_ev P0 (d + 1) 139 0 (lv_args 0 [.ref 71, .int 0]) [] (hp σ) (.inl (some (.int 0)), hp (σ)) := by
  refine ev_x (i := .aload_n 0) (len := 1) (p' := 1) (s' := [.ref 71]) rfl rfl rfl ?_
  refine ev_gc (p' := 4) (v := 72) rfl rfl rfl ly_71 rfl rfl ?_
  refine ev_x (i := .iload_n 1) (len := 1) (p' := 5) (s' := [.int 0, .ref 72]) rfl rfl rfl ?_
  refine ev_ga (p' := 6) (v := 0) rfl rfl ly_72 rfl (sp_in_of hn_72 rfl) he_72_0 ?_
  exact ev_iret rfl rfl rfl rfl
set_option maxHeartbeats 4000000 in
set_option maxRecDepth 100000 in
/-- GameTextModel.word(I)I -/
theorem wl2_154 {d : Nat} {σ : st_S} (hn_72 : (σ.2.2.2.1 72).1 = 16) (he_72_0 : (σ.2.2.2.1 72).2 0 = 0) : vz_ev P0 (d + 2) 162 0 (lv_args 0 [.ref 66, .int 0]) [] (hp σ) (.inl (some (.int 0)), hp ((σ))) := by
  refine ev_x (i := .aload_n 0) (len := 1) (p' := 1) (s' := [.ref 66]) rfl rfl rfl ?_
  refine ev_gc (p' := 4) (v := 71) rfl rfl rfl ly_66 rfl rfl ?_
  refine ev_x (i := .iload_n 1) (len := 1) (p' := 5) (s' := [.int 0, .ref 71]) rfl rfl rfl ?_
  refine ev_cv (d := d + 1) (As := [.int 0]) (a := 71) (p' := 8) rfl rfl rfl ly_71 rfl rfl rfl rfl rfl rfl rfl (wl2_153 (d := d + 0) (hn_72 := hn_72) (he_72_0 := he_72_0)) ?_
  refine ev_st (st' := [.int 0]) rfl ?_
  exact ev_iret rfl rfl rfl rfl
set_option maxHeartbeats 4000000 in
set_option maxRecDepth 100000 in
/-- GameTextModel$Numbers.at(I)I -/
theorem wl2_155 {d : Nat} {σ : st_S} (hn_74 : (σ.2.2.2.1 74).1 = 16) (he_74_0 : (σ.2.2.2.1 74).2 0 = 0) : vz_ev P0 (d + 1) 139 0 (lv_args 0 [.ref 73, .int 0]) [] (hp σ) (.inl (some (.int 0)), hp (σ)) := by
  refine ev_x (i := .aload_n 0) (len := 1) (p' := 1) (s' := [.ref 73]) rfl rfl rfl ?_
  refine ev_gc (p' := 4) (v := 74) rfl rfl rfl ly_73 rfl rfl ?_
  refine ev_x (i := .iload_n 1) (len := 1) (p' := 5) (s' := [.int 0, .ref 74]) rfl rfl rfl ?_
  refine ev_ga (p' := 6) (v := 0) rfl rfl ly_74 rfl (sp_in_of hn_74 rfl) he_74_0 ?_
  exact ev_iret rfl rfl rfl rfl
set_option maxHeartbeats 4000000 in
set_option maxRecDepth 100000 in
/-- GameTextModel.place(I)I -/
theorem wl2_156 {d : Nat} {σ : st_S} (hn_74 : (σ.2.2.2.1 74).1 = 16) (he_74_0 : (σ.2.2.2.1 74).2 0 = 0) : vz_ev P0 (d + 2) 159 0 (lv_args 0 [.ref 66, .int 0]) [] (hp σ) (.inl (some (.int 0)), hp ((σ))) := by
  refine ev_x (i := .aload_n 0) (len := 1) (p' := 1) (s' := [.ref 66]) rfl rfl rfl ?_
  refine ev_gc (p' := 4) (v := 73) rfl rfl rfl ly_66 rfl rfl ?_
  refine ev_x (i := .iload_n 1) (len := 1) (p' := 5) (s' := [.int 0, .ref 73]) rfl rfl rfl ?_
  refine ev_cv (d := d + 1) (As := [.int 0]) (a := 73) (p' := 8) rfl rfl rfl ly_73 rfl rfl rfl rfl rfl rfl rfl (wl2_155 (d := d + 0) (hn_74 := hn_74) (he_74_0 := he_74_0)) ?_
  refine ev_st (st' := [.int 0]) rfl ?_
  exact ev_iret rfl rfl rfl rfl
set_option maxHeartbeats 4000000 in
set_option maxRecDepth 100000 in
/-- GameTextModel.stop(II)V -/
theorem wl2_157 {d : Nat} {σ : st_S}  : vz_ev P0 (d + 1) 165 0 (lv_args 0 [.ref 66, .int 10, .int 0]) [] (hp σ) (.inl none, hp (st_i (st_i (σ) 66 16 10) 66 17 0)) := by
  refine ev_x (i := .aload_n 0) (len := 1) (p' := 1) (s' := [.ref 66]) rfl rfl rfl ?_
  refine ev_x (i := .iload_n 1) (len := 1) (p' := 2) (s' := [.int 10, .ref 66]) rfl rfl rfl ?_
  refine ev_pi (p' := 5) rfl rfl rfl ly_66 rfl rfl rfl rfl ?_
  refine ev_x (i := .aload_n 0) (len := 1) (p' := 6) (s' := [.ref 66]) rfl rfl rfl ?_
  refine ev_x (i := .iload_n 2) (len := 1) (p' := 7) (s' := [.int 0, .ref 66]) rfl rfl rfl ?_
  refine ev_pi (p' := 10) rfl rfl rfl ly_66 rfl rfl rfl rfl ?_
  exact ev_vret rfl rfl rfl
set_option maxHeartbeats 4000000 in
set_option maxRecDepth 100000 in
/-- GameTextModel.items()V -/
theorem wl2_158 {d : Nat} {σ : st_S} (hr_66_10 : σ.2.2.1 66 10 = 115) (hn_72 : (σ.2.2.2.1 72).1 = 16) (he_72_0 : (σ.2.2.2.1 72).2 0 = 0) (hn_74 : (σ.2.2.2.1 74).1 = 16) (he_74_0 : (σ.2.2.2.1 74).2 0 = 0) : vz_ev P0 (d + 3) 160 0 (lv_args 0 [.ref 66]) [] (hp σ) (.inl none, hp (st_i (st_i ((((((st_i (st_i (st_i (st_i (st_i (st_i (st_i (st_i (st_i (st_i (st_i (st_i (st_i (st_i (st_i (st_i (st_i ((σ)) 116 1 0) 118 1 0) 120 1 0) 122 1 0) 124 1 0) 126 1 0) 115 6 0) 115 12 0) 115 17 (-1)) 115 18 0) 145 1 0) 147 1 0) 149 1 0) 151 1 0) 153 1 0) 155 1 0) 66 16 0)))))) 66 16 10) 66 17 0)) := by
  refine ev_x (i := .aload_n 0) (len := 1) (p' := 1) (s' := [.ref 66]) rfl rfl rfl ?_
  refine ev_gr (p' := 4) (v := 115) rfl rfl rfl ly_66 rfl rfl hr_66_10 ?_
  refine ev_cv (d := d + 2) (As := []) (a := 115) (p' := 7) rfl rfl rfl ly_115 rfl rfl rfl rfl rfl rfl rfl (wl2_152 (d := d + 1) ) ?_
  refine ev_st (st' := []) rfl ?_
  refine ev_x (i := .aload_n 0) (len := 1) (p' := 8) (s' := [.ref 66]) rfl rfl rfl ?_
  refine ev_gc (p' := 11) (v := 151) rfl rfl rfl ly_66 rfl rfl ?_
  refine ev_x (i := .iconst 0) (len := 1) (p' := 12) (s' := [.int 0, .ref 151]) rfl rfl rfl ?_
  refine ev_pi (p' := 15) rfl rfl rfl ly_151 rfl rfl rfl rfl ?_
  refine ev_x (i := .aload_n 0) (len := 1) (p' := 16) (s' := [.ref 66]) rfl rfl rfl ?_
  refine ev_gc (p' := 19) (v := 153) rfl rfl rfl ly_66 rfl rfl ?_
  refine ev_x (i := .iconst 0) (len := 1) (p' := 20) (s' := [.int 0, .ref 153]) rfl rfl rfl ?_
  refine ev_pi (p' := 23) rfl rfl rfl ly_153 rfl rfl rfl rfl ?_
  refine ev_x (i := .aload_n 0) (len := 1) (p' := 24) (s' := [.ref 66]) rfl rfl rfl ?_
  refine ev_gc (p' := 27) (v := 155) rfl rfl rfl ly_66 rfl rfl ?_
  refine ev_x (i := .iconst 0) (len := 1) (p' := 28) (s' := [.int 0, .ref 155]) rfl rfl rfl ?_
  refine ev_pi (p' := 31) rfl rfl rfl ly_155 rfl rfl rfl rfl ?_
  refine ev_x (i := .aload_n 0) (len := 1) (p' := 32) (s' := [.ref 66]) rfl rfl rfl ?_
  refine ev_x (i := .iconst 0) (len := 1) (p' := 33) (s' := [.int 0, .ref 66]) rfl rfl rfl ?_
  refine ev_pi (p' := 36) rfl rfl rfl ly_66 rfl rfl rfl rfl ?_
  refine ev_x (i := .iconst 0) (len := 1) (p' := 37) (s' := [.int 0]) rfl rfl rfl ?_
  refine ev_x (i := .istore_n 1) (len := 1) (p' := 38) (s' := []) (l' := [(1, .int 0), (0, .ref 66)]) rfl rfl rfl ?_
  refine ev_x (i := .aload_n 0) (len := 1) (p' := 39) (s' := [.ref 66]) rfl rfl rfl ?_
  refine ev_gi (p' := 42) (v := 0) rfl rfl rfl ly_66 rfl rfl rfl ?_
  refine ev_b0 (t := 190) (p' := 45) rfl rfl rfl (by decide) ?_
  refine ev_x (i := .aload_n 0) (len := 1) (p' := 46) (s' := [.ref 66]) rfl rfl rfl ?_
  refine ev_x (i := .iload_n 1) (len := 1) (p' := 47) (s' := [.int 0, .ref 66]) rfl rfl rfl ?_
  refine ev_cv (d := d + 2) (As := [.int 0]) (a := 66) (p' := 50) rfl rfl rfl ly_66 rfl rfl rfl rfl rfl rfl rfl (wl2_154 (d := d + 0) (hn_72 := hn_72) (he_72_0 := he_72_0)) ?_
  refine ev_st (st' := [.int 0]) rfl ?_
  refine ev_b0 (t := 190) (p' := 190) rfl rfl rfl (by decide) ?_
  refine ev_x (i := .aload_n 0) (len := 1) (p' := 191) (s' := [.ref 66]) rfl rfl rfl ?_
  refine ev_gi (p' := 194) (v := 0) rfl rfl rfl ly_66 rfl rfl rfl ?_
  refine ev_b0 (t := 218) (p' := 197) rfl rfl rfl (by decide) ?_
  refine ev_x (i := .aload_n 0) (len := 1) (p' := 198) (s' := [.ref 66]) rfl rfl rfl ?_
  refine ev_gr (p' := 201) (v := 115) rfl rfl rfl ly_66 rfl rfl hr_66_10 ?_
  refine ev_gi (p' := 204) (v := (-1)) rfl rfl rfl ly_115 rfl rfl rfl ?_
  refine ev_b0 (t := 218) (p' := 207) rfl rfl rfl (by decide) ?_
  refine ev_x (i := .aload_n 0) (len := 1) (p' := 208) (s' := [.ref 66]) rfl rfl rfl ?_
  refine ev_x (i := .bipush 10) (len := 2) (p' := 210) (s' := [.int 10, .ref 66]) rfl rfl rfl ?_
  refine ev_x (i := .aload_n 0) (len := 1) (p' := 211) (s' := [.ref 66, .int 10, .ref 66]) rfl rfl rfl ?_
  refine ev_x (i := .iload_n 1) (len := 1) (p' := 212) (s' := [.int 0, .ref 66, .int 10, .ref 66]) rfl rfl rfl ?_
  refine ev_cv (d := d + 2) (As := [.int 0]) (a := 66) (p' := 215) rfl rfl rfl ly_66 rfl rfl rfl rfl rfl rfl rfl (wl2_156 (d := d + 0) (hn_74 := hn_74) (he_74_0 := he_74_0)) ?_
  refine ev_st (st' := [.int 0, .int 10, .ref 66]) rfl ?_
  refine ev_cv (d := d + 2) (As := [.int 10, .int 0]) (a := 66) (p' := 218) rfl rfl rfl ly_66 rfl rfl rfl rfl rfl rfl rfl (wl2_157 (d := d + 1) ) ?_
  refine ev_st (st' := []) rfl ?_
  exact ev_vret rfl rfl rfl
set_option maxHeartbeats 4000000 in
set_option maxRecDepth 100000 in
/-- GameTextModel.compile()I -/
theorem wl2_159 {d : Nat} {σ : st_S} (hr_66_2 : σ.2.2.1 66 2 = 69) (hr_66_1 : σ.2.2.1 66 1 = 67) (hi_67_1 : σ.1 67 1 = 0) (hn_72 : (σ.2.2.2.1 72).1 = 16) (hn_74 : (σ.2.2.2.1 74).1 = 16) (hn_76 : (σ.2.2.2.1 76).1 = 16) (hn_78 : (σ.2.2.2.1 78).1 = 16) (hr_66_10 : σ.2.2.1 66 10 = 115) : vz_ev P0 (d + 4) 135 0 (lv_args 0 [.ref 66]) [] (hp σ) (.inl (some (.int 10)), hp (st_i (st_i (st_i ((((((st_i (st_i (st_i (st_i (st_i (st_i (st_i (st_i (st_i (st_i (st_i (st_i (st_i (st_i (st_i (st_i (st_i (((st_i ((((st_i ((st_i (st_e (st_i (st_i (st_i ((st_i (st_e (st_i (st_e (st_i (st_e (((st_i (st_i (st_i ((st_i (st_r (st_r (st_i (σ) 66 0 0) 66 2 67) 66 1 69) 69 1 0)) 71 1 0) 73 1 0) 75 1 0))) 72 0 0) 71 1 (nI (0 + 1))) 74 0 0) 73 1 (nI (0 + 1))) 76 0 0) 75 1 (nI (0 + 1)))) 77 1 0) 66 7 0) 66 8 (-1)) 78 0 50) 77 1 (nI (0 + 1)))) 77 1 0)))) 66 8 (-1)))) 116 1 0) 118 1 0) 120 1 0) 122 1 0) 124 1 0) 126 1 0) 115 6 0) 115 12 0) 115 17 (-1)) 115 18 0) 145 1 0) 147 1 0) 149 1 0) 151 1 0) 153 1 0) 155 1 0) 66 16 0)))))) 66 16 10) 66 17 0) 66 12 0)) := by
  refine ev_x (i := .aload_n 0) (len := 1) (p' := 1) (s' := [.ref 66]) rfl rfl rfl ?_
  refine ev_x (i := .iconst 0) (len := 1) (p' := 2) (s' := [.int 0, .ref 66]) rfl rfl rfl ?_
  refine ev_pi (p' := 5) rfl rfl rfl ly_66 rfl rfl rfl rfl ?_
  refine ev_x (i := .aload_n 0) (len := 1) (p' := 6) (s' := [.ref 66]) rfl rfl rfl ?_
  refine ev_gr (p' := 9) (v := 69) rfl rfl rfl ly_66 rfl rfl hr_66_2 ?_
  refine ev_x (i := .astore_n 1) (len := 1) (p' := 10) (s' := []) (l' := [(1, .ref 69), (0, .ref 66)]) rfl rfl rfl ?_
  refine ev_x (i := .aload_n 0) (len := 1) (p' := 11) (s' := [.ref 66]) rfl rfl rfl ?_
  refine ev_x (i := .aload_n 0) (len := 1) (p' := 12) (s' := [.ref 66, .ref 66]) rfl rfl rfl ?_
  refine ev_gr (p' := 15) (v := 67) rfl rfl rfl ly_66 rfl rfl hr_66_1 ?_
  refine ev_pr (p' := 18) rfl rfl rfl ly_66 rfl rfl rfl rfl rfl ?_
  refine ev_x (i := .aload_n 0) (len := 1) (p' := 19) (s' := [.ref 66]) rfl rfl rfl ?_
  refine ev_x (i := .aload_n 1) (len := 1) (p' := 20) (s' := [.ref 69, .ref 66]) rfl rfl rfl ?_
  refine ev_pr (p' := 23) rfl rfl rfl ly_66 rfl rfl rfl rfl rfl ?_
  refine ev_x (i := .aload_n 0) (len := 1) (p' := 24) (s' := [.ref 66]) rfl rfl rfl ?_
  refine ev_gr (p' := 27) (v := 69) rfl rfl rfl ly_66 rfl rfl rfl ?_
  refine ev_x (i := .iconst 0) (len := 1) (p' := 28) (s' := [.int 0, .ref 69]) rfl rfl rfl ?_
  refine ev_pi (p' := 31) rfl rfl rfl ly_69 rfl rfl rfl rfl ?_
  refine ev_x (i := .aload_n 0) (len := 1) (p' := 32) (s' := [.ref 66]) rfl rfl rfl ?_
  refine ev_cv (d := d + 3) (As := []) (a := 66) (p' := 35) rfl rfl rfl ly_66 rfl rfl rfl rfl rfl rfl rfl (wl2_146 (d := d + 0) (hr_66_2 := rfl) (hi_67_1 := hi_67_1) (hn_72 := hn_72) (hn_74 := hn_74) (hn_76 := hn_76)) ?_
  refine ev_st (st' := []) rfl ?_
  refine ev_x (i := .aload_n 0) (len := 1) (p' := 36) (s' := [.ref 66]) rfl rfl rfl ?_
  refine ev_cv (d := d + 3) (As := []) (a := 66) (p' := 39) rfl rfl rfl ly_66 rfl rfl rfl rfl rfl rfl rfl (wl2_151 (d := d + 0) (hn_78 := hn_78) (hn_72 := hn_72) (he_72_0 := rfl)) ?_
  refine ev_st (st' := [.int 1]) rfl ?_
  refine ev_b0 (t := 56) (p' := 56) rfl rfl rfl (by decide) ?_
  refine ev_x (i := .aload_n 0) (len := 1) (p' := 57) (s' := [.ref 66]) rfl rfl rfl ?_
  refine ev_cv (d := d + 3) (As := []) (a := 66) (p' := 60) rfl rfl rfl ly_66 rfl rfl rfl rfl rfl rfl rfl (wl2_158 (d := d + 0) (hr_66_10 := hr_66_10) (hn_72 := hn_72) (he_72_0 := rfl) (hn_74 := hn_74) (he_74_0 := rfl)) ?_
  refine ev_st (st' := []) rfl ?_
  refine ev_x (i := .aload_n 0) (len := 1) (p' := 61) (s' := [.ref 66]) rfl rfl rfl ?_
  refine ev_gi (p' := 64) (v := 10) rfl rfl rfl ly_66 rfl rfl rfl ?_
  refine ev_b0 (t := 80) (p' := 67) rfl rfl rfl (by decide) ?_
  refine ev_x (i := .aload_n 0) (len := 1) (p' := 68) (s' := [.ref 66]) rfl rfl rfl ?_
  refine ev_x (i := .aload_n 0) (len := 1) (p' := 69) (s' := [.ref 66, .ref 66]) rfl rfl rfl ?_
  refine ev_gi (p' := 72) (v := 0) rfl rfl rfl ly_66 rfl rfl rfl ?_
  refine ev_pi (p' := 75) rfl rfl rfl ly_66 rfl rfl rfl rfl ?_
  refine ev_x (i := .aload_n 0) (len := 1) (p' := 76) (s' := [.ref 66]) rfl rfl rfl ?_
  refine ev_gi (p' := 79) (v := 10) rfl rfl rfl ly_66 rfl rfl rfl ?_
  exact ev_iret rfl rfl rfl rfl
set_option maxHeartbeats 4000000 in
set_option maxRecDepth 100000 in
/-- GameTextLaw.law([I)Z -/
theorem law_2 {d : Nat} {σ : st_S} {L : Nat} {xs : Nat → Int32} (hs : σ.2.2.2.2.2.2.1 0 = .inl (0, L, .inl xs)) (h6 : 6 ≤ L) (hr_1_6 : σ.2.2.1 1 6 = 20) (hi_2_1 : σ.1 2 1 = 0) (hn_44 : (σ.2.2.2.1 44).1 = 60) (hr_66_2 : σ.2.2.1 66 2 = 69) (hr_66_1 : σ.2.2.1 66 1 = 67) (hi_67_1 : σ.1 67 1 = 0) (hn_72 : (σ.2.2.2.1 72).1 = 16) (hn_74 : (σ.2.2.2.1 74).1 = 16) (hn_76 : (σ.2.2.2.1 76).1 = 16) (hn_78 : (σ.2.2.2.1 78).1 = 16) (hr_66_10 : σ.2.2.1 66 10 = 115) (c_1 : ¬ (((Int32.ofNat L) - 6) < 0)) (hx : ((xs 0) &&& 15) = 2) (c_2 : ((Int32.ofNat L) - 6) < 6) : vz_ev P0 (d + 5) 0 23 ([(4, .int 0), (3, .ref 187), (2, .ref 66), (1, .ref 1), (0, .ref 0)]) [] (hp σ) (.inl (some (.int 1)), hp (st_i (st_i (st_i ((((((st_i (st_i (st_i (st_i (st_i (st_i (st_i (st_i (st_i (st_i (st_i (st_i (st_i (st_i (st_i (st_i (st_i (((st_i ((((st_i ((st_i (st_e (st_i (st_i (st_i ((st_i (st_e (st_i (st_e (st_i (st_e (((st_i (st_i (st_i ((st_i (st_r (st_r (st_i ((st_i (st_i (st_i ((st_i (st_fl (st_i (st_r (st_r ((st_i (st_i (st_i (st_i (st_i (st_i ((st_r (st_r ((st_i (st_i (((st_i (st_i (st_i (st_r (((σ))) 36 7 21) 21 8 0) 2 2 0) 36 8 0))) 2 4 0) 2 3 264)) 46 2 20) 46 3 21)) 20 7 0) 20 8 0) 20 9 0) 20 10 0) 20 11 (-1)) 47 5 0)) 42 3 20) 42 4 21) 42 5 1) 44 0) 46 4 (-1))) 46 4 0) 1 9 0) 2 1 0)) 66 0 0) 66 2 67) 66 1 69) 69 1 0)) 71 1 0) 73 1 0) 75 1 0))) 72 0 0) 71 1 (nI (0 + 1))) 74 0 0) 73 1 (nI (0 + 1))) 76 0 0) 75 1 (nI (0 + 1)))) 77 1 0) 66 7 0) 66 8 (-1)) 78 0 50) 77 1 (nI (0 + 1)))) 77 1 0)))) 66 8 (-1)))) 116 1 0) 118 1 0) 120 1 0) 122 1 0) 124 1 0) 126 1 0) 115 6 0) 115 12 0) 115 17 (-1)) 115 18 0) 145 1 0) 147 1 0) 149 1 0) 151 1 0) 153 1 0) 155 1 0) 66 16 0)))))) 66 16 10) 66 17 0) 66 12 0)) := by
  refine ev_x (i := .iload 4) (len := 2) (p' := 25) (s' := [.int 0]) rfl rfl rfl ?_
  refine ev_x (i := .aload_n 0) (len := 1) (p' := 26) (s' := [.ref 0, .int 0]) rfl rfl rfl ?_
  refine ev_sl (p' := 27) rfl rfl hs rfl ?_
  refine ev_x (i := .bipush 6) (len := 2) (p' := 29) (s' := [.int 6, .int (Int32.ofNat L), .int 0]) rfl rfl rfl ?_
  refine ev_x (i := .isub) (len := 1) (p' := 30) (s' := [.int ((Int32.ofNat L) - 6), .int 0]) rfl rfl rfl ?_
  refine ev_b2 (t := 621) (p' := 33) rfl rfl rfl (if_neg c_1) ?_
  refine ev_x (i := .aload_n 0) (len := 1) (p' := 34) (s' := [.ref 0]) rfl rfl rfl ?_
  refine ev_x (i := .iload 4) (len := 2) (p' := 36) (s' := [.int 0, .ref 0]) rfl rfl rfl ?_
  refine ev_sg (p' := 37) rfl rfl hs (sp_in_L h6 rfl) rfl ?_
  refine ev_st (st' := [.int (xs 0)]) rfl ?_
  refine ev_x (i := .bipush 15) (len := 2) (p' := 39) (s' := [.int 15, .int (xs 0)]) rfl rfl rfl ?_
  refine ev_x (i := .iand) (len := 1) (p' := 40) (s' := [.int ((xs 0) &&& 15)]) rfl rfl rfl ?_
  refine ev_st (st' := [.int 2]) (congrArg (fun z => [Value.int z]) hx) ?_
  refine ev_ts (off := 201) (t := 241) rfl rfl (by decide) rfl ?_
  refine ev_x (i := .aload_n 1) (len := 1) (p' := 242) (s' := [.ref 1]) rfl rfl rfl ?_
  refine ev_cv (d := d + 4) (As := []) (a := 1) (p' := 245) rfl rfl rfl ly_1 rfl rfl rfl rfl rfl rfl rfl (wl2_143 (d := d + 0) (hr_1_6 := hr_1_6) (hi_2_1 := hi_2_1) (hn_44 := hn_44)) ?_
  refine ev_st (st' := [.int 10]) rfl ?_
  refine ev_x (i := .aload_n 2) (len := 1) (p' := 246) (s' := [.ref 66, .int 10]) rfl rfl rfl ?_
  refine ev_cv (d := d + 4) (As := []) (a := 66) (p' := 249) rfl rfl rfl ly_66 rfl rfl rfl rfl rfl rfl rfl (wl2_159 (d := d + 0) (hr_66_2 := hr_66_2) (hr_66_1 := hr_66_1) (hi_67_1 := hi_67_1) (hn_72 := hn_72) (hn_74 := hn_74) (hn_76 := hn_76) (hn_78 := hn_78) (hr_66_10 := hr_66_10)) ?_
  refine ev_st (st' := [.int 10, .int 10]) rfl ?_
  refine ev_b2 (t := 615) (p' := 615) rfl rfl rfl (by decide) ?_
  refine ev_x (i := .iinc 4 6) (len := 3) (p' := 618) (s' := []) (l' := [(4, .int 6), (3, .ref 187), (2, .ref 66), (1, .ref 1), (0, .ref 0)]) rfl rfl rfl ?_
  refine ev_x (i := .goto (-595)) (len := 3) (p' := 23) (s' := []) rfl rfl rfl ?_
  refine ev_x (i := .iload 4) (len := 2) (p' := 25) (s' := [.int 6]) rfl rfl rfl ?_
  refine ev_x (i := .aload_n 0) (len := 1) (p' := 26) (s' := [.ref 0, .int 6]) rfl rfl rfl ?_
  refine ev_sl (p' := 27) rfl rfl hs rfl ?_
  refine ev_x (i := .bipush 6) (len := 2) (p' := 29) (s' := [.int 6, .int (Int32.ofNat L), .int 6]) rfl rfl rfl ?_
  refine ev_x (i := .isub) (len := 1) (p' := 30) (s' := [.int ((Int32.ofNat L) - 6), .int 6]) rfl rfl rfl ?_
  refine ev_b2 (t := 621) (p' := 621) rfl rfl rfl (if_pos c_2) ?_
  refine ev_x (i := .iconst 1) (len := 1) (p' := 622) (s' := [.int 1]) rfl rfl rfl ?_
  exact ev_iret rfl rfl rfl rfl
