/-! the law, one call. Written by wip/prog/gen_p1.py -/
set_option maxHeartbeats 4000000 in
set_option maxRecDepth 100000 in
/-- GameTextLaw.law([I)Z -/
theorem law_short {d : Nat} {σ : st_S} {L : Nat} {xs : Nat → Int32} (hs : σ.2.2.2.2.2.2.1 0 = .inl (0, L, .inl xs)) (c_1 : ((Int32.ofNat L) - 6) < 0) : vz_ev P0 (d + 1) 0 23 ([(4, .int 0), (3, .ref 187), (2, .ref 66), (1, .ref 1), (0, .ref 0)]) [] (hp σ) (.inl (some (.int 1)), hp (σ)) := by
  refine ev_x (i := .iload 4) (len := 2) (p' := 25) (s' := [.int 0]) rfl rfl rfl ?_
  refine ev_x (i := .aload_n 0) (len := 1) (p' := 26) (s' := [.ref 0, .int 0]) rfl rfl rfl ?_
  refine ev_sl (p' := 27) rfl rfl hs rfl ?_
  refine ev_x (i := .bipush 6) (len := 2) (p' := 29) (s' := [.int 6, .int (Int32.ofNat L), .int 0]) rfl rfl rfl ?_
  refine ev_x (i := .isub) (len := 1) (p' := 30) (s' := [.int ((Int32.ofNat L) - 6), .int 0]) rfl rfl rfl ?_
  refine ev_b2 (t := 621) (p' := 621) rfl rfl rfl (if_pos c_1) ?_
  refine ev_x (i := .iconst 1) (len := 1) (p' := 622) (s' := [.int 1]) rfl rfl rfl ?_
  exact ev_iret rfl rfl rfl rfl
set_option maxHeartbeats 4000000 in
set_option maxRecDepth 100000 in
/-- GameText.place()I -/
theorem wl3_26 {d : Nat} {σ : st_S} (hi_1_9 : σ.1 1 9 = (-1)) : vz_ev P0 (d + 1) 92 0 (lv_args 0 [.ref 1]) [] (hp σ) (.inl (some (.int (-1))), hp (σ)) := by
  refine ev_x (i := .aload_n 0) (len := 1) (p' := 1) (s' := [.ref 1]) rfl rfl rfl ?_
  refine ev_gi (p' := 4) (v := (-1)) rfl rfl rfl ly_1 rfl rfl hi_1_9 ?_
  exact ev_iret rfl rfl rfl rfl
set_option maxHeartbeats 4000000 in
set_option maxRecDepth 100000 in
/-- GameTextModel.place()I -/
theorem wl3_27 {d : Nat} {σ : st_S} (hi_66_12 : σ.1 66 12 = (-1)) : vz_ev P0 (d + 1) 208 0 (lv_args 0 [.ref 66]) [] (hp σ) (.inl (some (.int (-1))), hp (st_i (σ) 66 0 0)) := by
  refine ev_x (i := .aload_n 0) (len := 1) (p' := 1) (s' := [.ref 66]) rfl rfl rfl ?_
  refine ev_x (i := .iconst 0) (len := 1) (p' := 2) (s' := [.int 0, .ref 66]) rfl rfl rfl ?_
  refine ev_pi (p' := 5) rfl rfl rfl ly_66 rfl rfl rfl rfl ?_
  refine ev_x (i := .aload_n 0) (len := 1) (p' := 6) (s' := [.ref 66]) rfl rfl rfl ?_
  refine ev_gi (p' := 9) (v := (-1)) rfl rfl rfl ly_66 rfl rfl hi_66_12 ?_
  exact ev_iret rfl rfl rfl rfl
set_option maxHeartbeats 4000000 in
set_option maxRecDepth 100000 in
/-- GameTextLaw.law([I)Z -/
theorem law_3 {d : Nat} {σ : st_S} {L : Nat} {xs : Nat → Int32} (hs : σ.2.2.2.2.2.2.1 0 = .inl (0, L, .inl xs)) (h6 : 6 ≤ L) (hi_1_9 : σ.1 1 9 = (-1)) (hi_66_12 : σ.1 66 12 = (-1)) (c_1 : ¬ (((Int32.ofNat L) - 6) < 0)) (hx : ((xs 0) &&& 15) = 3) (c_2 : ((Int32.ofNat L) - 6) < 6) : vz_ev P0 (d + 2) 0 23 ([(4, .int 0), (3, .ref 187), (2, .ref 66), (1, .ref 1), (0, .ref 0)]) [] (hp σ) (.inl (some (.int 1)), hp (st_i (((σ))) 66 0 0)) := by
  refine ev_x (i := .iload 4) (len := 2) (p' := 25) (s' := [.int 0]) rfl rfl rfl ?_
  refine ev_x (i := .aload_n 0) (len := 1) (p' := 26) (s' := [.ref 0, .int 0]) rfl rfl rfl ?_
  refine ev_sl (p' := 27) rfl rfl hs rfl ?_
  refine ev_x (i := .bipush 6) (len := 2) (p' := 29) (s' := [.int 6, .int (Int32.ofNat L), .int 0]) rfl rfl rfl ?_
  refine ev_x (i := .isub) (len := 1) (p' := 30) (s' := [.int ((Int32.ofNat L) - 6), .int 0]) rfl rfl rfl ?_
  refine ev_b2 (t := 621) (p' := 33) rfl rfl rfl (if_neg c_1) ?_
  refine ev_x (i := .aload_n 0) (len := 1) (p' := 34) (s' := [.ref 0]) rfl rfl rfl ?_
  refine ev_x (i := .iload 4) (len := 2) (p' := 36) (s' := [.int 0, .ref 0]) rfl rfl rfl ?_
  refine ev_sg (p' := 37) rfl rfl hs (sp_in_L h6 rfl) rfl ?_
  refine ev_st (st' := [.int (xs 0)]) rfl ?_
  refine ev_x (i := .bipush 15) (len := 2) (p' := 39) (s' := [.int 15, .int (xs 0)]) rfl rfl rfl ?_
  refine ev_x (i := .iand) (len := 1) (p' := 40) (s' := [.int ((xs 0) &&& 15)]) rfl rfl rfl ?_
  refine ev_st (st' := [.int 3]) (congrArg (fun z => [Value.int z]) hx) ?_
  refine ev_ts (off := 214) (t := 254) rfl rfl (by decide) rfl ?_
  refine ev_x (i := .aload_n 1) (len := 1) (p' := 255) (s' := [.ref 1]) rfl rfl rfl ?_
  refine ev_cv (d := d + 1) (As := []) (a := 1) (p' := 258) rfl rfl rfl ly_1 rfl rfl rfl rfl rfl rfl rfl (wl3_26 (d := d + 0) (hi_1_9 := hi_1_9)) ?_
  refine ev_st (st' := [.int (-1)]) rfl ?_
  refine ev_x (i := .aload_n 2) (len := 1) (p' := 259) (s' := [.ref 66, .int (-1)]) rfl rfl rfl ?_
  refine ev_cv (d := d + 1) (As := []) (a := 66) (p' := 262) rfl rfl rfl ly_66 rfl rfl rfl rfl rfl rfl rfl (wl3_27 (d := d + 0) (hi_66_12 := hi_66_12)) ?_
  refine ev_st (st' := [.int (-1), .int (-1)]) rfl ?_
  refine ev_b2 (t := 615) (p' := 615) rfl rfl rfl (by decide) ?_
  refine ev_x (i := .iinc 4 6) (len := 3) (p' := 618) (s' := []) (l' := [(4, .int 6), (3, .ref 187), (2, .ref 66), (1, .ref 1), (0, .ref 0)]) rfl rfl rfl ?_
  refine ev_x (i := .goto (-595)) (len := 3) (p' := 23) (s' := []) rfl rfl rfl ?_
  refine ev_x (i := .iload 4) (len := 2) (p' := 25) (s' := [.int 6]) rfl rfl rfl ?_
  refine ev_x (i := .aload_n 0) (len := 1) (p' := 26) (s' := [.ref 0, .int 6]) rfl rfl rfl ?_
  refine ev_sl (p' := 27) rfl rfl hs rfl ?_
  refine ev_x (i := .bipush 6) (len := 2) (p' := 29) (s' := [.int 6, .int (Int32.ofNat L), .int 6]) rfl rfl rfl ?_
  refine ev_x (i := .isub) (len := 1) (p' := 30) (s' := [.int ((Int32.ofNat L) - 6), .int 6]) rfl rfl rfl ?_
  refine ev_b2 (t := 621) (p' := 621) rfl rfl rfl (if_pos c_2) ?_
  refine ev_x (i := .iconst 1) (len := 1) (p' := 622) (s' := [.int 1]) rfl rfl rfl ?_
  exact ev_iret rfl rfl rfl rfl
set_option maxHeartbeats 4000000 in
set_option maxRecDepth 100000 in
/-- GameText.items(I)I -/
theorem wl4_29 {d : Nat} {σ : st_S} {xs : Nat → Int32} (hi_1_7 : σ.1 1 7 = 0) : vz_ev P0 (d + 1) 93 0 (lv_args 0 [.ref 1, .int (xs 1)]) [] (hp σ) (.inl (some (.int (-1))), hp (σ)) := by
  refine ev_x (i := .aload_n 0) (len := 1) (p' := 1) (s' := [.ref 1]) rfl rfl rfl ?_
  refine ev_gi (p' := 4) (v := 0) rfl rfl rfl ly_1 rfl rfl hi_1_7 ?_
  refine ev_b0 (t := 9) (p' := 7) rfl rfl rfl (by decide) ?_
  refine ev_x (i := .iconst (-1)) (len := 1) (p' := 8) (s' := [.int (-1)]) rfl rfl rfl ?_
  exact ev_iret rfl rfl rfl rfl
set_option maxHeartbeats 4000000 in
set_option maxRecDepth 100000 in
/-- GameTextModel.items(I)I -/
theorem wl4_30 {d : Nat} {σ : st_S} {xs : Nat → Int32} (hi_66_11 : σ.1 66 11 = 0) : vz_ev P0 (d + 1) 209 0 (lv_args 0 [.ref 66, .int (xs 1)]) [] (hp σ) (.inl (some (.int (-1))), hp (st_i (σ) 66 0 0)) := by
  refine ev_x (i := .aload_n 0) (len := 1) (p' := 1) (s' := [.ref 66]) rfl rfl rfl ?_
  refine ev_x (i := .iconst 0) (len := 1) (p' := 2) (s' := [.int 0, .ref 66]) rfl rfl rfl ?_
  refine ev_pi (p' := 5) rfl rfl rfl ly_66 rfl rfl rfl rfl ?_
  refine ev_x (i := .aload_n 0) (len := 1) (p' := 6) (s' := [.ref 66]) rfl rfl rfl ?_
  refine ev_gi (p' := 9) (v := 0) rfl rfl rfl ly_66 rfl rfl hi_66_11 ?_
  refine ev_b0 (t := 16) (p' := 12) rfl rfl rfl (by decide) ?_
  refine ev_x (i := .iconst (-1)) (len := 1) (p' := 13) (s' := [.int (-1)]) rfl rfl rfl ?_
  refine ev_x (i := .goto 48) (len := 3) (p' := 61) (s' := [.int (-1)]) rfl rfl rfl ?_
  exact ev_iret rfl rfl rfl rfl
set_option maxHeartbeats 4000000 in
set_option maxRecDepth 100000 in
/-- GameTextLaw.law([I)Z -/
theorem law_4 {d : Nat} {σ : st_S} {L : Nat} {xs : Nat → Int32} (hs : σ.2.2.2.2.2.2.1 0 = .inl (0, L, .inl xs)) (h6 : 6 ≤ L) (hi_1_7 : σ.1 1 7 = 0) (hi_66_11 : σ.1 66 11 = 0) (c_1 : ¬ (((Int32.ofNat L) - 6) < 0)) (hx : ((xs 0) &&& 15) = 4) (c_2 : ((Int32.ofNat L) - 6) < 6) : vz_ev P0 (d + 2) 0 23 ([(4, .int 0), (3, .ref 187), (2, .ref 66), (1, .ref 1), (0, .ref 0)]) [] (hp σ) (.inl (some (.int 1)), hp (st_i (((σ))) 66 0 0)) := by
  refine ev_x (i := .iload 4) (len := 2) (p' := 25) (s' := [.int 0]) rfl rfl rfl ?_
  refine ev_x (i := .aload_n 0) (len := 1) (p' := 26) (s' := [.ref 0, .int 0]) rfl rfl rfl ?_
  refine ev_sl (p' := 27) rfl rfl hs rfl ?_
  refine ev_x (i := .bipush 6) (len := 2) (p' := 29) (s' := [.int 6, .int (Int32.ofNat L), .int 0]) rfl rfl rfl ?_
  refine ev_x (i := .isub) (len := 1) (p' := 30) (s' := [.int ((Int32.ofNat L) - 6), .int 0]) rfl rfl rfl ?_
  refine ev_b2 (t := 621) (p' := 33) rfl rfl rfl (if_neg c_1) ?_
  refine ev_x (i := .aload_n 0) (len := 1) (p' := 34) (s' := [.ref 0]) rfl rfl rfl ?_
  refine ev_x (i := .iload 4) (len := 2) (p' := 36) (s' := [.int 0, .ref 0]) rfl rfl rfl ?_
  refine ev_sg (p' := 37) rfl rfl hs (sp_in_L h6 rfl) rfl ?_
  refine ev_st (st' := [.int (xs 0)]) rfl ?_
  refine ev_x (i := .bipush 15) (len := 2) (p' := 39) (s' := [.int 15, .int (xs 0)]) rfl rfl rfl ?_
  refine ev_x (i := .iand) (len := 1) (p' := 40) (s' := [.int ((xs 0) &&& 15)]) rfl rfl rfl ?_
  refine ev_st (st' := [.int 4]) (congrArg (fun z => [Value.int z]) hx) ?_
  refine ev_ts (off := 227) (t := 267) rfl rfl (by decide) rfl ?_
  refine ev_x (i := .aload_n 1) (len := 1) (p' := 268) (s' := [.ref 1]) rfl rfl rfl ?_
  refine ev_x (i := .aload_n 0) (len := 1) (p' := 269) (s' := [.ref 0, .ref 1]) rfl rfl rfl ?_
  refine ev_x (i := .iload 4) (len := 2) (p' := 271) (s' := [.int 0, .ref 0, .ref 1]) rfl rfl rfl ?_
  refine ev_x (i := .iconst 1) (len := 1) (p' := 272) (s' := [.int 1, .int 0, .ref 0, .ref 1]) rfl rfl rfl ?_
  refine ev_x (i := .iadd) (len := 1) (p' := 273) (s' := [.int 1, .ref 0, .ref 1]) rfl rfl rfl ?_
  refine ev_sg (p' := 274) rfl rfl hs (sp_in_L h6 rfl) rfl ?_
  refine ev_st (st' := [.int (xs 1), .ref 1]) rfl ?_
  refine ev_cv (d := d + 1) (As := [.int (xs 1)]) (a := 1) (p' := 277) rfl rfl rfl ly_1 rfl rfl rfl rfl rfl rfl rfl (wl4_29 (d := d + 0) (hi_1_7 := hi_1_7)) ?_
  refine ev_st (st' := [.int (-1)]) rfl ?_
  refine ev_x (i := .aload_n 2) (len := 1) (p' := 278) (s' := [.ref 66, .int (-1)]) rfl rfl rfl ?_
  refine ev_x (i := .aload_n 0) (len := 1) (p' := 279) (s' := [.ref 0, .ref 66, .int (-1)]) rfl rfl rfl ?_
  refine ev_x (i := .iload 4) (len := 2) (p' := 281) (s' := [.int 0, .ref 0, .ref 66, .int (-1)]) rfl rfl rfl ?_
  refine ev_x (i := .iconst 1) (len := 1) (p' := 282) (s' := [.int 1, .int 0, .ref 0, .ref 66, .int (-1)]) rfl rfl rfl ?_
  refine ev_x (i := .iadd) (len := 1) (p' := 283) (s' := [.int 1, .ref 0, .ref 66, .int (-1)]) rfl rfl rfl ?_
  refine ev_sg (p' := 284) rfl rfl hs (sp_in_L h6 rfl) rfl ?_
  refine ev_st (st' := [.int (xs 1), .ref 66, .int (-1)]) rfl ?_
  refine ev_cv (d := d + 1) (As := [.int (xs 1)]) (a := 66) (p' := 287) rfl rfl rfl ly_66 rfl rfl rfl rfl rfl rfl rfl (wl4_30 (d := d + 0) (hi_66_11 := hi_66_11)) ?_
  refine ev_st (st' := [.int (-1), .int (-1)]) rfl ?_
  refine ev_b2 (t := 615) (p' := 615) rfl rfl rfl (by decide) ?_
  refine ev_x (i := .iinc 4 6) (len := 3) (p' := 618) (s' := []) (l' := [(4, .int 6), (3, .ref 187), (2, .ref 66), (1, .ref 1), (0, .ref 0)]) rfl rfl rfl ?_
  refine ev_x (i := .goto (-595)) (len := 3) (p' := 23) (s' := []) rfl rfl rfl ?_
  refine ev_x (i := .iload 4) (len := 2) (p' := 25) (s' := [.int 6]) rfl rfl rfl ?_
  refine ev_x (i := .aload_n 0) (len := 1) (p' := 26) (s' := [.ref 0, .int 6]) rfl rfl rfl ?_
  refine ev_sl (p' := 27) rfl rfl hs rfl ?_
  refine ev_x (i := .bipush 6) (len := 2) (p' := 29) (s' := [.int 6, .int (Int32.ofNat L), .int 6]) rfl rfl rfl ?_
  refine ev_x (i := .isub) (len := 1) (p' := 30) (s' := [.int ((Int32.ofNat L) - 6), .int 6]) rfl rfl rfl ?_
  refine ev_b2 (t := 621) (p' := 621) rfl rfl rfl (if_pos c_2) ?_
  refine ev_x (i := .iconst 1) (len := 1) (p' := 622) (s' := [.int 1]) rfl rfl rfl ?_
  exact ev_iret rfl rfl rfl rfl
set_option maxHeartbeats 4000000 in
set_option maxRecDepth 100000 in
/-- GameText.explore()I -/
theorem wl5_32 {d : Nat} {σ : st_S} (hi_1_7 : σ.1 1 7 = 0) : vz_ev P0 (d + 8) 107 0 (lv_args 0 [.ref 1]) [] (hp σ) (.inr "java/lang/IllegalStateException", hp (st_n (σ) 1 6)) := by
  refine ev_x (i := .aload_n 0) (len := 1) (p' := 1) (s' := [.ref 1]) rfl rfl rfl ?_
  refine ev_gi (p' := 4) (v := 0) rfl rfl rfl ly_1 rfl rfl hi_1_7 ?_
  refine ev_b0 (t := 17) (p' := 7) rfl rfl rfl (by decide) ?_
  exact ev_thr rfl rfl rfl
set_option maxHeartbeats 4000000 in
set_option maxRecDepth 100000 in
/-- GameTextLaw.explore(LGameText;[J)I -/
theorem wl5_33 {d : Nat} {σ : st_S} (hi_1_7 : σ.1 1 7 = 0) : vz_ev P0 (d + 9) 106 0 (lv_args 0 [.ref 1, .ref 187]) [] (hp σ) (.inl (some (.int 1)), hp (st_n ((σ)) 1 6)) := by
  refine ev_x (i := .aload_n 1) (len := 1) (p' := 1) (s' := [.ref 187]) rfl rfl rfl ?_
  refine ev_x (i := .iconst 0) (len := 1) (p' := 2) (s' := [.int 0, .ref 187]) rfl rfl rfl ?_
  refine ev_x (i := .aload_n 0) (len := 1) (p' := 3) (s' := [.ref 1, .int 0, .ref 187]) rfl rfl rfl ?_
  refine ev_caught (d := d + 8) (As := []) (a := 1) (t := ("java/lang/IllegalStateException", 12, 2)) (E := "java/lang/IllegalStateException") rfl rfl rfl rfl (hp_obj _ ly_1) rfl rfl rfl rfl rfl rfl (beq_self_eq_true _) (wl5_32 (d := d + 0) (hi_1_7 := hi_1_7)) ?_
  refine ev_lv (lv' := [(0, .ref 1), (1, .ref 187)]) rfl ?_
  refine ev_pc (pc' := 12) rfl ?_
  refine ev_x (i := .iconst 1) (len := 1) (p' := 13) (s' := [.int 1]) rfl rfl rfl ?_
  exact ev_iret rfl rfl rfl rfl
set_option maxHeartbeats 4000000 in
set_option maxRecDepth 100000 in
/-- GameTextModel.explore()I -/
theorem wl5_34 {d : Nat} {σ : st_S} (hi_66_11 : σ.1 66 11 = 0) : vz_ev P0 (d + 1) 210 0 (lv_args 0 [.ref 66]) [] (hp σ) (.inl (some (.int 0)), hp (st_i (σ) 66 0 1)) := by
  refine ev_x (i := .aload_n 0) (len := 1) (p' := 1) (s' := [.ref 66]) rfl rfl rfl ?_
  refine ev_x (i := .aload_n 0) (len := 1) (p' := 2) (s' := [.ref 66, .ref 66]) rfl rfl rfl ?_
  refine ev_gi (p' := 5) (v := 0) rfl rfl rfl ly_66 rfl rfl hi_66_11 ?_
  refine ev_b0 (t := 12) (p' := 12) rfl rfl rfl (by decide) ?_
  refine ev_x (i := .iconst 1) (len := 1) (p' := 13) (s' := [.int 1, .ref 66]) rfl rfl rfl ?_
  refine ev_pi (p' := 16) rfl rfl rfl ly_66 rfl rfl rfl rfl ?_
  refine ev_x (i := .aload_n 0) (len := 1) (p' := 17) (s' := [.ref 66]) rfl rfl rfl ?_
  refine ev_gi (p' := 20) (v := 1) rfl rfl rfl ly_66 rfl rfl rfl ?_
  refine ev_b0 (t := 25) (p' := 23) rfl rfl rfl (by decide) ?_
  refine ev_x (i := .iconst 0) (len := 1) (p' := 24) (s' := [.int 0]) rfl rfl rfl ?_
  exact ev_iret rfl rfl rfl rfl
set_option maxHeartbeats 4000000 in
set_option maxRecDepth 100000 in
/-- GameTextModel.thrown()I -/
theorem wl5_35 {d : Nat} {σ : st_S} (hi_66_0 : σ.1 66 0 = 1) : vz_ev P0 (d + 1) 130 0 (lv_args 0 [.ref 66]) [] (hp σ) (.inl (some (.int 1)), hp (σ)) := by
  refine ev_x (i := .aload_n 0) (len := 1) (p' := 1) (s' := [.ref 66]) rfl rfl rfl ?_
  refine ev_gi (p' := 4) (v := 1) rfl rfl rfl ly_66 rfl rfl hi_66_0 ?_
  exact ev_iret rfl rfl rfl rfl
set_option maxHeartbeats 4000000 in
set_option maxRecDepth 100000 in
/-- GameTextLaw.law([I)Z -/
theorem law_5 {d : Nat} {σ : st_S} {L : Nat} {xs : Nat → Int32} (hs : σ.2.2.2.2.2.2.1 0 = .inl (0, L, .inl xs)) (h6 : 6 ≤ L) (hi_1_7 : σ.1 1 7 = 0) (hi_66_11 : σ.1 66 11 = 0) (c_1 : ¬ (((Int32.ofNat L) - 6) < 0)) (hx : ((xs 0) &&& 15) = 5) (c_2 : ((Int32.ofNat L) - 6) < 6) : vz_ev P0 (d + 10) 0 23 ([(4, .int 0), (3, .ref 187), (2, .ref 66), (1, .ref 1), (0, .ref 0)]) [] (hp σ) (.inl (some (.int 1)), hp ((st_i ((st_n (((σ))) 1 6)) 66 0 1))) := by
  refine ev_x (i := .iload 4) (len := 2) (p' := 25) (s' := [.int 0]) rfl rfl rfl ?_
  refine ev_x (i := .aload_n 0) (len := 1) (p' := 26) (s' := [.ref 0, .int 0]) rfl rfl rfl ?_
  refine ev_sl (p' := 27) rfl rfl hs rfl ?_
  refine ev_x (i := .bipush 6) (len := 2) (p' := 29) (s' := [.int 6, .int (Int32.ofNat L), .int 0]) rfl rfl rfl ?_
  refine ev_x (i := .isub) (len := 1) (p' := 30) (s' := [.int ((Int32.ofNat L) - 6), .int 0]) rfl rfl rfl ?_
  refine ev_b2 (t := 621) (p' := 33) rfl rfl rfl (if_neg c_1) ?_
  refine ev_x (i := .aload_n 0) (len := 1) (p' := 34) (s' := [.ref 0]) rfl rfl rfl ?_
  refine ev_x (i := .iload 4) (len := 2) (p' := 36) (s' := [.int 0, .ref 0]) rfl rfl rfl ?_
  refine ev_sg (p' := 37) rfl rfl hs (sp_in_L h6 rfl) rfl ?_
  refine ev_st (st' := [.int (xs 0)]) rfl ?_
  refine ev_x (i := .bipush 15) (len := 2) (p' := 39) (s' := [.int 15, .int (xs 0)]) rfl rfl rfl ?_
  refine ev_x (i := .iand) (len := 1) (p' := 40) (s' := [.int ((xs 0) &&& 15)]) rfl rfl rfl ?_
  refine ev_st (st' := [.int 5]) (congrArg (fun z => [Value.int z]) hx) ?_
  refine ev_ts (off := 252) (t := 292) rfl rfl (by decide) rfl ?_
  refine ev_x (i := .aload_n 1) (len := 1) (p' := 293) (s' := [.ref 1]) rfl rfl rfl ?_
  refine ev_x (i := .aload_n 3) (len := 1) (p' := 294) (s' := [.ref 187, .ref 1]) rfl rfl rfl ?_
  refine ev_callS (d := d + 9) (As := [.ref 1, .ref 187]) rfl rfl rfl (by decide) rfl rfl rfl rfl rfl (wl5_33 (d := d + 0) (hi_1_7 := hi_1_7)) ?_
  refine ev_st (st' := [.int 1]) rfl ?_
  refine ev_pc (pc' := 297) rfl ?_
  refine ev_x (i := .istore 5) (len := 2) (p' := 299) (s' := []) (l' := [(5, .int 1), (4, .int 0), (3, .ref 187), (2, .ref 66), (1, .ref 1), (0, .ref 0)]) rfl rfl rfl ?_
  refine ev_x (i := .aload_n 2) (len := 1) (p' := 300) (s' := [.ref 66]) rfl rfl rfl ?_
  refine ev_cv (d := d + 9) (As := []) (a := 66) (p' := 303) rfl rfl rfl ly_66 rfl rfl rfl rfl rfl rfl rfl (wl5_34 (d := d + 8) (hi_66_11 := hi_66_11)) ?_
  refine ev_st (st' := [.int 0]) rfl ?_
  refine ev_x (i := .istore 6) (len := 2) (p' := 305) (s' := []) (l' := [(6, .int 0), (5, .int 1), (4, .int 0), (3, .ref 187), (2, .ref 66), (1, .ref 1), (0, .ref 0)]) rfl rfl rfl ?_
  refine ev_x (i := .aload_n 2) (len := 1) (p' := 306) (s' := [.ref 66]) rfl rfl rfl ?_
  refine ev_cv (d := d + 9) (As := []) (a := 66) (p' := 309) rfl rfl rfl ly_66 rfl rfl rfl rfl rfl rfl rfl (wl5_35 (d := d + 8) (hi_66_0 := rfl)) ?_
  refine ev_st (st' := [.int 1]) rfl ?_
  refine ev_x (i := .iload 5) (len := 2) (p' := 311) (s' := [.int 1, .int 1]) rfl rfl rfl ?_
  refine ev_b2 (t := 316) (p' := 316) rfl rfl rfl (by decide) ?_
  refine ev_x (i := .iload 5) (len := 2) (p' := 318) (s' := [.int 1]) rfl rfl rfl ?_
  refine ev_b0 (t := 333) (p' := 333) rfl rfl rfl (by decide) ?_
  refine ev_x (i := .goto 282) (len := 3) (p' := 615) (s' := []) rfl rfl rfl ?_
  refine ev_x (i := .iinc 4 6) (len := 3) (p' := 618) (s' := []) (l' := [(4, .int 6), (6, .int 0), (5, .int 1), (3, .ref 187), (2, .ref 66), (1, .ref 1), (0, .ref 0)]) rfl rfl rfl ?_
  refine ev_x (i := .goto (-595)) (len := 3) (p' := 23) (s' := []) rfl rfl rfl ?_
  refine ev_x (i := .iload 4) (len := 2) (p' := 25) (s' := [.int 6]) rfl rfl rfl ?_
  refine ev_x (i := .aload_n 0) (len := 1) (p' := 26) (s' := [.ref 0, .int 6]) rfl rfl rfl ?_
  refine ev_sl (p' := 27) rfl rfl hs rfl ?_
  refine ev_x (i := .bipush 6) (len := 2) (p' := 29) (s' := [.int 6, .int (Int32.ofNat L), .int 6]) rfl rfl rfl ?_
  refine ev_x (i := .isub) (len := 1) (p' := 30) (s' := [.int ((Int32.ofNat L) - 6), .int 6]) rfl rfl rfl ?_
  refine ev_b2 (t := 621) (p' := 621) rfl rfl rfl (if_pos c_2) ?_
  refine ev_x (i := .iconst 1) (len := 1) (p' := 622) (s' := [.int 1]) rfl rfl rfl ?_
  exact ev_iret rfl rfl rfl rfl
set_option maxHeartbeats 4000000 in
set_option maxRecDepth 100000 in
/-- GameText.state()I -/
theorem wl6_37 {d : Nat} {σ : st_S} (hi_62_9 : σ.1 62 9 = (-1)) : vz_ev P0 (d + 1) 94 0 (lv_args 0 [.ref 1]) [] (hp σ) (.inl (some (.int (-1))), hp (σ)) := by
  refine ev_x (i := .aload_n 0) (len := 1) (p' := 1) (s' := [.ref 1]) rfl rfl rfl ?_
  refine ev_gc (p' := 4) (v := 62) rfl rfl rfl ly_1 rfl rfl ?_
  refine ev_gi (p' := 7) (v := (-1)) rfl rfl rfl ly_62 rfl rfl hi_62_9 ?_
  exact ev_iret rfl rfl rfl rfl
set_option maxHeartbeats 4000000 in
set_option maxRecDepth 100000 in
/-- GameTextModel.state()I -/
theorem wl6_38 {d : Nat} {σ : st_S} (hi_66_30 : σ.1 66 30 = (-1)) : vz_ev P0 (d + 1) 220 0 (lv_args 0 [.ref 66]) [] (hp σ) (.inl (some (.int (-1))), hp (st_i (σ) 66 0 0)) := by
  refine ev_x (i := .aload_n 0) (len := 1) (p' := 1) (s' := [.ref 66]) rfl rfl rfl ?_
  refine ev_x (i := .iconst 0) (len := 1) (p' := 2) (s' := [.int 0, .ref 66]) rfl rfl rfl ?_
  refine ev_pi (p' := 5) rfl rfl rfl ly_66 rfl rfl rfl rfl ?_
  refine ev_x (i := .aload_n 0) (len := 1) (p' := 6) (s' := [.ref 66]) rfl rfl rfl ?_
  refine ev_gi (p' := 9) (v := (-1)) rfl rfl rfl ly_66 rfl rfl hi_66_30 ?_
  exact ev_iret rfl rfl rfl rfl
set_option maxHeartbeats 4000000 in
set_option maxRecDepth 100000 in
/-- GameTextLaw.law([I)Z -/
theorem law_6 {d : Nat} {σ : st_S} {L : Nat} {xs : Nat → Int32} (hs : σ.2.2.2.2.2.2.1 0 = .inl (0, L, .inl xs)) (h6 : 6 ≤ L) (hi_62_9 : σ.1 62 9 = (-1)) (hi_66_30 : σ.1 66 30 = (-1)) (c_1 : ¬ (((Int32.ofNat L) - 6) < 0)) (hx : ((xs 0) &&& 15) = 6) (c_2 : ((Int32.ofNat L) - 6) < 6) : vz_ev P0 (d + 2) 0 23 ([(4, .int 0), (3, .ref 187), (2, .ref 66), (1, .ref 1), (0, .ref 0)]) [] (hp σ) (.inl (some (.int 1)), hp (st_i (((σ))) 66 0 0)) := by
  refine ev_x (i := .iload 4) (len := 2) (p' := 25) (s' := [.int 0]) rfl rfl rfl ?_
  refine ev_x (i := .aload_n 0) (len := 1) (p' := 26) (s' := [.ref 0, .int 0]) rfl rfl rfl ?_
  refine ev_sl (p' := 27) rfl rfl hs rfl ?_
  refine ev_x (i := .bipush 6) (len := 2) (p' := 29) (s' := [.int 6, .int (Int32.ofNat L), .int 0]) rfl rfl rfl ?_
  refine ev_x (i := .isub) (len := 1) (p' := 30) (s' := [.int ((Int32.ofNat L) - 6), .int 0]) rfl rfl rfl ?_
  refine ev_b2 (t := 621) (p' := 33) rfl rfl rfl (if_neg c_1) ?_
  refine ev_x (i := .aload_n 0) (len := 1) (p' := 34) (s' := [.ref 0]) rfl rfl rfl ?_
  refine ev_x (i := .iload 4) (len := 2) (p' := 36) (s' := [.int 0, .ref 0]) rfl rfl rfl ?_
  refine ev_sg (p' := 37) rfl rfl hs (sp_in_L h6 rfl) rfl ?_
  refine ev_st (st' := [.int (xs 0)]) rfl ?_
  refine ev_x (i := .bipush 15) (len := 2) (p' := 39) (s' := [.int 15, .int (xs 0)]) rfl rfl rfl ?_
  refine ev_x (i := .iand) (len := 1) (p' := 40) (s' := [.int ((xs 0) &&& 15)]) rfl rfl rfl ?_
  refine ev_st (st' := [.int 6]) (congrArg (fun z => [Value.int z]) hx) ?_
  refine ev_ts (off := 296) (t := 336) rfl rfl (by decide) rfl ?_
  refine ev_x (i := .aload_n 1) (len := 1) (p' := 337) (s' := [.ref 1]) rfl rfl rfl ?_
  refine ev_cv (d := d + 1) (As := []) (a := 1) (p' := 340) rfl rfl rfl ly_1 rfl rfl rfl rfl rfl rfl rfl (wl6_37 (d := d + 0) (hi_62_9 := hi_62_9)) ?_
  refine ev_st (st' := [.int (-1)]) rfl ?_
  refine ev_x (i := .aload_n 2) (len := 1) (p' := 341) (s' := [.ref 66, .int (-1)]) rfl rfl rfl ?_
  refine ev_cv (d := d + 1) (As := []) (a := 66) (p' := 344) rfl rfl rfl ly_66 rfl rfl rfl rfl rfl rfl rfl (wl6_38 (d := d + 0) (hi_66_30 := hi_66_30)) ?_
  refine ev_st (st' := [.int (-1), .int (-1)]) rfl ?_
  refine ev_b2 (t := 615) (p' := 615) rfl rfl rfl (by decide) ?_
  refine ev_x (i := .iinc 4 6) (len := 3) (p' := 618) (s' := []) (l' := [(4, .int 6), (3, .ref 187), (2, .ref 66), (1, .ref 1), (0, .ref 0)]) rfl rfl rfl ?_
  refine ev_x (i := .goto (-595)) (len := 3) (p' := 23) (s' := []) rfl rfl rfl ?_
  refine ev_x (i := .iload 4) (len := 2) (p' := 25) (s' := [.int 6]) rfl rfl rfl ?_
  refine ev_x (i := .aload_n 0) (len := 1) (p' := 26) (s' := [.ref 0, .int 6]) rfl rfl rfl ?_
  refine ev_sl (p' := 27) rfl rfl hs rfl ?_
  refine ev_x (i := .bipush 6) (len := 2) (p' := 29) (s' := [.int 6, .int (Int32.ofNat L), .int 6]) rfl rfl rfl ?_
  refine ev_x (i := .isub) (len := 1) (p' := 30) (s' := [.int ((Int32.ofNat L) - 6), .int 6]) rfl rfl rfl ?_
  refine ev_b2 (t := 621) (p' := 621) rfl rfl rfl (if_pos c_2) ?_
  refine ev_x (i := .iconst 1) (len := 1) (p' := 622) (s' := [.int 1]) rfl rfl rfl ?_
  exact ev_iret rfl rfl rfl rfl
set_option maxHeartbeats 4000000 in
set_option maxRecDepth 100000 in
/-- GameText.states()I -/
theorem wl7_40 {d : Nat} {σ : st_S} (hi_52_10 : σ.1 52 10 = 0) : vz_ev P0 (d + 1) 95 0 (lv_args 0 [.ref 1]) [] (hp σ) (.inl (some (.int 0)), hp (σ)) := by
  refine ev_x (i := .aload_n 0) (len := 1) (p' := 1) (s' := [.ref 1]) rfl rfl rfl ?_
  refine ev_gc (p' := 4) (v := 52) rfl rfl rfl ly_1 rfl rfl ?_
  refine ev_gi (p' := 7) (v := 0) rfl rfl rfl ly_52 rfl rfl hi_52_10 ?_
  exact ev_iret rfl rfl rfl rfl
set_option maxHeartbeats 4000000 in
set_option maxRecDepth 100000 in
/-- GameTextModel.states()I -/
theorem wl7_41 {d : Nat} {σ : st_S} (hi_66_29 : σ.1 66 29 = 0) : vz_ev P0 (d + 1) 221 0 (lv_args 0 [.ref 66]) [] (hp σ) (.inl (some (.int 0)), hp (st_i (σ) 66 0 0)) := by
  refine ev_x (i := .aload_n 0) (len := 1) (p' := 1) (s' := [.ref 66]) rfl rfl rfl ?_
  refine ev_x (i := .iconst 0) (len := 1) (p' := 2) (s' := [.int 0, .ref 66]) rfl rfl rfl ?_
  refine ev_pi (p' := 5) rfl rfl rfl ly_66 rfl rfl rfl rfl ?_
  refine ev_x (i := .aload_n 0) (len := 1) (p' := 6) (s' := [.ref 66]) rfl rfl rfl ?_
  refine ev_gi (p' := 9) (v := 0) rfl rfl rfl ly_66 rfl rfl hi_66_29 ?_
  exact ev_iret rfl rfl rfl rfl
set_option maxHeartbeats 4000000 in
set_option maxRecDepth 100000 in
/-- GameTextLaw.law([I)Z -/
theorem law_7 {d : Nat} {σ : st_S} {L : Nat} {xs : Nat → Int32} (hs : σ.2.2.2.2.2.2.1 0 = .inl (0, L, .inl xs)) (h6 : 6 ≤ L) (hi_52_10 : σ.1 52 10 = 0) (hi_66_29 : σ.1 66 29 = 0) (c_1 : ¬ (((Int32.ofNat L) - 6) < 0)) (hx : ((xs 0) &&& 15) = 7) (c_2 : ((Int32.ofNat L) - 6) < 6) : vz_ev P0 (d + 2) 0 23 ([(4, .int 0), (3, .ref 187), (2, .ref 66), (1, .ref 1), (0, .ref 0)]) [] (hp σ) (.inl (some (.int 1)), hp (st_i (((σ))) 66 0 0)) := by
  refine ev_x (i := .iload 4) (len := 2) (p' := 25) (s' := [.int 0]) rfl rfl rfl ?_
  refine ev_x (i := .aload_n 0) (len := 1) (p' := 26) (s' := [.ref 0, .int 0]) rfl rfl rfl ?_
  refine ev_sl (p' := 27) rfl rfl hs rfl ?_
  refine ev_x (i := .bipush 6) (len := 2) (p' := 29) (s' := [.int 6, .int (Int32.ofNat L), .int 0]) rfl rfl rfl ?_
  refine ev_x (i := .isub) (len := 1) (p' := 30) (s' := [.int ((Int32.ofNat L) - 6), .int 0]) rfl rfl rfl ?_
  refine ev_b2 (t := 621) (p' := 33) rfl rfl rfl (if_neg c_1) ?_
  refine ev_x (i := .aload_n 0) (len := 1) (p' := 34) (s' := [.ref 0]) rfl rfl rfl ?_
  refine ev_x (i := .iload 4) (len := 2) (p' := 36) (s' := [.int 0, .ref 0]) rfl rfl rfl ?_
  refine ev_sg (p' := 37) rfl rfl hs (sp_in_L h6 rfl) rfl ?_
  refine ev_st (st' := [.int (xs 0)]) rfl ?_
  refine ev_x (i := .bipush 15) (len := 2) (p' := 39) (s' := [.int 15, .int (xs 0)]) rfl rfl rfl ?_
  refine ev_x (i := .iand) (len := 1) (p' := 40) (s' := [.int ((xs 0) &&& 15)]) rfl rfl rfl ?_
  refine ev_st (st' := [.int 7]) (congrArg (fun z => [Value.int z]) hx) ?_
  refine ev_ts (off := 309) (t := 349) rfl rfl (by decide) rfl ?_
  refine ev_x (i := .aload_n 1) (len := 1) (p' := 350) (s' := [.ref 1]) rfl rfl rfl ?_
  refine ev_cv (d := d + 1) (As := []) (a := 1) (p' := 353) rfl rfl rfl ly_1 rfl rfl rfl rfl rfl rfl rfl (wl7_40 (d := d + 0) (hi_52_10 := hi_52_10)) ?_
  refine ev_st (st' := [.int 0]) rfl ?_
  refine ev_x (i := .aload_n 2) (len := 1) (p' := 354) (s' := [.ref 66, .int 0]) rfl rfl rfl ?_
  refine ev_cv (d := d + 1) (As := []) (a := 66) (p' := 357) rfl rfl rfl ly_66 rfl rfl rfl rfl rfl rfl rfl (wl7_41 (d := d + 0) (hi_66_29 := hi_66_29)) ?_
  refine ev_st (st' := [.int 0, .int 0]) rfl ?_
  refine ev_b2 (t := 615) (p' := 615) rfl rfl rfl (by decide) ?_
  refine ev_x (i := .iinc 4 6) (len := 3) (p' := 618) (s' := []) (l' := [(4, .int 6), (3, .ref 187), (2, .ref 66), (1, .ref 1), (0, .ref 0)]) rfl rfl rfl ?_
  refine ev_x (i := .goto (-595)) (len := 3) (p' := 23) (s' := []) rfl rfl rfl ?_
  refine ev_x (i := .iload 4) (len := 2) (p' := 25) (s' := [.int 6]) rfl rfl rfl ?_
  refine ev_x (i := .aload_n 0) (len := 1) (p' := 26) (s' := [.ref 0, .int 6]) rfl rfl rfl ?_
  refine ev_sl (p' := 27) rfl rfl hs rfl ?_
  refine ev_x (i := .bipush 6) (len := 2) (p' := 29) (s' := [.int 6, .int (Int32.ofNat L), .int 6]) rfl rfl rfl ?_
  refine ev_x (i := .isub) (len := 1) (p' := 30) (s' := [.int ((Int32.ofNat L) - 6), .int 6]) rfl rfl rfl ?_
  refine ev_b2 (t := 621) (p' := 621) rfl rfl rfl (if_pos c_2) ?_
  refine ev_x (i := .iconst 1) (len := 1) (p' := 622) (s' := [.int 1]) rfl rfl rfl ?_
  exact ev_iret rfl rfl rfl rfl
set_option maxHeartbeats 4000000 in
set_option maxRecDepth 100000 in
/-- GameTextLaw.law([I)Z -/
theorem law_14 {d : Nat} {σ : st_S} {L : Nat} {xs : Nat → Int32} (hs : σ.2.2.2.2.2.2.1 0 = .inl (0, L, .inl xs)) (h6 : 6 ≤ L) (c_1 : ¬ (((Int32.ofNat L) - 6) < 0)) (hx : ((xs 0) &&& 15) = 14) (c_2 : ((Int32.ofNat L) - 6) < 6) : vz_ev P0 (d + 1) 0 23 ([(4, .int 0), (3, .ref 187), (2, .ref 66), (1, .ref 1), (0, .ref 0)]) [] (hp σ) (.inl (some (.int 1)), hp (σ)) := by
  refine ev_x (i := .iload 4) (len := 2) (p' := 25) (s' := [.int 0]) rfl rfl rfl ?_
  refine ev_x (i := .aload_n 0) (len := 1) (p' := 26) (s' := [.ref 0, .int 0]) rfl rfl rfl ?_
  refine ev_sl (p' := 27) rfl rfl hs rfl ?_
  refine ev_x (i := .bipush 6) (len := 2) (p' := 29) (s' := [.int 6, .int (Int32.ofNat L), .int 0]) rfl rfl rfl ?_
  refine ev_x (i := .isub) (len := 1) (p' := 30) (s' := [.int ((Int32.ofNat L) - 6), .int 0]) rfl rfl rfl ?_
  refine ev_b2 (t := 621) (p' := 33) rfl rfl rfl (if_neg c_1) ?_
  refine ev_x (i := .aload_n 0) (len := 1) (p' := 34) (s' := [.ref 0]) rfl rfl rfl ?_
  refine ev_x (i := .iload 4) (len := 2) (p' := 36) (s' := [.int 0, .ref 0]) rfl rfl rfl ?_
  refine ev_sg (p' := 37) rfl rfl hs (sp_in_L h6 rfl) rfl ?_
  refine ev_st (st' := [.int (xs 0)]) rfl ?_
  refine ev_x (i := .bipush 15) (len := 2) (p' := 39) (s' := [.int 15, .int (xs 0)]) rfl rfl rfl ?_
  refine ev_x (i := .iand) (len := 1) (p' := 40) (s' := [.int ((xs 0) &&& 15)]) rfl rfl rfl ?_
  refine ev_st (st' := [.int 14]) (congrArg (fun z => [Value.int z]) hx) ?_
  refine ev_ts (off := 575) (t := 615) rfl rfl (by decide) rfl ?_
  refine ev_x (i := .iinc 4 6) (len := 3) (p' := 618) (s' := []) (l' := [(4, .int 6), (3, .ref 187), (2, .ref 66), (1, .ref 1), (0, .ref 0)]) rfl rfl rfl ?_
  refine ev_x (i := .goto (-595)) (len := 3) (p' := 23) (s' := []) rfl rfl rfl ?_
  refine ev_x (i := .iload 4) (len := 2) (p' := 25) (s' := [.int 6]) rfl rfl rfl ?_
  refine ev_x (i := .aload_n 0) (len := 1) (p' := 26) (s' := [.ref 0, .int 6]) rfl rfl rfl ?_
  refine ev_sl (p' := 27) rfl rfl hs rfl ?_
  refine ev_x (i := .bipush 6) (len := 2) (p' := 29) (s' := [.int 6, .int (Int32.ofNat L), .int 6]) rfl rfl rfl ?_
  refine ev_x (i := .isub) (len := 1) (p' := 30) (s' := [.int ((Int32.ofNat L) - 6), .int 6]) rfl rfl rfl ?_
  refine ev_b2 (t := 621) (p' := 621) rfl rfl rfl (if_pos c_2) ?_
  refine ev_x (i := .iconst 1) (len := 1) (p' := 622) (s' := [.int 1]) rfl rfl rfl ?_
  exact ev_iret rfl rfl rfl rfl
set_option maxHeartbeats 4000000 in
set_option maxRecDepth 100000 in
/-- GameTextLaw.law([I)Z -/
theorem law_15 {d : Nat} {σ : st_S} {L : Nat} {xs : Nat → Int32} (hs : σ.2.2.2.2.2.2.1 0 = .inl (0, L, .inl xs)) (h6 : 6 ≤ L) (c_1 : ¬ (((Int32.ofNat L) - 6) < 0)) (hx : ((xs 0) &&& 15) = 15) (c_2 : ((Int32.ofNat L) - 6) < 6) : vz_ev P0 (d + 1) 0 23 ([(4, .int 0), (3, .ref 187), (2, .ref 66), (1, .ref 1), (0, .ref 0)]) [] (hp σ) (.inl (some (.int 1)), hp (σ)) := by
  refine ev_x (i := .iload 4) (len := 2) (p' := 25) (s' := [.int 0]) rfl rfl rfl ?_
  refine ev_x (i := .aload_n 0) (len := 1) (p' := 26) (s' := [.ref 0, .int 0]) rfl rfl rfl ?_
  refine ev_sl (p' := 27) rfl rfl hs rfl ?_
  refine ev_x (i := .bipush 6) (len := 2) (p' := 29) (s' := [.int 6, .int (Int32.ofNat L), .int 0]) rfl rfl rfl ?_
  refine ev_x (i := .isub) (len := 1) (p' := 30) (s' := [.int ((Int32.ofNat L) - 6), .int 0]) rfl rfl rfl ?_
  refine ev_b2 (t := 621) (p' := 33) rfl rfl rfl (if_neg c_1) ?_
  refine ev_x (i := .aload_n 0) (len := 1) (p' := 34) (s' := [.ref 0]) rfl rfl rfl ?_
  refine ev_x (i := .iload 4) (len := 2) (p' := 36) (s' := [.int 0, .ref 0]) rfl rfl rfl ?_
  refine ev_sg (p' := 37) rfl rfl hs (sp_in_L h6 rfl) rfl ?_
  refine ev_st (st' := [.int (xs 0)]) rfl ?_
  refine ev_x (i := .bipush 15) (len := 2) (p' := 39) (s' := [.int 15, .int (xs 0)]) rfl rfl rfl ?_
  refine ev_x (i := .iand) (len := 1) (p' := 40) (s' := [.int ((xs 0) &&& 15)]) rfl rfl rfl ?_
  refine ev_st (st' := [.int 15]) (congrArg (fun z => [Value.int z]) hx) ?_
  refine ev_ts (off := 575) (t := 615) rfl rfl (by decide) rfl ?_
  refine ev_x (i := .iinc 4 6) (len := 3) (p' := 618) (s' := []) (l' := [(4, .int 6), (3, .ref 187), (2, .ref 66), (1, .ref 1), (0, .ref 0)]) rfl rfl rfl ?_
  refine ev_x (i := .goto (-595)) (len := 3) (p' := 23) (s' := []) rfl rfl rfl ?_
  refine ev_x (i := .iload 4) (len := 2) (p' := 25) (s' := [.int 6]) rfl rfl rfl ?_
  refine ev_x (i := .aload_n 0) (len := 1) (p' := 26) (s' := [.ref 0, .int 6]) rfl rfl rfl ?_
  refine ev_sl (p' := 27) rfl rfl hs rfl ?_
  refine ev_x (i := .bipush 6) (len := 2) (p' := 29) (s' := [.int 6, .int (Int32.ofNat L), .int 6]) rfl rfl rfl ?_
  refine ev_x (i := .isub) (len := 1) (p' := 30) (s' := [.int ((Int32.ofNat L) - 6), .int 6]) rfl rfl rfl ?_
  refine ev_b2 (t := 621) (p' := 621) rfl rfl rfl (if_pos c_2) ?_
  refine ev_x (i := .iconst 1) (len := 1) (p' := 622) (s' := [.int 1]) rfl rfl rfl ?_
  exact ev_iret rfl rfl rfl rfl
set_option maxHeartbeats 4000000 in
set_option maxRecDepth 100000 in
/-- GameText.end(I)I -/
theorem wl1a_45 {d : Nat} {σ : st_S} {xs : Nat → Int32} (c_1 : (xs 1) < 0) : vz_ev P0 (d + 8) 105 0 (lv_args 0 [.ref 1, .int (xs 1)]) [] (hp σ) (.inr "java/lang/IllegalArgumentException", hp (st_n (σ) 1 6)) := by
  refine ev_x (i := .iload_n 1) (len := 1) (p' := 1) (s' := [.int (xs 1)]) rfl rfl rfl ?_
  refine ev_b0 (t := 10) (p' := 10) rfl rfl rfl (if_pos c_1) ?_
  exact ev_thr rfl rfl rfl
set_option maxHeartbeats 4000000 in
set_option maxRecDepth 100000 in
/-- GameTextLaw.end(LGameText;I[J)I -/
theorem wl1a_46 {d : Nat} {σ : st_S} {xs : Nat → Int32} (c_1 : (xs 1) < 0) : vz_ev P0 (d + 9) 104 0 (lv_args 0 [.ref 1, .int (xs 1), .ref 187]) [] (hp σ) (.inl (some (.int 1)), hp (st_n ((σ)) 1 6)) := by
  refine ev_x (i := .aload_n 2) (len := 1) (p' := 1) (s' := [.ref 187]) rfl rfl rfl ?_
  refine ev_x (i := .iconst 0) (len := 1) (p' := 2) (s' := [.int 0, .ref 187]) rfl rfl rfl ?_
  refine ev_x (i := .aload_n 0) (len := 1) (p' := 3) (s' := [.ref 1, .int 0, .ref 187]) rfl rfl rfl ?_
  refine ev_x (i := .iload_n 1) (len := 1) (p' := 4) (s' := [.int (xs 1), .ref 1, .int 0, .ref 187]) rfl rfl rfl ?_
  refine ev_caught (d := d + 8) (As := [.int (xs 1)]) (a := 1) (t := ("java/lang/IllegalArgumentException", 13, 3)) (E := "java/lang/IllegalArgumentException") rfl rfl rfl rfl (hp_obj _ ly_1) rfl rfl rfl rfl rfl rfl (beq_self_eq_true _) (wl1a_45 (d := d + 0) (c_1 := c_1)) ?_
  refine ev_lv (lv' := [(0, .ref 1), (1, .int (xs 1)), (2, .ref 187)]) rfl ?_
  refine ev_pc (pc' := 13) rfl ?_
  refine ev_x (i := .iconst 1) (len := 1) (p' := 14) (s' := [.int 1]) rfl rfl rfl ?_
  exact ev_iret rfl rfl rfl rfl
set_option maxHeartbeats 4000000 in
set_option maxRecDepth 100000 in
/-- GameTextModel.end(I)I -/
theorem wl1a_47 {d : Nat} {σ : st_S} {xs : Nat → Int32} (c_1 : (xs 1) < 0) : vz_ev P0 (d + 1) 134 0 (lv_args 0 [.ref 66, .int (xs 1)]) [] (hp σ) (.inl (some (.int 0)), hp (st_i (σ) 66 0 1)) := by
  refine ev_x (i := .aload_n 0) (len := 1) (p' := 1) (s' := [.ref 66]) rfl rfl rfl ?_
  refine ev_x (i := .iload_n 1) (len := 1) (p' := 2) (s' := [.int (xs 1), .ref 66]) rfl rfl rfl ?_
  refine ev_b0 (t := 23) (p' := 23) rfl rfl rfl (if_pos c_1) ?_
  refine ev_x (i := .iconst 1) (len := 1) (p' := 24) (s' := [.int 1, .ref 66]) rfl rfl rfl ?_
  refine ev_x (i := .goto 4) (len := 3) (p' := 28) (s' := [.int 1, .ref 66]) rfl rfl rfl ?_
  refine ev_pi (p' := 31) rfl rfl rfl ly_66 rfl rfl rfl rfl ?_
  refine ev_x (i := .aload_n 0) (len := 1) (p' := 32) (s' := [.ref 66]) rfl rfl rfl ?_
  refine ev_gi (p' := 35) (v := 1) rfl rfl rfl ly_66 rfl rfl rfl ?_
  refine ev_b0 (t := 40) (p' := 38) rfl rfl rfl (by decide) ?_
  refine ev_x (i := .iconst 0) (len := 1) (p' := 39) (s' := [.int 0]) rfl rfl rfl ?_
  exact ev_iret rfl rfl rfl rfl
set_option maxHeartbeats 4000000 in
set_option maxRecDepth 100000 in
/-- GameTextModel.thrown()I -/
theorem wl1a_48 {d : Nat} {σ : st_S} (hi_66_0 : σ.1 66 0 = 1) : vz_ev P0 (d + 1) 130 0 (lv_args 0 [.ref 66]) [] (hp σ) (.inl (some (.int 1)), hp (σ)) := by
  refine ev_x (i := .aload_n 0) (len := 1) (p' := 1) (s' := [.ref 66]) rfl rfl rfl ?_
  refine ev_gi (p' := 4) (v := 1) rfl rfl rfl ly_66 rfl rfl hi_66_0 ?_
  exact ev_iret rfl rfl rfl rfl
set_option maxHeartbeats 4000000 in
set_option maxRecDepth 100000 in
/-- GameTextLaw.law([I)Z -/
theorem law_1a {d : Nat} {σ : st_S} {L : Nat} {xs : Nat → Int32} (hs : σ.2.2.2.2.2.2.1 0 = .inl (0, L, .inl xs)) (h6 : 6 ≤ L) (c_1 : ¬ (((Int32.ofNat L) - 6) < 0)) (hx : ((xs 0) &&& 15) = 1) (c_2 : (xs 1) < 0) (c_3 : ((Int32.ofNat L) - 6) < 6) : vz_ev P0 (d + 10) 0 23 ([(4, .int 0), (3, .ref 187), (2, .ref 66), (1, .ref 1), (0, .ref 0)]) [] (hp σ) (.inl (some (.int 1)), hp ((st_i ((st_n (((σ))) 1 6)) 66 0 1))) := by
  refine ev_x (i := .iload 4) (len := 2) (p' := 25) (s' := [.int 0]) rfl rfl rfl ?_
  refine ev_x (i := .aload_n 0) (len := 1) (p' := 26) (s' := [.ref 0, .int 0]) rfl rfl rfl ?_
  refine ev_sl (p' := 27) rfl rfl hs rfl ?_
  refine ev_x (i := .bipush 6) (len := 2) (p' := 29) (s' := [.int 6, .int (Int32.ofNat L), .int 0]) rfl rfl rfl ?_
  refine ev_x (i := .isub) (len := 1) (p' := 30) (s' := [.int ((Int32.ofNat L) - 6), .int 0]) rfl rfl rfl ?_
  refine ev_b2 (t := 621) (p' := 33) rfl rfl rfl (if_neg c_1) ?_
  refine ev_x (i := .aload_n 0) (len := 1) (p' := 34) (s' := [.ref 0]) rfl rfl rfl ?_
  refine ev_x (i := .iload 4) (len := 2) (p' := 36) (s' := [.int 0, .ref 0]) rfl rfl rfl ?_
  refine ev_sg (p' := 37) rfl rfl hs (sp_in_L h6 rfl) rfl ?_
  refine ev_st (st' := [.int (xs 0)]) rfl ?_
  refine ev_x (i := .bipush 15) (len := 2) (p' := 39) (s' := [.int 15, .int (xs 0)]) rfl rfl rfl ?_
  refine ev_x (i := .iand) (len := 1) (p' := 40) (s' := [.int ((xs 0) &&& 15)]) rfl rfl rfl ?_
  refine ev_st (st' := [.int 1]) (congrArg (fun z => [Value.int z]) hx) ?_
  refine ev_ts (off := 145) (t := 185) rfl rfl (by decide) rfl ?_
  refine ev_x (i := .aload_n 1) (len := 1) (p' := 186) (s' := [.ref 1]) rfl rfl rfl ?_
  refine ev_x (i := .aload_n 0) (len := 1) (p' := 187) (s' := [.ref 0, .ref 1]) rfl rfl rfl ?_
  refine ev_x (i := .iload 4) (len := 2) (p' := 189) (s' := [.int 0, .ref 0, .ref 1]) rfl rfl rfl ?_
  refine ev_x (i := .iconst 1) (len := 1) (p' := 190) (s' := [.int 1, .int 0, .ref 0, .ref 1]) rfl rfl rfl ?_
  refine ev_x (i := .iadd) (len := 1) (p' := 191) (s' := [.int 1, .ref 0, .ref 1]) rfl rfl rfl ?_
  refine ev_sg (p' := 192) rfl rfl hs (sp_in_L h6 rfl) rfl ?_
  refine ev_st (st' := [.int (xs 1), .ref 1]) rfl ?_
  refine ev_x (i := .aload_n 3) (len := 1) (p' := 193) (s' := [.ref 187, .int (xs 1), .ref 1]) rfl rfl rfl ?_
  refine ev_callS (d := d + 9) (As := [.ref 1, .int (xs 1), .ref 187]) rfl rfl rfl (by decide) rfl rfl rfl rfl rfl (wl1a_46 (d := d + 0) (c_1 := c_2)) ?_
  refine ev_st (st' := [.int 1]) rfl ?_
  refine ev_pc (pc' := 196) rfl ?_
  refine ev_x (i := .istore 5) (len := 2) (p' := 198) (s' := []) (l' := [(5, .int 1), (4, .int 0), (3, .ref 187), (2, .ref 66), (1, .ref 1), (0, .ref 0)]) rfl rfl rfl ?_
  refine ev_x (i := .aload_n 2) (len := 1) (p' := 199) (s' := [.ref 66]) rfl rfl rfl ?_
  refine ev_x (i := .aload_n 0) (len := 1) (p' := 200) (s' := [.ref 0, .ref 66]) rfl rfl rfl ?_
  refine ev_x (i := .iload 4) (len := 2) (p' := 202) (s' := [.int 0, .ref 0, .ref 66]) rfl rfl rfl ?_
  refine ev_x (i := .iconst 1) (len := 1) (p' := 203) (s' := [.int 1, .int 0, .ref 0, .ref 66]) rfl rfl rfl ?_
  refine ev_x (i := .iadd) (len := 1) (p' := 204) (s' := [.int 1, .ref 0, .ref 66]) rfl rfl rfl ?_
  refine ev_sg (p' := 205) rfl rfl hs (sp_in_L h6 rfl) rfl ?_
  refine ev_st (st' := [.int (xs 1), .ref 66]) rfl ?_
  refine ev_cv (d := d + 9) (As := [.int (xs 1)]) (a := 66) (p' := 208) rfl rfl rfl ly_66 rfl rfl rfl rfl rfl rfl rfl (wl1a_47 (d := d + 8) (c_1 := c_2)) ?_
  refine ev_st (st' := [.int 0]) rfl ?_
  refine ev_x (i := .istore 6) (len := 2) (p' := 210) (s' := []) (l' := [(6, .int 0), (5, .int 1), (4, .int 0), (3, .ref 187), (2, .ref 66), (1, .ref 1), (0, .ref 0)]) rfl rfl rfl ?_
  refine ev_x (i := .aload_n 2) (len := 1) (p' := 211) (s' := [.ref 66]) rfl rfl rfl ?_
  refine ev_cv (d := d + 9) (As := []) (a := 66) (p' := 214) rfl rfl rfl ly_66 rfl rfl rfl rfl rfl rfl rfl (wl1a_48 (d := d + 8) (hi_66_0 := rfl)) ?_
  refine ev_st (st' := [.int 1]) rfl ?_
  refine ev_x (i := .iload 5) (len := 2) (p' := 216) (s' := [.int 1, .int 1]) rfl rfl rfl ?_
  refine ev_b2 (t := 221) (p' := 221) rfl rfl rfl (by decide) ?_
  refine ev_x (i := .iload 5) (len := 2) (p' := 223) (s' := [.int 1]) rfl rfl rfl ?_
  refine ev_b0 (t := 238) (p' := 238) rfl rfl rfl (by decide) ?_
  refine ev_x (i := .goto 377) (len := 3) (p' := 615) (s' := []) rfl rfl rfl ?_
  refine ev_x (i := .iinc 4 6) (len := 3) (p' := 618) (s' := []) (l' := [(4, .int 6), (6, .int 0), (5, .int 1), (3, .ref 187), (2, .ref 66), (1, .ref 1), (0, .ref 0)]) rfl rfl rfl ?_
  refine ev_x (i := .goto (-595)) (len := 3) (p' := 23) (s' := []) rfl rfl rfl ?_
  refine ev_x (i := .iload 4) (len := 2) (p' := 25) (s' := [.int 6]) rfl rfl rfl ?_
  refine ev_x (i := .aload_n 0) (len := 1) (p' := 26) (s' := [.ref 0, .int 6]) rfl rfl rfl ?_
  refine ev_sl (p' := 27) rfl rfl hs rfl ?_
  refine ev_x (i := .bipush 6) (len := 2) (p' := 29) (s' := [.int 6, .int (Int32.ofNat L), .int 6]) rfl rfl rfl ?_
  refine ev_x (i := .isub) (len := 1) (p' := 30) (s' := [.int ((Int32.ofNat L) - 6), .int 6]) rfl rfl rfl ?_
  refine ev_b2 (t := 621) (p' := 621) rfl rfl rfl (if_pos c_3) ?_
  refine ev_x (i := .iconst 1) (len := 1) (p' := 622) (s' := [.int 1]) rfl rfl rfl ?_
  exact ev_iret rfl rfl rfl rfl
set_option maxHeartbeats 4000000 in
set_option maxRecDepth 100000 in
/-- GameText.end(I)I -/
theorem wl1b_50 {d : Nat} {σ : st_S} {xs : Nat → Int32} (c_1 : ¬ ((xs 1) < 0)) (c_2 : ¬ ((xs 1) ≤ 20)) : vz_ev P0 (d + 8) 105 0 (lv_args 0 [.ref 1, .int (xs 1)]) [] (hp σ) (.inr "java/lang/IllegalArgumentException", hp (st_n (σ) 1 6)) := by
  refine ev_x (i := .iload_n 1) (len := 1) (p' := 1) (s' := [.int (xs 1)]) rfl rfl rfl ?_
  refine ev_b0 (t := 10) (p' := 4) rfl rfl rfl (if_neg c_1) ?_
  refine ev_x (i := .iload_n 1) (len := 1) (p' := 5) (s' := [.int (xs 1)]) rfl rfl rfl ?_
  refine ev_x (i := .bipush 20) (len := 2) (p' := 7) (s' := [.int 20, .int (xs 1)]) rfl rfl rfl ?_
  refine ev_b2 (t := 20) (p' := 10) rfl rfl rfl (if_neg c_2) ?_
  exact ev_thr rfl rfl rfl
set_option maxHeartbeats 4000000 in
set_option maxRecDepth 100000 in
/-- GameTextLaw.end(LGameText;I[J)I -/
theorem wl1b_51 {d : Nat} {σ : st_S} {xs : Nat → Int32} (c_1 : ¬ ((xs 1) < 0)) (c_2 : ¬ ((xs 1) ≤ 20)) : vz_ev P0 (d + 9) 104 0 (lv_args 0 [.ref 1, .int (xs 1), .ref 187]) [] (hp σ) (.inl (some (.int 1)), hp (st_n ((σ)) 1 6)) := by
  refine ev_x (i := .aload_n 2) (len := 1) (p' := 1) (s' := [.ref 187]) rfl rfl rfl ?_
  refine ev_x (i := .iconst 0) (len := 1) (p' := 2) (s' := [.int 0, .ref 187]) rfl rfl rfl ?_
  refine ev_x (i := .aload_n 0) (len := 1) (p' := 3) (s' := [.ref 1, .int 0, .ref 187]) rfl rfl rfl ?_
  refine ev_x (i := .iload_n 1) (len := 1) (p' := 4) (s' := [.int (xs 1), .ref 1, .int 0, .ref 187]) rfl rfl rfl ?_
  refine ev_caught (d := d + 8) (As := [.int (xs 1)]) (a := 1) (t := ("java/lang/IllegalArgumentException", 13, 3)) (E := "java/lang/IllegalArgumentException") rfl rfl rfl rfl (hp_obj _ ly_1) rfl rfl rfl rfl rfl rfl (beq_self_eq_true _) (wl1b_50 (d := d + 0) (c_1 := c_1) (c_2 := c_2)) ?_
  refine ev_lv (lv' := [(0, .ref 1), (1, .int (xs 1)), (2, .ref 187)]) rfl ?_
  refine ev_pc (pc' := 13) rfl ?_
  refine ev_x (i := .iconst 1) (len := 1) (p' := 14) (s' := [.int 1]) rfl rfl rfl ?_
  exact ev_iret rfl rfl rfl rfl
set_option maxHeartbeats 4000000 in
set_option maxRecDepth 100000 in
/-- GameTextModel.end(I)I -/
theorem wl1b_52 {d : Nat} {σ : st_S} {xs : Nat → Int32} (c_1 : ¬ ((xs 1) < 0)) (c_2 : 20 < (xs 1)) : vz_ev P0 (d + 1) 134 0 (lv_args 0 [.ref 66, .int (xs 1)]) [] (hp σ) (.inl (some (.int 0)), hp (st_i (σ) 66 0 1)) := by
  refine ev_x (i := .aload_n 0) (len := 1) (p' := 1) (s' := [.ref 66]) rfl rfl rfl ?_
  refine ev_x (i := .iload_n 1) (len := 1) (p' := 2) (s' := [.int (xs 1), .ref 66]) rfl rfl rfl ?_
  refine ev_b0 (t := 23) (p' := 5) rfl rfl rfl (if_neg c_1) ?_
  refine ev_x (i := .iload_n 1) (len := 1) (p' := 6) (s' := [.int (xs 1), .ref 66]) rfl rfl rfl ?_
  refine ev_x (i := .bipush 20) (len := 2) (p' := 8) (s' := [.int 20, .int (xs 1), .ref 66]) rfl rfl rfl ?_
  refine ev_b2 (t := 23) (p' := 23) rfl rfl rfl (if_pos c_2) ?_
  refine ev_x (i := .iconst 1) (len := 1) (p' := 24) (s' := [.int 1, .ref 66]) rfl rfl rfl ?_
  refine ev_x (i := .goto 4) (len := 3) (p' := 28) (s' := [.int 1, .ref 66]) rfl rfl rfl ?_
  refine ev_pi (p' := 31) rfl rfl rfl ly_66 rfl rfl rfl rfl ?_
  refine ev_x (i := .aload_n 0) (len := 1) (p' := 32) (s' := [.ref 66]) rfl rfl rfl ?_
  refine ev_gi (p' := 35) (v := 1) rfl rfl rfl ly_66 rfl rfl rfl ?_
  refine ev_b0 (t := 40) (p' := 38) rfl rfl rfl (by decide) ?_
  refine ev_x (i := .iconst 0) (len := 1) (p' := 39) (s' := [.int 0]) rfl rfl rfl ?_
  exact ev_iret rfl rfl rfl rfl
set_option maxHeartbeats 4000000 in
set_option maxRecDepth 100000 in
/-- GameTextModel.thrown()I -/
theorem wl1b_53 {d : Nat} {σ : st_S} (hi_66_0 : σ.1 66 0 = 1) : vz_ev P0 (d + 1) 130 0 (lv_args 0 [.ref 66]) [] (hp σ) (.inl (some (.int 1)), hp (σ)) := by
  refine ev_x (i := .aload_n 0) (len := 1) (p' := 1) (s' := [.ref 66]) rfl rfl rfl ?_
  refine ev_gi (p' := 4) (v := 1) rfl rfl rfl ly_66 rfl rfl hi_66_0 ?_
  exact ev_iret rfl rfl rfl rfl
set_option maxHeartbeats 4000000 in
set_option maxRecDepth 100000 in
/-- GameTextLaw.law([I)Z -/
theorem law_1b {d : Nat} {σ : st_S} {L : Nat} {xs : Nat → Int32} (hs : σ.2.2.2.2.2.2.1 0 = .inl (0, L, .inl xs)) (h6 : 6 ≤ L) (c_1 : ¬ (((Int32.ofNat L) - 6) < 0)) (hx : ((xs 0) &&& 15) = 1) (c_2 : ¬ ((xs 1) < 0)) (c_3 : ¬ ((xs 1) ≤ 20)) (c_4 : 20 < (xs 1)) (c_5 : ((Int32.ofNat L) - 6) < 6) : vz_ev P0 (d + 10) 0 23 ([(4, .int 0), (3, .ref 187), (2, .ref 66), (1, .ref 1), (0, .ref 0)]) [] (hp σ) (.inl (some (.int 1)), hp ((st_i ((st_n (((σ))) 1 6)) 66 0 1))) := by
  refine ev_x (i := .iload 4) (len := 2) (p' := 25) (s' := [.int 0]) rfl rfl rfl ?_
  refine ev_x (i := .aload_n 0) (len := 1) (p' := 26) (s' := [.ref 0, .int 0]) rfl rfl rfl ?_
  refine ev_sl (p' := 27) rfl rfl hs rfl ?_
  refine ev_x (i := .bipush 6) (len := 2) (p' := 29) (s' := [.int 6, .int (Int32.ofNat L), .int 0]) rfl rfl rfl ?_
  refine ev_x (i := .isub) (len := 1) (p' := 30) (s' := [.int ((Int32.ofNat L) - 6), .int 0]) rfl rfl rfl ?_
  refine ev_b2 (t := 621) (p' := 33) rfl rfl rfl (if_neg c_1) ?_
  refine ev_x (i := .aload_n 0) (len := 1) (p' := 34) (s' := [.ref 0]) rfl rfl rfl ?_
  refine ev_x (i := .iload 4) (len := 2) (p' := 36) (s' := [.int 0, .ref 0]) rfl rfl rfl ?_
  refine ev_sg (p' := 37) rfl rfl hs (sp_in_L h6 rfl) rfl ?_
  refine ev_st (st' := [.int (xs 0)]) rfl ?_
  refine ev_x (i := .bipush 15) (len := 2) (p' := 39) (s' := [.int 15, .int (xs 0)]) rfl rfl rfl ?_
  refine ev_x (i := .iand) (len := 1) (p' := 40) (s' := [.int ((xs 0) &&& 15)]) rfl rfl rfl ?_
  refine ev_st (st' := [.int 1]) (congrArg (fun z => [Value.int z]) hx) ?_
  refine ev_ts (off := 145) (t := 185) rfl rfl (by decide) rfl ?_
  refine ev_x (i := .aload_n 1) (len := 1) (p' := 186) (s' := [.ref 1]) rfl rfl rfl ?_
  refine ev_x (i := .aload_n 0) (len := 1) (p' := 187) (s' := [.ref 0, .ref 1]) rfl rfl rfl ?_
  refine ev_x (i := .iload 4) (len := 2) (p' := 189) (s' := [.int 0, .ref 0, .ref 1]) rfl rfl rfl ?_
  refine ev_x (i := .iconst 1) (len := 1) (p' := 190) (s' := [.int 1, .int 0, .ref 0, .ref 1]) rfl rfl rfl ?_
  refine ev_x (i := .iadd) (len := 1) (p' := 191) (s' := [.int 1, .ref 0, .ref 1]) rfl rfl rfl ?_
  refine ev_sg (p' := 192) rfl rfl hs (sp_in_L h6 rfl) rfl ?_
  refine ev_st (st' := [.int (xs 1), .ref 1]) rfl ?_
  refine ev_x (i := .aload_n 3) (len := 1) (p' := 193) (s' := [.ref 187, .int (xs 1), .ref 1]) rfl rfl rfl ?_
  refine ev_callS (d := d + 9) (As := [.ref 1, .int (xs 1), .ref 187]) rfl rfl rfl (by decide) rfl rfl rfl rfl rfl (wl1b_51 (d := d + 0) (c_1 := c_2) (c_2 := c_3)) ?_
  refine ev_st (st' := [.int 1]) rfl ?_
  refine ev_pc (pc' := 196) rfl ?_
  refine ev_x (i := .istore 5) (len := 2) (p' := 198) (s' := []) (l' := [(5, .int 1), (4, .int 0), (3, .ref 187), (2, .ref 66), (1, .ref 1), (0, .ref 0)]) rfl rfl rfl ?_
  refine ev_x (i := .aload_n 2) (len := 1) (p' := 199) (s' := [.ref 66]) rfl rfl rfl ?_
  refine ev_x (i := .aload_n 0) (len := 1) (p' := 200) (s' := [.ref 0, .ref 66]) rfl rfl rfl ?_
  refine ev_x (i := .iload 4) (len := 2) (p' := 202) (s' := [.int 0, .ref 0, .ref 66]) rfl rfl rfl ?_
  refine ev_x (i := .iconst 1) (len := 1) (p' := 203) (s' := [.int 1, .int 0, .ref 0, .ref 66]) rfl rfl rfl ?_
  refine ev_x (i := .iadd) (len := 1) (p' := 204) (s' := [.int 1, .ref 0, .ref 66]) rfl rfl rfl ?_
  refine ev_sg (p' := 205) rfl rfl hs (sp_in_L h6 rfl) rfl ?_
  refine ev_st (st' := [.int (xs 1), .ref 66]) rfl ?_
  refine ev_cv (d := d + 9) (As := [.int (xs 1)]) (a := 66) (p' := 208) rfl rfl rfl ly_66 rfl rfl rfl rfl rfl rfl rfl (wl1b_52 (d := d + 8) (c_1 := c_2) (c_2 := c_4)) ?_
  refine ev_st (st' := [.int 0]) rfl ?_
  refine ev_x (i := .istore 6) (len := 2) (p' := 210) (s' := []) (l' := [(6, .int 0), (5, .int 1), (4, .int 0), (3, .ref 187), (2, .ref 66), (1, .ref 1), (0, .ref 0)]) rfl rfl rfl ?_
  refine ev_x (i := .aload_n 2) (len := 1) (p' := 211) (s' := [.ref 66]) rfl rfl rfl ?_
  refine ev_cv (d := d + 9) (As := []) (a := 66) (p' := 214) rfl rfl rfl ly_66 rfl rfl rfl rfl rfl rfl rfl (wl1b_53 (d := d + 8) (hi_66_0 := rfl)) ?_
  refine ev_st (st' := [.int 1]) rfl ?_
  refine ev_x (i := .iload 5) (len := 2) (p' := 216) (s' := [.int 1, .int 1]) rfl rfl rfl ?_
  refine ev_b2 (t := 221) (p' := 221) rfl rfl rfl (by decide) ?_
  refine ev_x (i := .iload 5) (len := 2) (p' := 223) (s' := [.int 1]) rfl rfl rfl ?_
  refine ev_b0 (t := 238) (p' := 238) rfl rfl rfl (by decide) ?_
  refine ev_x (i := .goto 377) (len := 3) (p' := 615) (s' := []) rfl rfl rfl ?_
  refine ev_x (i := .iinc 4 6) (len := 3) (p' := 618) (s' := []) (l' := [(4, .int 6), (6, .int 0), (5, .int 1), (3, .ref 187), (2, .ref 66), (1, .ref 1), (0, .ref 0)]) rfl rfl rfl ?_
  refine ev_x (i := .goto (-595)) (len := 3) (p' := 23) (s' := []) rfl rfl rfl ?_
  refine ev_x (i := .iload 4) (len := 2) (p' := 25) (s' := [.int 6]) rfl rfl rfl ?_
  refine ev_x (i := .aload_n 0) (len := 1) (p' := 26) (s' := [.ref 0, .int 6]) rfl rfl rfl ?_
  refine ev_sl (p' := 27) rfl rfl hs rfl ?_
  refine ev_x (i := .bipush 6) (len := 2) (p' := 29) (s' := [.int 6, .int (Int32.ofNat L), .int 6]) rfl rfl rfl ?_
  refine ev_x (i := .isub) (len := 1) (p' := 30) (s' := [.int ((Int32.ofNat L) - 6), .int 6]) rfl rfl rfl ?_
  refine ev_b2 (t := 621) (p' := 621) rfl rfl rfl (if_pos c_5) ?_
  refine ev_x (i := .iconst 1) (len := 1) (p' := 622) (s' := [.int 1]) rfl rfl rfl ?_
  exact ev_iret rfl rfl rfl rfl
set_option maxHeartbeats 4000000 in
set_option maxRecDepth 100000 in
/-- GameText.end(I)I -/
theorem wl1c_55 {d : Nat} {σ : st_S} {xs : Nat → Int32} (hi_2_1 : σ.1 2 1 = 0) (c_1 : ¬ ((xs 1) < 0)) (c_2 : (xs 1) ≤ 20) : vz_ev P0 (d + 8) 105 0 (lv_args 0 [.ref 1, .int (xs 1)]) [] (hp σ) (.inr "java/lang/IllegalArgumentException", hp (st_n (σ) 1 6)) := by
  refine ev_x (i := .iload_n 1) (len := 1) (p' := 1) (s' := [.int (xs 1)]) rfl rfl rfl ?_
  refine ev_b0 (t := 10) (p' := 4) rfl rfl rfl (if_neg c_1) ?_
  refine ev_x (i := .iload_n 1) (len := 1) (p' := 5) (s' := [.int (xs 1)]) rfl rfl rfl ?_
  refine ev_x (i := .bipush 20) (len := 2) (p' := 7) (s' := [.int 20, .int (xs 1)]) rfl rfl rfl ?_
  refine ev_b2 (t := 20) (p' := 20) rfl rfl rfl (if_pos c_2) ?_
  refine ev_x (i := .aload_n 0) (len := 1) (p' := 21) (s' := [.ref 1]) rfl rfl rfl ?_
  refine ev_gc (p' := 24) (v := 2) rfl rfl rfl ly_1 rfl rfl ?_
  refine ev_gi (p' := 27) (v := 0) rfl rfl rfl ly_2 rfl rfl hi_2_1 ?_
  refine ev_x (i := .bipush 20) (len := 2) (p' := 29) (s' := [.int 20, .int 0]) rfl rfl rfl ?_
  refine ev_b2 (t := 42) (p' := 32) rfl rfl rfl (by decide) ?_
  exact ev_thr rfl rfl rfl
set_option maxHeartbeats 4000000 in
set_option maxRecDepth 100000 in
/-- GameTextLaw.end(LGameText;I[J)I -/
theorem wl1c_56 {d : Nat} {σ : st_S} {xs : Nat → Int32} (hi_2_1 : σ.1 2 1 = 0) (c_1 : ¬ ((xs 1) < 0)) (c_2 : (xs 1) ≤ 20) : vz_ev P0 (d + 9) 104 0 (lv_args 0 [.ref 1, .int (xs 1), .ref 187]) [] (hp σ) (.inl (some (.int 1)), hp (st_n ((σ)) 1 6)) := by
  refine ev_x (i := .aload_n 2) (len := 1) (p' := 1) (s' := [.ref 187]) rfl rfl rfl ?_
  refine ev_x (i := .iconst 0) (len := 1) (p' := 2) (s' := [.int 0, .ref 187]) rfl rfl rfl ?_
  refine ev_x (i := .aload_n 0) (len := 1) (p' := 3) (s' := [.ref 1, .int 0, .ref 187]) rfl rfl rfl ?_
  refine ev_x (i := .iload_n 1) (len := 1) (p' := 4) (s' := [.int (xs 1), .ref 1, .int 0, .ref 187]) rfl rfl rfl ?_
  refine ev_caught (d := d + 8) (As := [.int (xs 1)]) (a := 1) (t := ("java/lang/IllegalArgumentException", 13, 3)) (E := "java/lang/IllegalArgumentException") rfl rfl rfl rfl (hp_obj _ ly_1) rfl rfl rfl rfl rfl rfl (beq_self_eq_true _) (wl1c_55 (d := d + 0) (c_1 := c_1) (c_2 := c_2) (hi_2_1 := hi_2_1)) ?_
  refine ev_lv (lv' := [(0, .ref 1), (1, .int (xs 1)), (2, .ref 187)]) rfl ?_
  refine ev_pc (pc' := 13) rfl ?_
  refine ev_x (i := .iconst 1) (len := 1) (p' := 14) (s' := [.int 1]) rfl rfl rfl ?_
  exact ev_iret rfl rfl rfl rfl
set_option maxHeartbeats 4000000 in
set_option maxRecDepth 100000 in
/-- GameTextModel.end(I)I -/
theorem wl1c_57 {d : Nat} {σ : st_S} {xs : Nat → Int32} (hr_66_1 : σ.2.2.1 66 1 = 67) (hi_67_1 : σ.1 67 1 = 0) (c_1 : ¬ ((xs 1) < 0)) (c_2 : ¬ (20 < (xs 1))) : vz_ev P0 (d + 1) 134 0 (lv_args 0 [.ref 66, .int (xs 1)]) [] (hp σ) (.inl (some (.int 0)), hp (st_i (σ) 66 0 1)) := by
  refine ev_x (i := .aload_n 0) (len := 1) (p' := 1) (s' := [.ref 66]) rfl rfl rfl ?_
  refine ev_x (i := .iload_n 1) (len := 1) (p' := 2) (s' := [.int (xs 1), .ref 66]) rfl rfl rfl ?_
  refine ev_b0 (t := 23) (p' := 5) rfl rfl rfl (if_neg c_1) ?_
  refine ev_x (i := .iload_n 1) (len := 1) (p' := 6) (s' := [.int (xs 1), .ref 66]) rfl rfl rfl ?_
  refine ev_x (i := .bipush 20) (len := 2) (p' := 8) (s' := [.int 20, .int (xs 1), .ref 66]) rfl rfl rfl ?_
  refine ev_b2 (t := 23) (p' := 11) rfl rfl rfl (if_neg c_2) ?_
  refine ev_x (i := .aload_n 0) (len := 1) (p' := 12) (s' := [.ref 66, .ref 66]) rfl rfl rfl ?_
  refine ev_gr (p' := 15) (v := 67) rfl rfl rfl ly_66 rfl rfl hr_66_1 ?_
  refine ev_gi (p' := 18) (v := 0) rfl rfl rfl ly_67 rfl rfl hi_67_1 ?_
  refine ev_x (i := .bipush 20) (len := 2) (p' := 20) (s' := [.int 20, .int 0, .ref 66]) rfl rfl rfl ?_
  refine ev_b2 (t := 27) (p' := 23) rfl rfl rfl (by decide) ?_
  refine ev_x (i := .iconst 1) (len := 1) (p' := 24) (s' := [.int 1, .ref 66]) rfl rfl rfl ?_
  refine ev_x (i := .goto 4) (len := 3) (p' := 28) (s' := [.int 1, .ref 66]) rfl rfl rfl ?_
  refine ev_pi (p' := 31) rfl rfl rfl ly_66 rfl rfl rfl rfl ?_
  refine ev_x (i := .aload_n 0) (len := 1) (p' := 32) (s' := [.ref 66]) rfl rfl rfl ?_
  refine ev_gi (p' := 35) (v := 1) rfl rfl rfl ly_66 rfl rfl rfl ?_
  refine ev_b0 (t := 40) (p' := 38) rfl rfl rfl (by decide) ?_
  refine ev_x (i := .iconst 0) (len := 1) (p' := 39) (s' := [.int 0]) rfl rfl rfl ?_
  exact ev_iret rfl rfl rfl rfl
set_option maxHeartbeats 4000000 in
set_option maxRecDepth 100000 in
/-- GameTextModel.thrown()I -/
theorem wl1c_58 {d : Nat} {σ : st_S} (hi_66_0 : σ.1 66 0 = 1) : vz_ev P0 (d + 1) 130 0 (lv_args 0 [.ref 66]) [] (hp σ) (.inl (some (.int 1)), hp (σ)) := by
  refine ev_x (i := .aload_n 0) (len := 1) (p' := 1) (s' := [.ref 66]) rfl rfl rfl ?_
  refine ev_gi (p' := 4) (v := 1) rfl rfl rfl ly_66 rfl rfl hi_66_0 ?_
  exact ev_iret rfl rfl rfl rfl
set_option maxHeartbeats 4000000 in
set_option maxRecDepth 100000 in
/-- GameTextLaw.law([I)Z -/
theorem law_1c {d : Nat} {σ : st_S} {L : Nat} {xs : Nat → Int32} (hs : σ.2.2.2.2.2.2.1 0 = .inl (0, L, .inl xs)) (h6 : 6 ≤ L) (hi_2_1 : σ.1 2 1 = 0) (hr_66_1 : σ.2.2.1 66 1 = 67) (hi_67_1 : σ.1 67 1 = 0) (c_1 : ¬ (((Int32.ofNat L) - 6) < 0)) (hx : ((xs 0) &&& 15) = 1) (c_2 : ¬ ((xs 1) < 0)) (c_3 : (xs 1) ≤ 20) (c_4 : ¬ (20 < (xs 1))) (c_5 : ((Int32.ofNat L) - 6) < 6) : vz_ev P0 (d + 10) 0 23 ([(4, .int 0), (3, .ref 187), (2, .ref 66), (1, .ref 1), (0, .ref 0)]) [] (hp σ) (.inl (some (.int 1)), hp ((st_i ((st_n (((σ))) 1 6)) 66 0 1))) := by
  refine ev_x (i := .iload 4) (len := 2) (p' := 25) (s' := [.int 0]) rfl rfl rfl ?_
  refine ev_x (i := .aload_n 0) (len := 1) (p' := 26) (s' := [.ref 0, .int 0]) rfl rfl rfl ?_
  refine ev_sl (p' := 27) rfl rfl hs rfl ?_
  refine ev_x (i := .bipush 6) (len := 2) (p' := 29) (s' := [.int 6, .int (Int32.ofNat L), .int 0]) rfl rfl rfl ?_
  refine ev_x (i := .isub) (len := 1) (p' := 30) (s' := [.int ((Int32.ofNat L) - 6), .int 0]) rfl rfl rfl ?_
  refine ev_b2 (t := 621) (p' := 33) rfl rfl rfl (if_neg c_1) ?_
  refine ev_x (i := .aload_n 0) (len := 1) (p' := 34) (s' := [.ref 0]) rfl rfl rfl ?_
  refine ev_x (i := .iload 4) (len := 2) (p' := 36) (s' := [.int 0, .ref 0]) rfl rfl rfl ?_
  refine ev_sg (p' := 37) rfl rfl hs (sp_in_L h6 rfl) rfl ?_
  refine ev_st (st' := [.int (xs 0)]) rfl ?_
  refine ev_x (i := .bipush 15) (len := 2) (p' := 39) (s' := [.int 15, .int (xs 0)]) rfl rfl rfl ?_
  refine ev_x (i := .iand) (len := 1) (p' := 40) (s' := [.int ((xs 0) &&& 15)]) rfl rfl rfl ?_
  refine ev_st (st' := [.int 1]) (congrArg (fun z => [Value.int z]) hx) ?_
  refine ev_ts (off := 145) (t := 185) rfl rfl (by decide) rfl ?_
  refine ev_x (i := .aload_n 1) (len := 1) (p' := 186) (s' := [.ref 1]) rfl rfl rfl ?_
  refine ev_x (i := .aload_n 0) (len := 1) (p' := 187) (s' := [.ref 0, .ref 1]) rfl rfl rfl ?_
  refine ev_x (i := .iload 4) (len := 2) (p' := 189) (s' := [.int 0, .ref 0, .ref 1]) rfl rfl rfl ?_
  refine ev_x (i := .iconst 1) (len := 1) (p' := 190) (s' := [.int 1, .int 0, .ref 0, .ref 1]) rfl rfl rfl ?_
  refine ev_x (i := .iadd) (len := 1) (p' := 191) (s' := [.int 1, .ref 0, .ref 1]) rfl rfl rfl ?_
  refine ev_sg (p' := 192) rfl rfl hs (sp_in_L h6 rfl) rfl ?_
  refine ev_st (st' := [.int (xs 1), .ref 1]) rfl ?_
  refine ev_x (i := .aload_n 3) (len := 1) (p' := 193) (s' := [.ref 187, .int (xs 1), .ref 1]) rfl rfl rfl ?_
  refine ev_callS (d := d + 9) (As := [.ref 1, .int (xs 1), .ref 187]) rfl rfl rfl (by decide) rfl rfl rfl rfl rfl (wl1c_56 (d := d + 0) (c_1 := c_2) (c_2 := c_3) (hi_2_1 := hi_2_1)) ?_
  refine ev_st (st' := [.int 1]) rfl ?_
  refine ev_pc (pc' := 196) rfl ?_
  refine ev_x (i := .istore 5) (len := 2) (p' := 198) (s' := []) (l' := [(5, .int 1), (4, .int 0), (3, .ref 187), (2, .ref 66), (1, .ref 1), (0, .ref 0)]) rfl rfl rfl ?_
  refine ev_x (i := .aload_n 2) (len := 1) (p' := 199) (s' := [.ref 66]) rfl rfl rfl ?_
  refine ev_x (i := .aload_n 0) (len := 1) (p' := 200) (s' := [.ref 0, .ref 66]) rfl rfl rfl ?_
  refine ev_x (i := .iload 4) (len := 2) (p' := 202) (s' := [.int 0, .ref 0, .ref 66]) rfl rfl rfl ?_
  refine ev_x (i := .iconst 1) (len := 1) (p' := 203) (s' := [.int 1, .int 0, .ref 0, .ref 66]) rfl rfl rfl ?_
  refine ev_x (i := .iadd) (len := 1) (p' := 204) (s' := [.int 1, .ref 0, .ref 66]) rfl rfl rfl ?_
  refine ev_sg (p' := 205) rfl rfl hs (sp_in_L h6 rfl) rfl ?_
  refine ev_st (st' := [.int (xs 1), .ref 66]) rfl ?_
  refine ev_cv (d := d + 9) (As := [.int (xs 1)]) (a := 66) (p' := 208) rfl rfl rfl ly_66 rfl rfl rfl rfl rfl rfl rfl (wl1c_57 (d := d + 8) (c_1 := c_2) (c_2 := c_4) (hr_66_1 := hr_66_1) (hi_67_1 := hi_67_1)) ?_
  refine ev_st (st' := [.int 0]) rfl ?_
  refine ev_x (i := .istore 6) (len := 2) (p' := 210) (s' := []) (l' := [(6, .int 0), (5, .int 1), (4, .int 0), (3, .ref 187), (2, .ref 66), (1, .ref 1), (0, .ref 0)]) rfl rfl rfl ?_
  refine ev_x (i := .aload_n 2) (len := 1) (p' := 211) (s' := [.ref 66]) rfl rfl rfl ?_
  refine ev_cv (d := d + 9) (As := []) (a := 66) (p' := 214) rfl rfl rfl ly_66 rfl rfl rfl rfl rfl rfl rfl (wl1c_58 (d := d + 8) (hi_66_0 := rfl)) ?_
  refine ev_st (st' := [.int 1]) rfl ?_
  refine ev_x (i := .iload 5) (len := 2) (p' := 216) (s' := [.int 1, .int 1]) rfl rfl rfl ?_
  refine ev_b2 (t := 221) (p' := 221) rfl rfl rfl (by decide) ?_
  refine ev_x (i := .iload 5) (len := 2) (p' := 223) (s' := [.int 1]) rfl rfl rfl ?_
  refine ev_b0 (t := 238) (p' := 238) rfl rfl rfl (by decide) ?_
  refine ev_x (i := .goto 377) (len := 3) (p' := 615) (s' := []) rfl rfl rfl ?_
  refine ev_x (i := .iinc 4 6) (len := 3) (p' := 618) (s' := []) (l' := [(4, .int 6), (6, .int 0), (5, .int 1), (3, .ref 187), (2, .ref 66), (1, .ref 1), (0, .ref 0)]) rfl rfl rfl ?_
  refine ev_x (i := .goto (-595)) (len := 3) (p' := 23) (s' := []) rfl rfl rfl ?_
  refine ev_x (i := .iload 4) (len := 2) (p' := 25) (s' := [.int 6]) rfl rfl rfl ?_
  refine ev_x (i := .aload_n 0) (len := 1) (p' := 26) (s' := [.ref 0, .int 6]) rfl rfl rfl ?_
  refine ev_sl (p' := 27) rfl rfl hs rfl ?_
  refine ev_x (i := .bipush 6) (len := 2) (p' := 29) (s' := [.int 6, .int (Int32.ofNat L), .int 6]) rfl rfl rfl ?_
  refine ev_x (i := .isub) (len := 1) (p' := 30) (s' := [.int ((Int32.ofNat L) - 6), .int 6]) rfl rfl rfl ?_
  refine ev_b2 (t := 621) (p' := 621) rfl rfl rfl (if_pos c_5) ?_
  refine ev_x (i := .iconst 1) (len := 1) (p' := 622) (s' := [.int 1]) rfl rfl rfl ?_
  exact ev_iret rfl rfl rfl rfl
set_option maxHeartbeats 4000000 in
set_option maxRecDepth 100000 in
/-- GameText$Graph.hasState(I)Z -/
theorem wl8a_60 {d : Nat} {σ : st_S} {xs : Nat → Int32} (c_1 : (xs 1) < 0) : vz_ev P0 (d + 1) 97 0 (lv_args 0 [.ref 52, .int (xs 1)]) [] (hp σ) (.inl (some (.int 0)), hp (σ)) := by
  refine ev_x (i := .iload_n 1) (len := 1) (p' := 1) (s' := [.int (xs 1)]) rfl rfl rfl ?_
  refine ev_b0 (t := 16) (p' := 16) rfl rfl rfl (if_pos c_1) ?_
  refine ev_x (i := .iconst 0) (len := 1) (p' := 17) (s' := [.int 0]) rfl rfl rfl ?_
  exact ev_iret rfl rfl rfl rfl
set_option maxHeartbeats 4000000 in
set_option maxRecDepth 100000 in
/-- GameText.variable(II)I -/
theorem wl8a_61 {d : Nat} {σ : st_S} {xs : Nat → Int32} (c_1 : (xs 1) < 0) : vz_ev P0 (d + 8) 126 0 (lv_args 0 [.ref 1, .int (xs 1), .int (xs 2)]) [] (hp σ) (.inr "java/lang/IndexOutOfBoundsException", hp (st_n ((σ)) 1 6)) := by
  refine ev_x (i := .aload_n 0) (len := 1) (p' := 1) (s' := [.ref 1]) rfl rfl rfl ?_
  refine ev_gc (p' := 4) (v := 52) rfl rfl rfl ly_1 rfl rfl ?_
  refine ev_x (i := .iload_n 1) (len := 1) (p' := 5) (s' := [.int (xs 1), .ref 52]) rfl rfl rfl ?_
  refine ev_cv (d := d + 7) (As := [.int (xs 1)]) (a := 52) (p' := 8) rfl rfl rfl ly_52 rfl rfl rfl rfl rfl rfl rfl (wl8a_60 (d := d + 6) (c_1 := c_1)) ?_
  refine ev_st (st' := [.int 0]) rfl ?_
  refine ev_b0 (t := 26) (p' := 26) rfl rfl rfl (by decide) ?_
  exact ev_thr rfl rfl rfl
set_option maxHeartbeats 4000000 in
set_option maxRecDepth 100000 in
/-- GameTextLaw.variable(LGameText;II[J)I -/
theorem wl8a_62 {d : Nat} {σ : st_S} {xs : Nat → Int32} (c_1 : (xs 1) < 0) : vz_ev P0 (d + 9) 125 0 (lv_args 0 [.ref 1, .int (xs 1), .int (xs 2), .ref 187]) [] (hp σ) (.inl (some (.int 1)), hp (st_n (((σ))) 1 6)) := by
  refine ev_x (i := .aload_n 3) (len := 1) (p' := 1) (s' := [.ref 187]) rfl rfl rfl ?_
  refine ev_x (i := .iconst 0) (len := 1) (p' := 2) (s' := [.int 0, .ref 187]) rfl rfl rfl ?_
  refine ev_x (i := .aload_n 0) (len := 1) (p' := 3) (s' := [.ref 1, .int 0, .ref 187]) rfl rfl rfl ?_
  refine ev_x (i := .iload_n 1) (len := 1) (p' := 4) (s' := [.int (xs 1), .ref 1, .int 0, .ref 187]) rfl rfl rfl ?_
  refine ev_x (i := .iload_n 2) (len := 1) (p' := 5) (s' := [.int (xs 2), .int (xs 1), .ref 1, .int 0, .ref 187]) rfl rfl rfl ?_
  refine ev_caught (d := d + 8) (As := [.int (xs 1), .int (xs 2)]) (a := 1) (t := ("java/lang/IndexOutOfBoundsException", 15, 4)) (E := "java/lang/IndexOutOfBoundsException") rfl rfl rfl rfl (hp_obj _ ly_1) rfl rfl rfl rfl rfl rfl (beq_self_eq_true _) (wl8a_61 (d := d + 0) (c_1 := c_1)) ?_
  refine ev_lv (lv' := [(0, .ref 1), (1, .int (xs 1)), (2, .int (xs 2)), (3, .ref 187)]) rfl ?_
  refine ev_pc (pc' := 15) rfl ?_
  refine ev_x (i := .iconst 1) (len := 1) (p' := 16) (s' := [.int 1]) rfl rfl rfl ?_
  exact ev_iret rfl rfl rfl rfl
set_option maxHeartbeats 4000000 in
set_option maxRecDepth 100000 in
/-- GameTextModel.variable(II)I -/
theorem wl8a_63 {d : Nat} {σ : st_S} {xs : Nat → Int32} (c_1 : (xs 1) < 0) : vz_ev P0 (d + 1) 222 0 (lv_args 0 [.ref 66, .int (xs 1), .int (xs 2)]) [] (hp σ) (.inl (some (.int 0)), hp (st_i (σ) 66 0 1)) := by
  refine ev_x (i := .aload_n 0) (len := 1) (p' := 1) (s' := [.ref 66]) rfl rfl rfl ?_
  refine ev_x (i := .iload_n 1) (len := 1) (p' := 2) (s' := [.int (xs 1), .ref 66]) rfl rfl rfl ?_
  refine ev_b0 (t := 28) (p' := 28) rfl rfl rfl (if_pos c_1) ?_
  refine ev_x (i := .iconst 1) (len := 1) (p' := 29) (s' := [.int 1, .ref 66]) rfl rfl rfl ?_
  refine ev_x (i := .goto 4) (len := 3) (p' := 33) (s' := [.int 1, .ref 66]) rfl rfl rfl ?_
  refine ev_pi (p' := 36) rfl rfl rfl ly_66 rfl rfl rfl rfl ?_
  refine ev_x (i := .aload_n 0) (len := 1) (p' := 37) (s' := [.ref 66]) rfl rfl rfl ?_
  refine ev_gi (p' := 40) (v := 1) rfl rfl rfl ly_66 rfl rfl rfl ?_
  refine ev_b0 (t := 47) (p' := 43) rfl rfl rfl (by decide) ?_
  refine ev_x (i := .iconst 0) (len := 1) (p' := 44) (s' := [.int 0]) rfl rfl rfl ?_
  refine ev_x (i := .goto 14) (len := 3) (p' := 58) (s' := [.int 0]) rfl rfl rfl ?_
  exact ev_iret rfl rfl rfl rfl
set_option maxHeartbeats 4000000 in
set_option maxRecDepth 100000 in
/-- GameTextModel.thrown()I -/
theorem wl8a_64 {d : Nat} {σ : st_S} (hi_66_0 : σ.1 66 0 = 1) : vz_ev P0 (d + 1) 130 0 (lv_args 0 [.ref 66]) [] (hp σ) (.inl (some (.int 1)), hp (σ)) := by
  refine ev_x (i := .aload_n 0) (len := 1) (p' := 1) (s' := [.ref 66]) rfl rfl rfl ?_
  refine ev_gi (p' := 4) (v := 1) rfl rfl rfl ly_66 rfl rfl hi_66_0 ?_
  exact ev_iret rfl rfl rfl rfl
set_option maxHeartbeats 4000000 in
set_option maxRecDepth 100000 in
/-- GameTextLaw.law([I)Z -/
theorem law_8a {d : Nat} {σ : st_S} {L : Nat} {xs : Nat → Int32} (hs : σ.2.2.2.2.2.2.1 0 = .inl (0, L, .inl xs)) (h6 : 6 ≤ L) (c_1 : ¬ (((Int32.ofNat L) - 6) < 0)) (hx : ((xs 0) &&& 15) = 8) (c_2 : (xs 1) < 0) (c_3 : ((Int32.ofNat L) - 6) < 6) : vz_ev P0 (d + 10) 0 23 ([(4, .int 0), (3, .ref 187), (2, .ref 66), (1, .ref 1), (0, .ref 0)]) [] (hp σ) (.inl (some (.int 1)), hp ((st_i ((st_n ((((σ)))) 1 6)) 66 0 1))) := by
  refine ev_x (i := .iload 4) (len := 2) (p' := 25) (s' := [.int 0]) rfl rfl rfl ?_
  refine ev_x (i := .aload_n 0) (len := 1) (p' := 26) (s' := [.ref 0, .int 0]) rfl rfl rfl ?_
  refine ev_sl (p' := 27) rfl rfl hs rfl ?_
  refine ev_x (i := .bipush 6) (len := 2) (p' := 29) (s' := [.int 6, .int (Int32.ofNat L), .int 0]) rfl rfl rfl ?_
  refine ev_x (i := .isub) (len := 1) (p' := 30) (s' := [.int ((Int32.ofNat L) - 6), .int 0]) rfl rfl rfl ?_
  refine ev_b2 (t := 621) (p' := 33) rfl rfl rfl (if_neg c_1) ?_
  refine ev_x (i := .aload_n 0) (len := 1) (p' := 34) (s' := [.ref 0]) rfl rfl rfl ?_
  refine ev_x (i := .iload 4) (len := 2) (p' := 36) (s' := [.int 0, .ref 0]) rfl rfl rfl ?_
  refine ev_sg (p' := 37) rfl rfl hs (sp_in_L h6 rfl) rfl ?_
  refine ev_st (st' := [.int (xs 0)]) rfl ?_
  refine ev_x (i := .bipush 15) (len := 2) (p' := 39) (s' := [.int 15, .int (xs 0)]) rfl rfl rfl ?_
  refine ev_x (i := .iand) (len := 1) (p' := 40) (s' := [.int ((xs 0) &&& 15)]) rfl rfl rfl ?_
  refine ev_st (st' := [.int 8]) (congrArg (fun z => [Value.int z]) hx) ?_
  refine ev_ts (off := 322) (t := 362) rfl rfl (by decide) rfl ?_
  refine ev_x (i := .aload_n 1) (len := 1) (p' := 363) (s' := [.ref 1]) rfl rfl rfl ?_
  refine ev_x (i := .aload_n 0) (len := 1) (p' := 364) (s' := [.ref 0, .ref 1]) rfl rfl rfl ?_
  refine ev_x (i := .iload 4) (len := 2) (p' := 366) (s' := [.int 0, .ref 0, .ref 1]) rfl rfl rfl ?_
  refine ev_x (i := .iconst 1) (len := 1) (p' := 367) (s' := [.int 1, .int 0, .ref 0, .ref 1]) rfl rfl rfl ?_
  refine ev_x (i := .iadd) (len := 1) (p' := 368) (s' := [.int 1, .ref 0, .ref 1]) rfl rfl rfl ?_
  refine ev_sg (p' := 369) rfl rfl hs (sp_in_L h6 rfl) rfl ?_
  refine ev_st (st' := [.int (xs 1), .ref 1]) rfl ?_
  refine ev_x (i := .aload_n 0) (len := 1) (p' := 370) (s' := [.ref 0, .int (xs 1), .ref 1]) rfl rfl rfl ?_
  refine ev_x (i := .iload 4) (len := 2) (p' := 372) (s' := [.int 0, .ref 0, .int (xs 1), .ref 1]) rfl rfl rfl ?_
  refine ev_x (i := .iconst 2) (len := 1) (p' := 373) (s' := [.int 2, .int 0, .ref 0, .int (xs 1), .ref 1]) rfl rfl rfl ?_
  refine ev_x (i := .iadd) (len := 1) (p' := 374) (s' := [.int 2, .ref 0, .int (xs 1), .ref 1]) rfl rfl rfl ?_
  refine ev_sg (p' := 375) rfl rfl hs (sp_in_L h6 rfl) rfl ?_
  refine ev_st (st' := [.int (xs 2), .int (xs 1), .ref 1]) rfl ?_
  refine ev_x (i := .aload_n 3) (len := 1) (p' := 376) (s' := [.ref 187, .int (xs 2), .int (xs 1), .ref 1]) rfl rfl rfl ?_
  refine ev_callS (d := d + 9) (As := [.ref 1, .int (xs 1), .int (xs 2), .ref 187]) rfl rfl rfl (by decide) rfl rfl rfl rfl rfl (wl8a_62 (d := d + 0) (c_1 := c_2)) ?_
  refine ev_st (st' := [.int 1]) rfl ?_
  refine ev_pc (pc' := 379) rfl ?_
  refine ev_x (i := .istore 5) (len := 2) (p' := 381) (s' := []) (l' := [(5, .int 1), (4, .int 0), (3, .ref 187), (2, .ref 66), (1, .ref 1), (0, .ref 0)]) rfl rfl rfl ?_
  refine ev_x (i := .aload_n 2) (len := 1) (p' := 382) (s' := [.ref 66]) rfl rfl rfl ?_
  refine ev_x (i := .aload_n 0) (len := 1) (p' := 383) (s' := [.ref 0, .ref 66]) rfl rfl rfl ?_
  refine ev_x (i := .iload 4) (len := 2) (p' := 385) (s' := [.int 0, .ref 0, .ref 66]) rfl rfl rfl ?_
  refine ev_x (i := .iconst 1) (len := 1) (p' := 386) (s' := [.int 1, .int 0, .ref 0, .ref 66]) rfl rfl rfl ?_
  refine ev_x (i := .iadd) (len := 1) (p' := 387) (s' := [.int 1, .ref 0, .ref 66]) rfl rfl rfl ?_
  refine ev_sg (p' := 388) rfl rfl hs (sp_in_L h6 rfl) rfl ?_
  refine ev_st (st' := [.int (xs 1), .ref 66]) rfl ?_
  refine ev_x (i := .aload_n 0) (len := 1) (p' := 389) (s' := [.ref 0, .int (xs 1), .ref 66]) rfl rfl rfl ?_
  refine ev_x (i := .iload 4) (len := 2) (p' := 391) (s' := [.int 0, .ref 0, .int (xs 1), .ref 66]) rfl rfl rfl ?_
  refine ev_x (i := .iconst 2) (len := 1) (p' := 392) (s' := [.int 2, .int 0, .ref 0, .int (xs 1), .ref 66]) rfl rfl rfl ?_
  refine ev_x (i := .iadd) (len := 1) (p' := 393) (s' := [.int 2, .ref 0, .int (xs 1), .ref 66]) rfl rfl rfl ?_
  refine ev_sg (p' := 394) rfl rfl hs (sp_in_L h6 rfl) rfl ?_
  refine ev_st (st' := [.int (xs 2), .int (xs 1), .ref 66]) rfl ?_
  refine ev_cv (d := d + 9) (As := [.int (xs 1), .int (xs 2)]) (a := 66) (p' := 397) rfl rfl rfl ly_66 rfl rfl rfl rfl rfl rfl rfl (wl8a_63 (d := d + 8) (c_1 := c_2)) ?_
  refine ev_st (st' := [.int 0]) rfl ?_
  refine ev_x (i := .istore 6) (len := 2) (p' := 399) (s' := []) (l' := [(6, .int 0), (5, .int 1), (4, .int 0), (3, .ref 187), (2, .ref 66), (1, .ref 1), (0, .ref 0)]) rfl rfl rfl ?_
  refine ev_x (i := .aload_n 2) (len := 1) (p' := 400) (s' := [.ref 66]) rfl rfl rfl ?_
  refine ev_cv (d := d + 9) (As := []) (a := 66) (p' := 403) rfl rfl rfl ly_66 rfl rfl rfl rfl rfl rfl rfl (wl8a_64 (d := d + 8) (hi_66_0 := rfl)) ?_
  refine ev_st (st' := [.int 1]) rfl ?_
  refine ev_x (i := .iload 5) (len := 2) (p' := 405) (s' := [.int 1, .int 1]) rfl rfl rfl ?_
  refine ev_b2 (t := 410) (p' := 410) rfl rfl rfl (by decide) ?_
  refine ev_x (i := .iload 5) (len := 2) (p' := 412) (s' := [.int 1]) rfl rfl rfl ?_
  refine ev_b0 (t := 427) (p' := 427) rfl rfl rfl (by decide) ?_
  refine ev_x (i := .goto 188) (len := 3) (p' := 615) (s' := []) rfl rfl rfl ?_
  refine ev_x (i := .iinc 4 6) (len := 3) (p' := 618) (s' := []) (l' := [(4, .int 6), (6, .int 0), (5, .int 1), (3, .ref 187), (2, .ref 66), (1, .ref 1), (0, .ref 0)]) rfl rfl rfl ?_
  refine ev_x (i := .goto (-595)) (len := 3) (p' := 23) (s' := []) rfl rfl rfl ?_
  refine ev_x (i := .iload 4) (len := 2) (p' := 25) (s' := [.int 6]) rfl rfl rfl ?_
  refine ev_x (i := .aload_n 0) (len := 1) (p' := 26) (s' := [.ref 0, .int 6]) rfl rfl rfl ?_
  refine ev_sl (p' := 27) rfl rfl hs rfl ?_
  refine ev_x (i := .bipush 6) (len := 2) (p' := 29) (s' := [.int 6, .int (Int32.ofNat L), .int 6]) rfl rfl rfl ?_
  refine ev_x (i := .isub) (len := 1) (p' := 30) (s' := [.int ((Int32.ofNat L) - 6), .int 6]) rfl rfl rfl ?_
  refine ev_b2 (t := 621) (p' := 621) rfl rfl rfl (if_pos c_3) ?_
  refine ev_x (i := .iconst 1) (len := 1) (p' := 622) (s' := [.int 1]) rfl rfl rfl ?_
  exact ev_iret rfl rfl rfl rfl
set_option maxHeartbeats 4000000 in
set_option maxRecDepth 100000 in
/-- GameText$Graph.hasState(I)Z -/
theorem wl8b_66 {d : Nat} {σ : st_S} {xs : Nat → Int32} (hi_52_10 : σ.1 52 10 = 0) (c_1 : ¬ ((xs 1) < 0)) (c_2 : 0 ≤ (xs 1)) : vz_ev P0 (d + 1) 97 0 (lv_args 0 [.ref 52, .int (xs 1)]) [] (hp σ) (.inl (some (.int 0)), hp (σ)) := by
  refine ev_x (i := .iload_n 1) (len := 1) (p' := 1) (s' := [.int (xs 1)]) rfl rfl rfl ?_
  refine ev_b0 (t := 16) (p' := 4) rfl rfl rfl (if_neg c_1) ?_
  refine ev_x (i := .iload_n 1) (len := 1) (p' := 5) (s' := [.int (xs 1)]) rfl rfl rfl ?_
  refine ev_x (i := .aload_n 0) (len := 1) (p' := 6) (s' := [.ref 52, .int (xs 1)]) rfl rfl rfl ?_
  refine ev_gi (p' := 9) (v := 0) rfl rfl rfl ly_52 rfl rfl hi_52_10 ?_
  refine ev_b2 (t := 16) (p' := 16) rfl rfl rfl (if_pos c_2) ?_
  refine ev_x (i := .iconst 0) (len := 1) (p' := 17) (s' := [.int 0]) rfl rfl rfl ?_
  exact ev_iret rfl rfl rfl rfl
set_option maxHeartbeats 4000000 in
set_option maxRecDepth 100000 in
/-- GameText.variable(II)I -/
theorem wl8b_67 {d : Nat} {σ : st_S} {xs : Nat → Int32} (hi_52_10 : σ.1 52 10 = 0) (c_1 : ¬ ((xs 1) < 0)) (c_2 : 0 ≤ (xs 1)) : vz_ev P0 (d + 8) 126 0 (lv_args 0 [.ref 1, .int (xs 1), .int (xs 2)]) [] (hp σ) (.inr "java/lang/IndexOutOfBoundsException", hp (st_n ((σ)) 1 6)) := by
  refine ev_x (i := .aload_n 0) (len := 1) (p' := 1) (s' := [.ref 1]) rfl rfl rfl ?_
  refine ev_gc (p' := 4) (v := 52) rfl rfl rfl ly_1 rfl rfl ?_
  refine ev_x (i := .iload_n 1) (len := 1) (p' := 5) (s' := [.int (xs 1), .ref 52]) rfl rfl rfl ?_
  refine ev_cv (d := d + 7) (As := [.int (xs 1)]) (a := 52) (p' := 8) rfl rfl rfl ly_52 rfl rfl rfl rfl rfl rfl rfl (wl8b_66 (d := d + 6) (c_1 := c_1) (c_2 := c_2) (hi_52_10 := hi_52_10)) ?_
  refine ev_st (st' := [.int 0]) rfl ?_
  refine ev_b0 (t := 26) (p' := 26) rfl rfl rfl (by decide) ?_
  exact ev_thr rfl rfl rfl
set_option maxHeartbeats 4000000 in
set_option maxRecDepth 100000 in
/-- GameTextLaw.variable(LGameText;II[J)I -/
theorem wl8b_68 {d : Nat} {σ : st_S} {xs : Nat → Int32} (hi_52_10 : σ.1 52 10 = 0) (c_1 : ¬ ((xs 1) < 0)) (c_2 : 0 ≤ (xs 1)) : vz_ev P0 (d + 9) 125 0 (lv_args 0 [.ref 1, .int (xs 1), .int (xs 2), .ref 187]) [] (hp σ) (.inl (some (.int 1)), hp (st_n (((σ))) 1 6)) := by
  refine ev_x (i := .aload_n 3) (len := 1) (p' := 1) (s' := [.ref 187]) rfl rfl rfl ?_
  refine ev_x (i := .iconst 0) (len := 1) (p' := 2) (s' := [.int 0, .ref 187]) rfl rfl rfl ?_
  refine ev_x (i := .aload_n 0) (len := 1) (p' := 3) (s' := [.ref 1, .int 0, .ref 187]) rfl rfl rfl ?_
  refine ev_x (i := .iload_n 1) (len := 1) (p' := 4) (s' := [.int (xs 1), .ref 1, .int 0, .ref 187]) rfl rfl rfl ?_
  refine ev_x (i := .iload_n 2) (len := 1) (p' := 5) (s' := [.int (xs 2), .int (xs 1), .ref 1, .int 0, .ref 187]) rfl rfl rfl ?_
  refine ev_caught (d := d + 8) (As := [.int (xs 1), .int (xs 2)]) (a := 1) (t := ("java/lang/IndexOutOfBoundsException", 15, 4)) (E := "java/lang/IndexOutOfBoundsException") rfl rfl rfl rfl (hp_obj _ ly_1) rfl rfl rfl rfl rfl rfl (beq_self_eq_true _) (wl8b_67 (d := d + 0) (c_1 := c_1) (c_2 := c_2) (hi_52_10 := hi_52_10)) ?_
  refine ev_lv (lv' := [(0, .ref 1), (1, .int (xs 1)), (2, .int (xs 2)), (3, .ref 187)]) rfl ?_
  refine ev_pc (pc' := 15) rfl ?_
  refine ev_x (i := .iconst 1) (len := 1) (p' := 16) (s' := [.int 1]) rfl rfl rfl ?_
  exact ev_iret rfl rfl rfl rfl
set_option maxHeartbeats 4000000 in
set_option maxRecDepth 100000 in
/-- GameTextModel.variable(II)I -/
theorem wl8b_69 {d : Nat} {σ : st_S} {xs : Nat → Int32} (hi_66_29 : σ.1 66 29 = 0) (c_1 : ¬ ((xs 1) < 0)) (c_2 : 0 ≤ (xs 1)) : vz_ev P0 (d + 1) 222 0 (lv_args 0 [.ref 66, .int (xs 1), .int (xs 2)]) [] (hp σ) (.inl (some (.int 0)), hp (st_i (σ) 66 0 1)) := by
  refine ev_x (i := .aload_n 0) (len := 1) (p' := 1) (s' := [.ref 66]) rfl rfl rfl ?_
  refine ev_x (i := .iload_n 1) (len := 1) (p' := 2) (s' := [.int (xs 1), .ref 66]) rfl rfl rfl ?_
  refine ev_b0 (t := 28) (p' := 5) rfl rfl rfl (if_neg c_1) ?_
  refine ev_x (i := .iload_n 1) (len := 1) (p' := 6) (s' := [.int (xs 1), .ref 66]) rfl rfl rfl ?_
  refine ev_x (i := .aload_n 0) (len := 1) (p' := 7) (s' := [.ref 66, .int (xs 1), .ref 66]) rfl rfl rfl ?_
  refine ev_gi (p' := 10) (v := 0) rfl rfl rfl ly_66 rfl rfl hi_66_29 ?_
  refine ev_b2 (t := 28) (p' := 28) rfl rfl rfl (if_pos c_2) ?_
  refine ev_x (i := .iconst 1) (len := 1) (p' := 29) (s' := [.int 1, .ref 66]) rfl rfl rfl ?_
  refine ev_x (i := .goto 4) (len := 3) (p' := 33) (s' := [.int 1, .ref 66]) rfl rfl rfl ?_
  refine ev_pi (p' := 36) rfl rfl rfl ly_66 rfl rfl rfl rfl ?_
  refine ev_x (i := .aload_n 0) (len := 1) (p' := 37) (s' := [.ref 66]) rfl rfl rfl ?_
  refine ev_gi (p' := 40) (v := 1) rfl rfl rfl ly_66 rfl rfl rfl ?_
  refine ev_b0 (t := 47) (p' := 43) rfl rfl rfl (by decide) ?_
  refine ev_x (i := .iconst 0) (len := 1) (p' := 44) (s' := [.int 0]) rfl rfl rfl ?_
  refine ev_x (i := .goto 14) (len := 3) (p' := 58) (s' := [.int 0]) rfl rfl rfl ?_
  exact ev_iret rfl rfl rfl rfl
set_option maxHeartbeats 4000000 in
set_option maxRecDepth 100000 in
/-- GameTextModel.thrown()I -/
theorem wl8b_70 {d : Nat} {σ : st_S} (hi_66_0 : σ.1 66 0 = 1) : vz_ev P0 (d + 1) 130 0 (lv_args 0 [.ref 66]) [] (hp σ) (.inl (some (.int 1)), hp (σ)) := by
  refine ev_x (i := .aload_n 0) (len := 1) (p' := 1) (s' := [.ref 66]) rfl rfl rfl ?_
  refine ev_gi (p' := 4) (v := 1) rfl rfl rfl ly_66 rfl rfl hi_66_0 ?_
  exact ev_iret rfl rfl rfl rfl
set_option maxHeartbeats 4000000 in
set_option maxRecDepth 100000 in
/-- GameTextLaw.law([I)Z -/
theorem law_8b {d : Nat} {σ : st_S} {L : Nat} {xs : Nat → Int32} (hs : σ.2.2.2.2.2.2.1 0 = .inl (0, L, .inl xs)) (h6 : 6 ≤ L) (hi_52_10 : σ.1 52 10 = 0) (hi_66_29 : σ.1 66 29 = 0) (c_1 : ¬ (((Int32.ofNat L) - 6) < 0)) (hx : ((xs 0) &&& 15) = 8) (c_2 : ¬ ((xs 1) < 0)) (c_3 : 0 ≤ (xs 1)) (c_4 : ((Int32.ofNat L) - 6) < 6) : vz_ev P0 (d + 10) 0 23 ([(4, .int 0), (3, .ref 187), (2, .ref 66), (1, .ref 1), (0, .ref 0)]) [] (hp σ) (.inl (some (.int 1)), hp ((st_i ((st_n ((((σ)))) 1 6)) 66 0 1))) := by
  refine ev_x (i := .iload 4) (len := 2) (p' := 25) (s' := [.int 0]) rfl rfl rfl ?_
  refine ev_x (i := .aload_n 0) (len := 1) (p' := 26) (s' := [.ref 0, .int 0]) rfl rfl rfl ?_
  refine ev_sl (p' := 27) rfl rfl hs rfl ?_
  refine ev_x (i := .bipush 6) (len := 2) (p' := 29) (s' := [.int 6, .int (Int32.ofNat L), .int 0]) rfl rfl rfl ?_
  refine ev_x (i := .isub) (len := 1) (p' := 30) (s' := [.int ((Int32.ofNat L) - 6), .int 0]) rfl rfl rfl ?_
  refine ev_b2 (t := 621) (p' := 33) rfl rfl rfl (if_neg c_1) ?_
  refine ev_x (i := .aload_n 0) (len := 1) (p' := 34) (s' := [.ref 0]) rfl rfl rfl ?_
  refine ev_x (i := .iload 4) (len := 2) (p' := 36) (s' := [.int 0, .ref 0]) rfl rfl rfl ?_
  refine ev_sg (p' := 37) rfl rfl hs (sp_in_L h6 rfl) rfl ?_
  refine ev_st (st' := [.int (xs 0)]) rfl ?_
  refine ev_x (i := .bipush 15) (len := 2) (p' := 39) (s' := [.int 15, .int (xs 0)]) rfl rfl rfl ?_
  refine ev_x (i := .iand) (len := 1) (p' := 40) (s' := [.int ((xs 0) &&& 15)]) rfl rfl rfl ?_
  refine ev_st (st' := [.int 8]) (congrArg (fun z => [Value.int z]) hx) ?_
  refine ev_ts (off := 322) (t := 362) rfl rfl (by decide) rfl ?_
  refine ev_x (i := .aload_n 1) (len := 1) (p' := 363) (s' := [.ref 1]) rfl rfl rfl ?_
  refine ev_x (i := .aload_n 0) (len := 1) (p' := 364) (s' := [.ref 0, .ref 1]) rfl rfl rfl ?_
  refine ev_x (i := .iload 4) (len := 2) (p' := 366) (s' := [.int 0, .ref 0, .ref 1]) rfl rfl rfl ?_
  refine ev_x (i := .iconst 1) (len := 1) (p' := 367) (s' := [.int 1, .int 0, .ref 0, .ref 1]) rfl rfl rfl ?_
  refine ev_x (i := .iadd) (len := 1) (p' := 368) (s' := [.int 1, .ref 0, .ref 1]) rfl rfl rfl ?_
  refine ev_sg (p' := 369) rfl rfl hs (sp_in_L h6 rfl) rfl ?_
  refine ev_st (st' := [.int (xs 1), .ref 1]) rfl ?_
  refine ev_x (i := .aload_n 0) (len := 1) (p' := 370) (s' := [.ref 0, .int (xs 1), .ref 1]) rfl rfl rfl ?_
  refine ev_x (i := .iload 4) (len := 2) (p' := 372) (s' := [.int 0, .ref 0, .int (xs 1), .ref 1]) rfl rfl rfl ?_
  refine ev_x (i := .iconst 2) (len := 1) (p' := 373) (s' := [.int 2, .int 0, .ref 0, .int (xs 1), .ref 1]) rfl rfl rfl ?_
  refine ev_x (i := .iadd) (len := 1) (p' := 374) (s' := [.int 2, .ref 0, .int (xs 1), .ref 1]) rfl rfl rfl ?_
  refine ev_sg (p' := 375) rfl rfl hs (sp_in_L h6 rfl) rfl ?_
  refine ev_st (st' := [.int (xs 2), .int (xs 1), .ref 1]) rfl ?_
  refine ev_x (i := .aload_n 3) (len := 1) (p' := 376) (s' := [.ref 187, .int (xs 2), .int (xs 1), .ref 1]) rfl rfl rfl ?_
  refine ev_callS (d := d + 9) (As := [.ref 1, .int (xs 1), .int (xs 2), .ref 187]) rfl rfl rfl (by decide) rfl rfl rfl rfl rfl (wl8b_68 (d := d + 0) (c_1 := c_2) (c_2 := c_3) (hi_52_10 := hi_52_10)) ?_
  refine ev_st (st' := [.int 1]) rfl ?_
  refine ev_pc (pc' := 379) rfl ?_
  refine ev_x (i := .istore 5) (len := 2) (p' := 381) (s' := []) (l' := [(5, .int 1), (4, .int 0), (3, .ref 187), (2, .ref 66), (1, .ref 1), (0, .ref 0)]) rfl rfl rfl ?_
  refine ev_x (i := .aload_n 2) (len := 1) (p' := 382) (s' := [.ref 66]) rfl rfl rfl ?_
  refine ev_x (i := .aload_n 0) (len := 1) (p' := 383) (s' := [.ref 0, .ref 66]) rfl rfl rfl ?_
  refine ev_x (i := .iload 4) (len := 2) (p' := 385) (s' := [.int 0, .ref 0, .ref 66]) rfl rfl rfl ?_
  refine ev_x (i := .iconst 1) (len := 1) (p' := 386) (s' := [.int 1, .int 0, .ref 0, .ref 66]) rfl rfl rfl ?_
  refine ev_x (i := .iadd) (len := 1) (p' := 387) (s' := [.int 1, .ref 0, .ref 66]) rfl rfl rfl ?_
  refine ev_sg (p' := 388) rfl rfl hs (sp_in_L h6 rfl) rfl ?_
  refine ev_st (st' := [.int (xs 1), .ref 66]) rfl ?_
  refine ev_x (i := .aload_n 0) (len := 1) (p' := 389) (s' := [.ref 0, .int (xs 1), .ref 66]) rfl rfl rfl ?_
  refine ev_x (i := .iload 4) (len := 2) (p' := 391) (s' := [.int 0, .ref 0, .int (xs 1), .ref 66]) rfl rfl rfl ?_
  refine ev_x (i := .iconst 2) (len := 1) (p' := 392) (s' := [.int 2, .int 0, .ref 0, .int (xs 1), .ref 66]) rfl rfl rfl ?_
  refine ev_x (i := .iadd) (len := 1) (p' := 393) (s' := [.int 2, .ref 0, .int (xs 1), .ref 66]) rfl rfl rfl ?_
  refine ev_sg (p' := 394) rfl rfl hs (sp_in_L h6 rfl) rfl ?_
  refine ev_st (st' := [.int (xs 2), .int (xs 1), .ref 66]) rfl ?_
  refine ev_cv (d := d + 9) (As := [.int (xs 1), .int (xs 2)]) (a := 66) (p' := 397) rfl rfl rfl ly_66 rfl rfl rfl rfl rfl rfl rfl (wl8b_69 (d := d + 8) (c_1 := c_2) (c_2 := c_3) (hi_66_29 := hi_66_29)) ?_
  refine ev_st (st' := [.int 0]) rfl ?_
  refine ev_x (i := .istore 6) (len := 2) (p' := 399) (s' := []) (l' := [(6, .int 0), (5, .int 1), (4, .int 0), (3, .ref 187), (2, .ref 66), (1, .ref 1), (0, .ref 0)]) rfl rfl rfl ?_
  refine ev_x (i := .aload_n 2) (len := 1) (p' := 400) (s' := [.ref 66]) rfl rfl rfl ?_
  refine ev_cv (d := d + 9) (As := []) (a := 66) (p' := 403) rfl rfl rfl ly_66 rfl rfl rfl rfl rfl rfl rfl (wl8b_70 (d := d + 8) (hi_66_0 := rfl)) ?_
  refine ev_st (st' := [.int 1]) rfl ?_
  refine ev_x (i := .iload 5) (len := 2) (p' := 405) (s' := [.int 1, .int 1]) rfl rfl rfl ?_
  refine ev_b2 (t := 410) (p' := 410) rfl rfl rfl (by decide) ?_
  refine ev_x (i := .iload 5) (len := 2) (p' := 412) (s' := [.int 1]) rfl rfl rfl ?_
  refine ev_b0 (t := 427) (p' := 427) rfl rfl rfl (by decide) ?_
  refine ev_x (i := .goto 188) (len := 3) (p' := 615) (s' := []) rfl rfl rfl ?_
  refine ev_x (i := .iinc 4 6) (len := 3) (p' := 618) (s' := []) (l' := [(4, .int 6), (6, .int 0), (5, .int 1), (3, .ref 187), (2, .ref 66), (1, .ref 1), (0, .ref 0)]) rfl rfl rfl ?_
  refine ev_x (i := .goto (-595)) (len := 3) (p' := 23) (s' := []) rfl rfl rfl ?_
  refine ev_x (i := .iload 4) (len := 2) (p' := 25) (s' := [.int 6]) rfl rfl rfl ?_
  refine ev_x (i := .aload_n 0) (len := 1) (p' := 26) (s' := [.ref 0, .int 6]) rfl rfl rfl ?_
  refine ev_sl (p' := 27) rfl rfl hs rfl ?_
  refine ev_x (i := .bipush 6) (len := 2) (p' := 29) (s' := [.int 6, .int (Int32.ofNat L), .int 6]) rfl rfl rfl ?_
  refine ev_x (i := .isub) (len := 1) (p' := 30) (s' := [.int ((Int32.ofNat L) - 6), .int 6]) rfl rfl rfl ?_
  refine ev_b2 (t := 621) (p' := 621) rfl rfl rfl (if_pos c_4) ?_
  refine ev_x (i := .iconst 1) (len := 1) (p' := 622) (s' := [.int 1]) rfl rfl rfl ?_
  exact ev_iret rfl rfl rfl rfl
set_option maxHeartbeats 4000000 in
set_option maxRecDepth 100000 in
/-- GameText$Graph.hasState(I)Z -/
theorem wl9a_72 {d : Nat} {σ : st_S} {xs : Nat → Int32} (c_1 : (xs 1) < 0) : vz_ev P0 (d + 1) 97 0 (lv_args 0 [.ref 52, .int (xs 1)]) [] (hp σ) (.inl (some (.int 0)), hp (σ)) := by
  refine ev_x (i := .iload_n 1) (len := 1) (p' := 1) (s' := [.int (xs 1)]) rfl rfl rfl ?_
  refine ev_b0 (t := 16) (p' := 16) rfl rfl rfl (if_pos c_1) ?_
  refine ev_x (i := .iconst 0) (len := 1) (p' := 17) (s' := [.int 0]) rfl rfl rfl ?_
  exact ev_iret rfl rfl rfl rfl
set_option maxHeartbeats 4000000 in
set_option maxRecDepth 100000 in
/-- GameText.kind(I)I -/
theorem wl9a_73 {d : Nat} {σ : st_S} {xs : Nat → Int32} (c_1 : (xs 1) < 0) : vz_ev P0 (d + 2) 96 0 (lv_args 0 [.ref 1, .int (xs 1)]) [] (hp σ) (.inl (some (.int (-1))), hp ((σ))) := by
  refine ev_x (i := .aload_n 0) (len := 1) (p' := 1) (s' := [.ref 1]) rfl rfl rfl ?_
  refine ev_gc (p' := 4) (v := 52) rfl rfl rfl ly_1 rfl rfl ?_
  refine ev_x (i := .iload_n 1) (len := 1) (p' := 5) (s' := [.int (xs 1), .ref 52]) rfl rfl rfl ?_
  refine ev_cv (d := d + 1) (As := [.int (xs 1)]) (a := 52) (p' := 8) rfl rfl rfl ly_52 rfl rfl rfl rfl rfl rfl rfl (wl9a_72 (d := d + 0) (c_1 := c_1)) ?_
  refine ev_st (st' := [.int 0]) rfl ?_
  refine ev_b0 (t := 23) (p' := 23) rfl rfl rfl (by decide) ?_
  refine ev_x (i := .iconst (-1)) (len := 1) (p' := 24) (s' := [.int (-1)]) rfl rfl rfl ?_
  exact ev_iret rfl rfl rfl rfl
set_option maxHeartbeats 4000000 in
set_option maxRecDepth 100000 in
/-- GameTextModel.isState(I)Z -/
theorem wl9a_74 {d : Nat} {σ : st_S} {xs : Nat → Int32} (c_1 : (xs 1) < 0) : vz_ev P0 (d + 1) 224 0 (lv_args 0 [.ref 66, .int (xs 1)]) [] (hp σ) (.inl (some (.int 0)), hp (st_i (σ) 66 0 0)) := by
  refine ev_x (i := .aload_n 0) (len := 1) (p' := 1) (s' := [.ref 66]) rfl rfl rfl ?_
  refine ev_x (i := .iconst 0) (len := 1) (p' := 2) (s' := [.int 0, .ref 66]) rfl rfl rfl ?_
  refine ev_pi (p' := 5) rfl rfl rfl ly_66 rfl rfl rfl rfl ?_
  refine ev_x (i := .iload_n 1) (len := 1) (p' := 6) (s' := [.int (xs 1)]) rfl rfl rfl ?_
  refine ev_b0 (t := 21) (p' := 21) rfl rfl rfl (if_pos c_1) ?_
  refine ev_x (i := .iconst 0) (len := 1) (p' := 22) (s' := [.int 0]) rfl rfl rfl ?_
  exact ev_iret rfl rfl rfl rfl
set_option maxHeartbeats 4000000 in
set_option maxRecDepth 100000 in
/-- GameTextModel.kind(I)I -/
theorem wl9a_75 {d : Nat} {σ : st_S} {xs : Nat → Int32} (c_1 : (xs 1) < 0) : vz_ev P0 (d + 2) 223 0 (lv_args 0 [.ref 66, .int (xs 1)]) [] (hp σ) (.inl (some (.int (-1))), hp (st_i ((σ)) 66 0 0)) := by
  refine ev_x (i := .aload_n 0) (len := 1) (p' := 1) (s' := [.ref 66]) rfl rfl rfl ?_
  refine ev_x (i := .iload_n 1) (len := 1) (p' := 2) (s' := [.int (xs 1), .ref 66]) rfl rfl rfl ?_
  refine ev_cv (d := d + 1) (As := [.int (xs 1)]) (a := 66) (p' := 5) rfl rfl rfl ly_66 rfl rfl rfl rfl rfl rfl rfl (wl9a_74 (d := d + 0) (c_1 := c_1)) ?_
  refine ev_st (st' := [.int 0]) rfl ?_
  refine ev_b0 (t := 17) (p' := 17) rfl rfl rfl (by decide) ?_
  refine ev_x (i := .iconst (-1)) (len := 1) (p' := 18) (s' := [.int (-1)]) rfl rfl rfl ?_
  exact ev_iret rfl rfl rfl rfl
set_option maxHeartbeats 4000000 in
set_option maxRecDepth 100000 in
/-- GameTextLaw.law([I)Z -/
theorem law_9a {d : Nat} {σ : st_S} {L : Nat} {xs : Nat → Int32} (hs : σ.2.2.2.2.2.2.1 0 = .inl (0, L, .inl xs)) (h6 : 6 ≤ L) (c_1 : ¬ (((Int32.ofNat L) - 6) < 0)) (hx : ((xs 0) &&& 15) = 9) (c_2 : (xs 1) < 0) (c_3 : ((Int32.ofNat L) - 6) < 6) : vz_ev P0 (d + 3) 0 23 ([(4, .int 0), (3, .ref 187), (2, .ref 66), (1, .ref 1), (0, .ref 0)]) [] (hp σ) (.inl (some (.int 1)), hp (st_i (((((σ))))) 66 0 0)) := by
  refine ev_x (i := .iload 4) (len := 2) (p' := 25) (s' := [.int 0]) rfl rfl rfl ?_
  refine ev_x (i := .aload_n 0) (len := 1) (p' := 26) (s' := [.ref 0, .int 0]) rfl rfl rfl ?_
  refine ev_sl (p' := 27) rfl rfl hs rfl ?_
  refine ev_x (i := .bipush 6) (len := 2) (p' := 29) (s' := [.int 6, .int (Int32.ofNat L), .int 0]) rfl rfl rfl ?_
  refine ev_x (i := .isub) (len := 1) (p' := 30) (s' := [.int ((Int32.ofNat L) - 6), .int 0]) rfl rfl rfl ?_
  refine ev_b2 (t := 621) (p' := 33) rfl rfl rfl (if_neg c_1) ?_
  refine ev_x (i := .aload_n 0) (len := 1) (p' := 34) (s' := [.ref 0]) rfl rfl rfl ?_
  refine ev_x (i := .iload 4) (len := 2) (p' := 36) (s' := [.int 0, .ref 0]) rfl rfl rfl ?_
  refine ev_sg (p' := 37) rfl rfl hs (sp_in_L h6 rfl) rfl ?_
  refine ev_st (st' := [.int (xs 0)]) rfl ?_
  refine ev_x (i := .bipush 15) (len := 2) (p' := 39) (s' := [.int 15, .int (xs 0)]) rfl rfl rfl ?_
  refine ev_x (i := .iand) (len := 1) (p' := 40) (s' := [.int ((xs 0) &&& 15)]) rfl rfl rfl ?_
  refine ev_st (st' := [.int 9]) (congrArg (fun z => [Value.int z]) hx) ?_
  refine ev_ts (off := 390) (t := 430) rfl rfl (by decide) rfl ?_
  refine ev_x (i := .aload_n 1) (len := 1) (p' := 431) (s' := [.ref 1]) rfl rfl rfl ?_
  refine ev_x (i := .aload_n 0) (len := 1) (p' := 432) (s' := [.ref 0, .ref 1]) rfl rfl rfl ?_
  refine ev_x (i := .iload 4) (len := 2) (p' := 434) (s' := [.int 0, .ref 0, .ref 1]) rfl rfl rfl ?_
  refine ev_x (i := .iconst 1) (len := 1) (p' := 435) (s' := [.int 1, .int 0, .ref 0, .ref 1]) rfl rfl rfl ?_
  refine ev_x (i := .iadd) (len := 1) (p' := 436) (s' := [.int 1, .ref 0, .ref 1]) rfl rfl rfl ?_
  refine ev_sg (p' := 437) rfl rfl hs (sp_in_L h6 rfl) rfl ?_
  refine ev_st (st' := [.int (xs 1), .ref 1]) rfl ?_
  refine ev_cv (d := d + 2) (As := [.int (xs 1)]) (a := 1) (p' := 440) rfl rfl rfl ly_1 rfl rfl rfl rfl rfl rfl rfl (wl9a_73 (d := d + 0) (c_1 := c_2)) ?_
  refine ev_st (st' := [.int (-1)]) rfl ?_
  refine ev_x (i := .aload_n 2) (len := 1) (p' := 441) (s' := [.ref 66, .int (-1)]) rfl rfl rfl ?_
  refine ev_x (i := .aload_n 0) (len := 1) (p' := 442) (s' := [.ref 0, .ref 66, .int (-1)]) rfl rfl rfl ?_
  refine ev_x (i := .iload 4) (len := 2) (p' := 444) (s' := [.int 0, .ref 0, .ref 66, .int (-1)]) rfl rfl rfl ?_
  refine ev_x (i := .iconst 1) (len := 1) (p' := 445) (s' := [.int 1, .int 0, .ref 0, .ref 66, .int (-1)]) rfl rfl rfl ?_
  refine ev_x (i := .iadd) (len := 1) (p' := 446) (s' := [.int 1, .ref 0, .ref 66, .int (-1)]) rfl rfl rfl ?_
  refine ev_sg (p' := 447) rfl rfl hs (sp_in_L h6 rfl) rfl ?_
  refine ev_st (st' := [.int (xs 1), .ref 66, .int (-1)]) rfl ?_
  refine ev_cv (d := d + 2) (As := [.int (xs 1)]) (a := 66) (p' := 450) rfl rfl rfl ly_66 rfl rfl rfl rfl rfl rfl rfl (wl9a_75 (d := d + 0) (c_1 := c_2)) ?_
  refine ev_st (st' := [.int (-1), .int (-1)]) rfl ?_
  refine ev_b2 (t := 615) (p' := 615) rfl rfl rfl (by decide) ?_
  refine ev_x (i := .iinc 4 6) (len := 3) (p' := 618) (s' := []) (l' := [(4, .int 6), (3, .ref 187), (2, .ref 66), (1, .ref 1), (0, .ref 0)]) rfl rfl rfl ?_
  refine ev_x (i := .goto (-595)) (len := 3) (p' := 23) (s' := []) rfl rfl rfl ?_
  refine ev_x (i := .iload 4) (len := 2) (p' := 25) (s' := [.int 6]) rfl rfl rfl ?_
  refine ev_x (i := .aload_n 0) (len := 1) (p' := 26) (s' := [.ref 0, .int 6]) rfl rfl rfl ?_
  refine ev_sl (p' := 27) rfl rfl hs rfl ?_
  refine ev_x (i := .bipush 6) (len := 2) (p' := 29) (s' := [.int 6, .int (Int32.ofNat L), .int 6]) rfl rfl rfl ?_
  refine ev_x (i := .isub) (len := 1) (p' := 30) (s' := [.int ((Int32.ofNat L) - 6), .int 6]) rfl rfl rfl ?_
  refine ev_b2 (t := 621) (p' := 621) rfl rfl rfl (if_pos c_3) ?_
  refine ev_x (i := .iconst 1) (len := 1) (p' := 622) (s' := [.int 1]) rfl rfl rfl ?_
  exact ev_iret rfl rfl rfl rfl
set_option maxHeartbeats 4000000 in
set_option maxRecDepth 100000 in
/-- GameText$Graph.hasState(I)Z -/
theorem wl9b_77 {d : Nat} {σ : st_S} {xs : Nat → Int32} (hi_52_10 : σ.1 52 10 = 0) (c_1 : ¬ ((xs 1) < 0)) (c_2 : 0 ≤ (xs 1)) : vz_ev P0 (d + 1) 97 0 (lv_args 0 [.ref 52, .int (xs 1)]) [] (hp σ) (.inl (some (.int 0)), hp (σ)) := by
  refine ev_x (i := .iload_n 1) (len := 1) (p' := 1) (s' := [.int (xs 1)]) rfl rfl rfl ?_
  refine ev_b0 (t := 16) (p' := 4) rfl rfl rfl (if_neg c_1) ?_
  refine ev_x (i := .iload_n 1) (len := 1) (p' := 5) (s' := [.int (xs 1)]) rfl rfl rfl ?_
  refine ev_x (i := .aload_n 0) (len := 1) (p' := 6) (s' := [.ref 52, .int (xs 1)]) rfl rfl rfl ?_
  refine ev_gi (p' := 9) (v := 0) rfl rfl rfl ly_52 rfl rfl hi_52_10 ?_
  refine ev_b2 (t := 16) (p' := 16) rfl rfl rfl (if_pos c_2) ?_
  refine ev_x (i := .iconst 0) (len := 1) (p' := 17) (s' := [.int 0]) rfl rfl rfl ?_
  exact ev_iret rfl rfl rfl rfl
set_option maxHeartbeats 4000000 in
set_option maxRecDepth 100000 in
/-- GameText.kind(I)I -/
theorem wl9b_78 {d : Nat} {σ : st_S} {xs : Nat → Int32} (hi_52_10 : σ.1 52 10 = 0) (c_1 : ¬ ((xs 1) < 0)) (c_2 : 0 ≤ (xs 1)) : vz_ev P0 (d + 2) 96 0 (lv_args 0 [.ref 1, .int (xs 1)]) [] (hp σ) (.inl (some (.int (-1))), hp ((σ))) := by
  refine ev_x (i := .aload_n 0) (len := 1) (p' := 1) (s' := [.ref 1]) rfl rfl rfl ?_
  refine ev_gc (p' := 4) (v := 52) rfl rfl rfl ly_1 rfl rfl ?_
  refine ev_x (i := .iload_n 1) (len := 1) (p' := 5) (s' := [.int (xs 1), .ref 52]) rfl rfl rfl ?_
  refine ev_cv (d := d + 1) (As := [.int (xs 1)]) (a := 52) (p' := 8) rfl rfl rfl ly_52 rfl rfl rfl rfl rfl rfl rfl (wl9b_77 (d := d + 0) (c_1 := c_1) (c_2 := c_2) (hi_52_10 := hi_52_10)) ?_
  refine ev_st (st' := [.int 0]) rfl ?_
  refine ev_b0 (t := 23) (p' := 23) rfl rfl rfl (by decide) ?_
  refine ev_x (i := .iconst (-1)) (len := 1) (p' := 24) (s' := [.int (-1)]) rfl rfl rfl ?_
  exact ev_iret rfl rfl rfl rfl
set_option maxHeartbeats 4000000 in
set_option maxRecDepth 100000 in
/-- GameTextModel.isState(I)Z -/
theorem wl9b_79 {d : Nat} {σ : st_S} {xs : Nat → Int32} (hi_66_29 : σ.1 66 29 = 0) (c_1 : ¬ ((xs 1) < 0)) (c_2 : 0 ≤ (xs 1)) : vz_ev P0 (d + 1) 224 0 (lv_args 0 [.ref 66, .int (xs 1)]) [] (hp σ) (.inl (some (.int 0)), hp (st_i (σ) 66 0 0)) := by
  refine ev_x (i := .aload_n 0) (len := 1) (p' := 1) (s' := [.ref 66]) rfl rfl rfl ?_
  refine ev_x (i := .iconst 0) (len := 1) (p' := 2) (s' := [.int 0, .ref 66]) rfl rfl rfl ?_
  refine ev_pi (p' := 5) rfl rfl rfl ly_66 rfl rfl rfl rfl ?_
  refine ev_x (i := .iload_n 1) (len := 1) (p' := 6) (s' := [.int (xs 1)]) rfl rfl rfl ?_
  refine ev_b0 (t := 21) (p' := 9) rfl rfl rfl (if_neg c_1) ?_
  refine ev_x (i := .iload_n 1) (len := 1) (p' := 10) (s' := [.int (xs 1)]) rfl rfl rfl ?_
  refine ev_x (i := .aload_n 0) (len := 1) (p' := 11) (s' := [.ref 66, .int (xs 1)]) rfl rfl rfl ?_
  refine ev_gi (p' := 14) (v := 0) rfl rfl rfl ly_66 rfl rfl hi_66_29 ?_
  refine ev_b2 (t := 21) (p' := 21) rfl rfl rfl (if_pos c_2) ?_
  refine ev_x (i := .iconst 0) (len := 1) (p' := 22) (s' := [.int 0]) rfl rfl rfl ?_
  exact ev_iret rfl rfl rfl rfl
set_option maxHeartbeats 4000000 in
set_option maxRecDepth 100000 in
/-- GameTextModel.kind(I)I -/
theorem wl9b_80 {d : Nat} {σ : st_S} {xs : Nat → Int32} (hi_66_29 : σ.1 66 29 = 0) (c_1 : ¬ ((xs 1) < 0)) (c_2 : 0 ≤ (xs 1)) : vz_ev P0 (d + 2) 223 0 (lv_args 0 [.ref 66, .int (xs 1)]) [] (hp σ) (.inl (some (.int (-1))), hp (st_i ((σ)) 66 0 0)) := by
  refine ev_x (i := .aload_n 0) (len := 1) (p' := 1) (s' := [.ref 66]) rfl rfl rfl ?_
  refine ev_x (i := .iload_n 1) (len := 1) (p' := 2) (s' := [.int (xs 1), .ref 66]) rfl rfl rfl ?_
  refine ev_cv (d := d + 1) (As := [.int (xs 1)]) (a := 66) (p' := 5) rfl rfl rfl ly_66 rfl rfl rfl rfl rfl rfl rfl (wl9b_79 (d := d + 0) (c_1 := c_1) (c_2 := c_2) (hi_66_29 := hi_66_29)) ?_
  refine ev_st (st' := [.int 0]) rfl ?_
  refine ev_b0 (t := 17) (p' := 17) rfl rfl rfl (by decide) ?_
  refine ev_x (i := .iconst (-1)) (len := 1) (p' := 18) (s' := [.int (-1)]) rfl rfl rfl ?_
  exact ev_iret rfl rfl rfl rfl
set_option maxHeartbeats 4000000 in
set_option maxRecDepth 100000 in
/-- GameTextLaw.law([I)Z -/
theorem law_9b {d : Nat} {σ : st_S} {L : Nat} {xs : Nat → Int32} (hs : σ.2.2.2.2.2.2.1 0 = .inl (0, L, .inl xs)) (h6 : 6 ≤ L) (hi_52_10 : σ.1 52 10 = 0) (hi_66_29 : σ.1 66 29 = 0) (c_1 : ¬ (((Int32.ofNat L) - 6) < 0)) (hx : ((xs 0) &&& 15) = 9) (c_2 : ¬ ((xs 1) < 0)) (c_3 : 0 ≤ (xs 1)) (c_4 : ((Int32.ofNat L) - 6) < 6) : vz_ev P0 (d + 3) 0 23 ([(4, .int 0), (3, .ref 187), (2, .ref 66), (1, .ref 1), (0, .ref 0)]) [] (hp σ) (.inl (some (.int 1)), hp (st_i (((((σ))))) 66 0 0)) := by
  refine ev_x (i := .iload 4) (len := 2) (p' := 25) (s' := [.int 0]) rfl rfl rfl ?_
  refine ev_x (i := .aload_n 0) (len := 1) (p' := 26) (s' := [.ref 0, .int 0]) rfl rfl rfl ?_
  refine ev_sl (p' := 27) rfl rfl hs rfl ?_
  refine ev_x (i := .bipush 6) (len := 2) (p' := 29) (s' := [.int 6, .int (Int32.ofNat L), .int 0]) rfl rfl rfl ?_
  refine ev_x (i := .isub) (len := 1) (p' := 30) (s' := [.int ((Int32.ofNat L) - 6), .int 0]) rfl rfl rfl ?_
  refine ev_b2 (t := 621) (p' := 33) rfl rfl rfl (if_neg c_1) ?_
  refine ev_x (i := .aload_n 0) (len := 1) (p' := 34) (s' := [.ref 0]) rfl rfl rfl ?_
  refine ev_x (i := .iload 4) (len := 2) (p' := 36) (s' := [.int 0, .ref 0]) rfl rfl rfl ?_
  refine ev_sg (p' := 37) rfl rfl hs (sp_in_L h6 rfl) rfl ?_
  refine ev_st (st' := [.int (xs 0)]) rfl ?_
  refine ev_x (i := .bipush 15) (len := 2) (p' := 39) (s' := [.int 15, .int (xs 0)]) rfl rfl rfl ?_
  refine ev_x (i := .iand) (len := 1) (p' := 40) (s' := [.int ((xs 0) &&& 15)]) rfl rfl rfl ?_
  refine ev_st (st' := [.int 9]) (congrArg (fun z => [Value.int z]) hx) ?_
  refine ev_ts (off := 390) (t := 430) rfl rfl (by decide) rfl ?_
  refine ev_x (i := .aload_n 1) (len := 1) (p' := 431) (s' := [.ref 1]) rfl rfl rfl ?_
  refine ev_x (i := .aload_n 0) (len := 1) (p' := 432) (s' := [.ref 0, .ref 1]) rfl rfl rfl ?_
  refine ev_x (i := .iload 4) (len := 2) (p' := 434) (s' := [.int 0, .ref 0, .ref 1]) rfl rfl rfl ?_
  refine ev_x (i := .iconst 1) (len := 1) (p' := 435) (s' := [.int 1, .int 0, .ref 0, .ref 1]) rfl rfl rfl ?_
  refine ev_x (i := .iadd) (len := 1) (p' := 436) (s' := [.int 1, .ref 0, .ref 1]) rfl rfl rfl ?_
  refine ev_sg (p' := 437) rfl rfl hs (sp_in_L h6 rfl) rfl ?_
  refine ev_st (st' := [.int (xs 1), .ref 1]) rfl ?_
  refine ev_cv (d := d + 2) (As := [.int (xs 1)]) (a := 1) (p' := 440) rfl rfl rfl ly_1 rfl rfl rfl rfl rfl rfl rfl (wl9b_78 (d := d + 0) (c_1 := c_2) (c_2 := c_3) (hi_52_10 := hi_52_10)) ?_
  refine ev_st (st' := [.int (-1)]) rfl ?_
  refine ev_x (i := .aload_n 2) (len := 1) (p' := 441) (s' := [.ref 66, .int (-1)]) rfl rfl rfl ?_
  refine ev_x (i := .aload_n 0) (len := 1) (p' := 442) (s' := [.ref 0, .ref 66, .int (-1)]) rfl rfl rfl ?_
  refine ev_x (i := .iload 4) (len := 2) (p' := 444) (s' := [.int 0, .ref 0, .ref 66, .int (-1)]) rfl rfl rfl ?_
  refine ev_x (i := .iconst 1) (len := 1) (p' := 445) (s' := [.int 1, .int 0, .ref 0, .ref 66, .int (-1)]) rfl rfl rfl ?_
  refine ev_x (i := .iadd) (len := 1) (p' := 446) (s' := [.int 1, .ref 0, .ref 66, .int (-1)]) rfl rfl rfl ?_
  refine ev_sg (p' := 447) rfl rfl hs (sp_in_L h6 rfl) rfl ?_
  refine ev_st (st' := [.int (xs 1), .ref 66, .int (-1)]) rfl ?_
  refine ev_cv (d := d + 2) (As := [.int (xs 1)]) (a := 66) (p' := 450) rfl rfl rfl ly_66 rfl rfl rfl rfl rfl rfl rfl (wl9b_80 (d := d + 0) (c_1 := c_2) (c_2 := c_3) (hi_66_29 := hi_66_29)) ?_
  refine ev_st (st' := [.int (-1), .int (-1)]) rfl ?_
  refine ev_b2 (t := 615) (p' := 615) rfl rfl rfl (by decide) ?_
  refine ev_x (i := .iinc 4 6) (len := 3) (p' := 618) (s' := []) (l' := [(4, .int 6), (3, .ref 187), (2, .ref 66), (1, .ref 1), (0, .ref 0)]) rfl rfl rfl ?_
  refine ev_x (i := .goto (-595)) (len := 3) (p' := 23) (s' := []) rfl rfl rfl ?_
  refine ev_x (i := .iload 4) (len := 2) (p' := 25) (s' := [.int 6]) rfl rfl rfl ?_
  refine ev_x (i := .aload_n 0) (len := 1) (p' := 26) (s' := [.ref 0, .int 6]) rfl rfl rfl ?_
  refine ev_sl (p' := 27) rfl rfl hs rfl ?_
  refine ev_x (i := .bipush 6) (len := 2) (p' := 29) (s' := [.int 6, .int (Int32.ofNat L), .int 6]) rfl rfl rfl ?_
  refine ev_x (i := .isub) (len := 1) (p' := 30) (s' := [.int ((Int32.ofNat L) - 6), .int 6]) rfl rfl rfl ?_
  refine ev_b2 (t := 621) (p' := 621) rfl rfl rfl (if_pos c_4) ?_
  refine ev_x (i := .iconst 1) (len := 1) (p' := 622) (s' := [.int 1]) rfl rfl rfl ?_
  exact ev_iret rfl rfl rfl rfl
set_option maxHeartbeats 4000000 in
set_option maxRecDepth 100000 in
/-- GameText$Graph.hasState(I)Z -/
theorem wl10a_82 {d : Nat} {σ : st_S} {xs : Nat → Int32} (c_1 : (xs 1) < 0) : vz_ev P0 (d + 1) 97 0 (lv_args 0 [.ref 52, .int (xs 1)]) [] (hp σ) (.inl (some (.int 0)), hp (σ)) := by
  refine ev_x (i := .iload_n 1) (len := 1) (p' := 1) (s' := [.int (xs 1)]) rfl rfl rfl ?_
  refine ev_b0 (t := 16) (p' := 16) rfl rfl rfl (if_pos c_1) ?_
  refine ev_x (i := .iconst 0) (len := 1) (p' := 17) (s' := [.int 0]) rfl rfl rfl ?_
  exact ev_iret rfl rfl rfl rfl
set_option maxHeartbeats 4000000 in
set_option maxRecDepth 100000 in
/-- GameText.commands(I)I -/
theorem wl10a_83 {d : Nat} {σ : st_S} {xs : Nat → Int32} (c_1 : (xs 1) < 0) : vz_ev P0 (d + 2) 98 0 (lv_args 0 [.ref 1, .int (xs 1)]) [] (hp σ) (.inl (some (.int (-1))), hp ((σ))) := by
  refine ev_x (i := .aload_n 0) (len := 1) (p' := 1) (s' := [.ref 1]) rfl rfl rfl ?_
  refine ev_gc (p' := 4) (v := 52) rfl rfl rfl ly_1 rfl rfl ?_
  refine ev_x (i := .iload_n 1) (len := 1) (p' := 5) (s' := [.int (xs 1), .ref 52]) rfl rfl rfl ?_
  refine ev_cv (d := d + 1) (As := [.int (xs 1)]) (a := 52) (p' := 8) rfl rfl rfl ly_52 rfl rfl rfl rfl rfl rfl rfl (wl10a_82 (d := d + 0) (c_1 := c_1)) ?_
  refine ev_st (st' := [.int 0]) rfl ?_
  refine ev_b0 (t := 35) (p' := 35) rfl rfl rfl (by decide) ?_
  refine ev_x (i := .iconst (-1)) (len := 1) (p' := 36) (s' := [.int (-1)]) rfl rfl rfl ?_
  exact ev_iret rfl rfl rfl rfl
set_option maxHeartbeats 4000000 in
set_option maxRecDepth 100000 in
/-- GameTextModel.isState(I)Z -/
theorem wl10a_84 {d : Nat} {σ : st_S} {xs : Nat → Int32} (c_1 : (xs 1) < 0) : vz_ev P0 (d + 1) 224 0 (lv_args 0 [.ref 66, .int (xs 1)]) [] (hp σ) (.inl (some (.int 0)), hp (st_i (σ) 66 0 0)) := by
  refine ev_x (i := .aload_n 0) (len := 1) (p' := 1) (s' := [.ref 66]) rfl rfl rfl ?_
  refine ev_x (i := .iconst 0) (len := 1) (p' := 2) (s' := [.int 0, .ref 66]) rfl rfl rfl ?_
  refine ev_pi (p' := 5) rfl rfl rfl ly_66 rfl rfl rfl rfl ?_
  refine ev_x (i := .iload_n 1) (len := 1) (p' := 6) (s' := [.int (xs 1)]) rfl rfl rfl ?_
  refine ev_b0 (t := 21) (p' := 21) rfl rfl rfl (if_pos c_1) ?_
  refine ev_x (i := .iconst 0) (len := 1) (p' := 22) (s' := [.int 0]) rfl rfl rfl ?_
  exact ev_iret rfl rfl rfl rfl
set_option maxHeartbeats 4000000 in
set_option maxRecDepth 100000 in
/-- GameTextModel.commands(I)I -/
theorem wl10a_85 {d : Nat} {σ : st_S} {xs : Nat → Int32} (c_1 : (xs 1) < 0) : vz_ev P0 (d + 2) 225 0 (lv_args 0 [.ref 66, .int (xs 1)]) [] (hp σ) (.inl (some (.int (-1))), hp (st_i ((σ)) 66 0 0)) := by
  refine ev_x (i := .aload_n 0) (len := 1) (p' := 1) (s' := [.ref 66]) rfl rfl rfl ?_
  refine ev_x (i := .iload_n 1) (len := 1) (p' := 2) (s' := [.int (xs 1), .ref 66]) rfl rfl rfl ?_
  refine ev_cv (d := d + 1) (As := [.int (xs 1)]) (a := 66) (p' := 5) rfl rfl rfl ly_66 rfl rfl rfl rfl rfl rfl rfl (wl10a_84 (d := d + 0) (c_1 := c_1)) ?_
  refine ev_st (st' := [.int 0]) rfl ?_
  refine ev_b0 (t := 17) (p' := 17) rfl rfl rfl (by decide) ?_
  refine ev_x (i := .iconst (-1)) (len := 1) (p' := 18) (s' := [.int (-1)]) rfl rfl rfl ?_
  exact ev_iret rfl rfl rfl rfl
set_option maxHeartbeats 4000000 in
set_option maxRecDepth 100000 in
/-- GameTextLaw.law([I)Z -/
theorem law_10a {d : Nat} {σ : st_S} {L : Nat} {xs : Nat → Int32} (hs : σ.2.2.2.2.2.2.1 0 = .inl (0, L, .inl xs)) (h6 : 6 ≤ L) (c_1 : ¬ (((Int32.ofNat L) - 6) < 0)) (hx : ((xs 0) &&& 15) = 10) (c_2 : (xs 1) < 0) (c_3 : ((Int32.ofNat L) - 6) < 6) : vz_ev P0 (d + 3) 0 23 ([(4, .int 0), (3, .ref 187), (2, .ref 66), (1, .ref 1), (0, .ref 0)]) [] (hp σ) (.inl (some (.int 1)), hp (st_i (((((σ))))) 66 0 0)) := by
  refine ev_x (i := .iload 4) (len := 2) (p' := 25) (s' := [.int 0]) rfl rfl rfl ?_
  refine ev_x (i := .aload_n 0) (len := 1) (p' := 26) (s' := [.ref 0, .int 0]) rfl rfl rfl ?_
  refine ev_sl (p' := 27) rfl rfl hs rfl ?_
  refine ev_x (i := .bipush 6) (len := 2) (p' := 29) (s' := [.int 6, .int (Int32.ofNat L), .int 0]) rfl rfl rfl ?_
  refine ev_x (i := .isub) (len := 1) (p' := 30) (s' := [.int ((Int32.ofNat L) - 6), .int 0]) rfl rfl rfl ?_
  refine ev_b2 (t := 621) (p' := 33) rfl rfl rfl (if_neg c_1) ?_
  refine ev_x (i := .aload_n 0) (len := 1) (p' := 34) (s' := [.ref 0]) rfl rfl rfl ?_
  refine ev_x (i := .iload 4) (len := 2) (p' := 36) (s' := [.int 0, .ref 0]) rfl rfl rfl ?_
  refine ev_sg (p' := 37) rfl rfl hs (sp_in_L h6 rfl) rfl ?_
  refine ev_st (st' := [.int (xs 0)]) rfl ?_
  refine ev_x (i := .bipush 15) (len := 2) (p' := 39) (s' := [.int 15, .int (xs 0)]) rfl rfl rfl ?_
  refine ev_x (i := .iand) (len := 1) (p' := 40) (s' := [.int ((xs 0) &&& 15)]) rfl rfl rfl ?_
  refine ev_st (st' := [.int 10]) (congrArg (fun z => [Value.int z]) hx) ?_
  refine ev_ts (off := 415) (t := 455) rfl rfl (by decide) rfl ?_
  refine ev_x (i := .aload_n 1) (len := 1) (p' := 456) (s' := [.ref 1]) rfl rfl rfl ?_
  refine ev_x (i := .aload_n 0) (len := 1) (p' := 457) (s' := [.ref 0, .ref 1]) rfl rfl rfl ?_
  refine ev_x (i := .iload 4) (len := 2) (p' := 459) (s' := [.int 0, .ref 0, .ref 1]) rfl rfl rfl ?_
  refine ev_x (i := .iconst 1) (len := 1) (p' := 460) (s' := [.int 1, .int 0, .ref 0, .ref 1]) rfl rfl rfl ?_
  refine ev_x (i := .iadd) (len := 1) (p' := 461) (s' := [.int 1, .ref 0, .ref 1]) rfl rfl rfl ?_
  refine ev_sg (p' := 462) rfl rfl hs (sp_in_L h6 rfl) rfl ?_
  refine ev_st (st' := [.int (xs 1), .ref 1]) rfl ?_
  refine ev_cv (d := d + 2) (As := [.int (xs 1)]) (a := 1) (p' := 465) rfl rfl rfl ly_1 rfl rfl rfl rfl rfl rfl rfl (wl10a_83 (d := d + 0) (c_1 := c_2)) ?_
  refine ev_st (st' := [.int (-1)]) rfl ?_
  refine ev_x (i := .aload_n 2) (len := 1) (p' := 466) (s' := [.ref 66, .int (-1)]) rfl rfl rfl ?_
  refine ev_x (i := .aload_n 0) (len := 1) (p' := 467) (s' := [.ref 0, .ref 66, .int (-1)]) rfl rfl rfl ?_
  refine ev_x (i := .iload 4) (len := 2) (p' := 469) (s' := [.int 0, .ref 0, .ref 66, .int (-1)]) rfl rfl rfl ?_
  refine ev_x (i := .iconst 1) (len := 1) (p' := 470) (s' := [.int 1, .int 0, .ref 0, .ref 66, .int (-1)]) rfl rfl rfl ?_
  refine ev_x (i := .iadd) (len := 1) (p' := 471) (s' := [.int 1, .ref 0, .ref 66, .int (-1)]) rfl rfl rfl ?_
  refine ev_sg (p' := 472) rfl rfl hs (sp_in_L h6 rfl) rfl ?_
  refine ev_st (st' := [.int (xs 1), .ref 66, .int (-1)]) rfl ?_
  refine ev_cv (d := d + 2) (As := [.int (xs 1)]) (a := 66) (p' := 475) rfl rfl rfl ly_66 rfl rfl rfl rfl rfl rfl rfl (wl10a_85 (d := d + 0) (c_1 := c_2)) ?_
  refine ev_st (st' := [.int (-1), .int (-1)]) rfl ?_
  refine ev_b2 (t := 615) (p' := 615) rfl rfl rfl (by decide) ?_
  refine ev_x (i := .iinc 4 6) (len := 3) (p' := 618) (s' := []) (l' := [(4, .int 6), (3, .ref 187), (2, .ref 66), (1, .ref 1), (0, .ref 0)]) rfl rfl rfl ?_
  refine ev_x (i := .goto (-595)) (len := 3) (p' := 23) (s' := []) rfl rfl rfl ?_
  refine ev_x (i := .iload 4) (len := 2) (p' := 25) (s' := [.int 6]) rfl rfl rfl ?_
  refine ev_x (i := .aload_n 0) (len := 1) (p' := 26) (s' := [.ref 0, .int 6]) rfl rfl rfl ?_
  refine ev_sl (p' := 27) rfl rfl hs rfl ?_
  refine ev_x (i := .bipush 6) (len := 2) (p' := 29) (s' := [.int 6, .int (Int32.ofNat L), .int 6]) rfl rfl rfl ?_
  refine ev_x (i := .isub) (len := 1) (p' := 30) (s' := [.int ((Int32.ofNat L) - 6), .int 6]) rfl rfl rfl ?_
  refine ev_b2 (t := 621) (p' := 621) rfl rfl rfl (if_pos c_3) ?_
  refine ev_x (i := .iconst 1) (len := 1) (p' := 622) (s' := [.int 1]) rfl rfl rfl ?_
  exact ev_iret rfl rfl rfl rfl
set_option maxHeartbeats 4000000 in
set_option maxRecDepth 100000 in
/-- GameText$Graph.hasState(I)Z -/
theorem wl10b_87 {d : Nat} {σ : st_S} {xs : Nat → Int32} (hi_52_10 : σ.1 52 10 = 0) (c_1 : ¬ ((xs 1) < 0)) (c_2 : 0 ≤ (xs 1)) : vz_ev P0 (d + 1) 97 0 (lv_args 0 [.ref 52, .int (xs 1)]) [] (hp σ) (.inl (some (.int 0)), hp (σ)) := by
  refine ev_x (i := .iload_n 1) (len := 1) (p' := 1) (s' := [.int (xs 1)]) rfl rfl rfl ?_
  refine ev_b0 (t := 16) (p' := 4) rfl rfl rfl (if_neg c_1) ?_
  refine ev_x (i := .iload_n 1) (len := 1) (p' := 5) (s' := [.int (xs 1)]) rfl rfl rfl ?_
  refine ev_x (i := .aload_n 0) (len := 1) (p' := 6) (s' := [.ref 52, .int (xs 1)]) rfl rfl rfl ?_
  refine ev_gi (p' := 9) (v := 0) rfl rfl rfl ly_52 rfl rfl hi_52_10 ?_
  refine ev_b2 (t := 16) (p' := 16) rfl rfl rfl (if_pos c_2) ?_
  refine ev_x (i := .iconst 0) (len := 1) (p' := 17) (s' := [.int 0]) rfl rfl rfl ?_
  exact ev_iret rfl rfl rfl rfl
set_option maxHeartbeats 4000000 in
set_option maxRecDepth 100000 in
/-- GameText.commands(I)I -/
theorem wl10b_88 {d : Nat} {σ : st_S} {xs : Nat → Int32} (hi_52_10 : σ.1 52 10 = 0) (c_1 : ¬ ((xs 1) < 0)) (c_2 : 0 ≤ (xs 1)) : vz_ev P0 (d + 2) 98 0 (lv_args 0 [.ref 1, .int (xs 1)]) [] (hp σ) (.inl (some (.int (-1))), hp ((σ))) := by
  refine ev_x (i := .aload_n 0) (len := 1) (p' := 1) (s' := [.ref 1]) rfl rfl rfl ?_
  refine ev_gc (p' := 4) (v := 52) rfl rfl rfl ly_1 rfl rfl ?_
  refine ev_x (i := .iload_n 1) (len := 1) (p' := 5) (s' := [.int (xs 1), .ref 52]) rfl rfl rfl ?_
  refine ev_cv (d := d + 1) (As := [.int (xs 1)]) (a := 52) (p' := 8) rfl rfl rfl ly_52 rfl rfl rfl rfl rfl rfl rfl (wl10b_87 (d := d + 0) (c_1 := c_1) (c_2 := c_2) (hi_52_10 := hi_52_10)) ?_
  refine ev_st (st' := [.int 0]) rfl ?_
  refine ev_b0 (t := 35) (p' := 35) rfl rfl rfl (by decide) ?_
  refine ev_x (i := .iconst (-1)) (len := 1) (p' := 36) (s' := [.int (-1)]) rfl rfl rfl ?_
  exact ev_iret rfl rfl rfl rfl
set_option maxHeartbeats 4000000 in
set_option maxRecDepth 100000 in
/-- GameTextModel.isState(I)Z -/
theorem wl10b_89 {d : Nat} {σ : st_S} {xs : Nat → Int32} (hi_66_29 : σ.1 66 29 = 0) (c_1 : ¬ ((xs 1) < 0)) (c_2 : 0 ≤ (xs 1)) : vz_ev P0 (d + 1) 224 0 (lv_args 0 [.ref 66, .int (xs 1)]) [] (hp σ) (.inl (some (.int 0)), hp (st_i (σ) 66 0 0)) := by
  refine ev_x (i := .aload_n 0) (len := 1) (p' := 1) (s' := [.ref 66]) rfl rfl rfl ?_
  refine ev_x (i := .iconst 0) (len := 1) (p' := 2) (s' := [.int 0, .ref 66]) rfl rfl rfl ?_
  refine ev_pi (p' := 5) rfl rfl rfl ly_66 rfl rfl rfl rfl ?_
  refine ev_x (i := .iload_n 1) (len := 1) (p' := 6) (s' := [.int (xs 1)]) rfl rfl rfl ?_
  refine ev_b0 (t := 21) (p' := 9) rfl rfl rfl (if_neg c_1) ?_
  refine ev_x (i := .iload_n 1) (len := 1) (p' := 10) (s' := [.int (xs 1)]) rfl rfl rfl ?_
  refine ev_x (i := .aload_n 0) (len := 1) (p' := 11) (s' := [.ref 66, .int (xs 1)]) rfl rfl rfl ?_
  refine ev_gi (p' := 14) (v := 0) rfl rfl rfl ly_66 rfl rfl hi_66_29 ?_
  refine ev_b2 (t := 21) (p' := 21) rfl rfl rfl (if_pos c_2) ?_
  refine ev_x (i := .iconst 0) (len := 1) (p' := 22) (s' := [.int 0]) rfl rfl rfl ?_
  exact ev_iret rfl rfl rfl rfl
set_option maxHeartbeats 4000000 in
set_option maxRecDepth 100000 in
/-- GameTextModel.commands(I)I -/
theorem wl10b_90 {d : Nat} {σ : st_S} {xs : Nat → Int32} (hi_66_29 : σ.1 66 29 = 0) (c_1 : ¬ ((xs 1) < 0)) (c_2 : 0 ≤ (xs 1)) : vz_ev P0 (d + 2) 225 0 (lv_args 0 [.ref 66, .int (xs 1)]) [] (hp σ) (.inl (some (.int (-1))), hp (st_i ((σ)) 66 0 0)) := by
  refine ev_x (i := .aload_n 0) (len := 1) (p' := 1) (s' := [.ref 66]) rfl rfl rfl ?_
  refine ev_x (i := .iload_n 1) (len := 1) (p' := 2) (s' := [.int (xs 1), .ref 66]) rfl rfl rfl ?_
  refine ev_cv (d := d + 1) (As := [.int (xs 1)]) (a := 66) (p' := 5) rfl rfl rfl ly_66 rfl rfl rfl rfl rfl rfl rfl (wl10b_89 (d := d + 0) (c_1 := c_1) (c_2 := c_2) (hi_66_29 := hi_66_29)) ?_
  refine ev_st (st' := [.int 0]) rfl ?_
  refine ev_b0 (t := 17) (p' := 17) rfl rfl rfl (by decide) ?_
  refine ev_x (i := .iconst (-1)) (len := 1) (p' := 18) (s' := [.int (-1)]) rfl rfl rfl ?_
  exact ev_iret rfl rfl rfl rfl
set_option maxHeartbeats 4000000 in
set_option maxRecDepth 100000 in
/-- GameTextLaw.law([I)Z -/
theorem law_10b {d : Nat} {σ : st_S} {L : Nat} {xs : Nat → Int32} (hs : σ.2.2.2.2.2.2.1 0 = .inl (0, L, .inl xs)) (h6 : 6 ≤ L) (hi_52_10 : σ.1 52 10 = 0) (hi_66_29 : σ.1 66 29 = 0) (c_1 : ¬ (((Int32.ofNat L) - 6) < 0)) (hx : ((xs 0) &&& 15) = 10) (c_2 : ¬ ((xs 1) < 0)) (c_3 : 0 ≤ (xs 1)) (c_4 : ((Int32.ofNat L) - 6) < 6) : vz_ev P0 (d + 3) 0 23 ([(4, .int 0), (3, .ref 187), (2, .ref 66), (1, .ref 1), (0, .ref 0)]) [] (hp σ) (.inl (some (.int 1)), hp (st_i (((((σ))))) 66 0 0)) := by
  refine ev_x (i := .iload 4) (len := 2) (p' := 25) (s' := [.int 0]) rfl rfl rfl ?_
  refine ev_x (i := .aload_n 0) (len := 1) (p' := 26) (s' := [.ref 0, .int 0]) rfl rfl rfl ?_
  refine ev_sl (p' := 27) rfl rfl hs rfl ?_
  refine ev_x (i := .bipush 6) (len := 2) (p' := 29) (s' := [.int 6, .int (Int32.ofNat L), .int 0]) rfl rfl rfl ?_
  refine ev_x (i := .isub) (len := 1) (p' := 30) (s' := [.int ((Int32.ofNat L) - 6), .int 0]) rfl rfl rfl ?_
  refine ev_b2 (t := 621) (p' := 33) rfl rfl rfl (if_neg c_1) ?_
  refine ev_x (i := .aload_n 0) (len := 1) (p' := 34) (s' := [.ref 0]) rfl rfl rfl ?_
  refine ev_x (i := .iload 4) (len := 2) (p' := 36) (s' := [.int 0, .ref 0]) rfl rfl rfl ?_
  refine ev_sg (p' := 37) rfl rfl hs (sp_in_L h6 rfl) rfl ?_
  refine ev_st (st' := [.int (xs 0)]) rfl ?_
  refine ev_x (i := .bipush 15) (len := 2) (p' := 39) (s' := [.int 15, .int (xs 0)]) rfl rfl rfl ?_
  refine ev_x (i := .iand) (len := 1) (p' := 40) (s' := [.int ((xs 0) &&& 15)]) rfl rfl rfl ?_
  refine ev_st (st' := [.int 10]) (congrArg (fun z => [Value.int z]) hx) ?_
  refine ev_ts (off := 415) (t := 455) rfl rfl (by decide) rfl ?_
  refine ev_x (i := .aload_n 1) (len := 1) (p' := 456) (s' := [.ref 1]) rfl rfl rfl ?_
  refine ev_x (i := .aload_n 0) (len := 1) (p' := 457) (s' := [.ref 0, .ref 1]) rfl rfl rfl ?_
  refine ev_x (i := .iload 4) (len := 2) (p' := 459) (s' := [.int 0, .ref 0, .ref 1]) rfl rfl rfl ?_
  refine ev_x (i := .iconst 1) (len := 1) (p' := 460) (s' := [.int 1, .int 0, .ref 0, .ref 1]) rfl rfl rfl ?_
  refine ev_x (i := .iadd) (len := 1) (p' := 461) (s' := [.int 1, .ref 0, .ref 1]) rfl rfl rfl ?_
  refine ev_sg (p' := 462) rfl rfl hs (sp_in_L h6 rfl) rfl ?_
  refine ev_st (st' := [.int (xs 1), .ref 1]) rfl ?_
  refine ev_cv (d := d + 2) (As := [.int (xs 1)]) (a := 1) (p' := 465) rfl rfl rfl ly_1 rfl rfl rfl rfl rfl rfl rfl (wl10b_88 (d := d + 0) (c_1 := c_2) (c_2 := c_3) (hi_52_10 := hi_52_10)) ?_
  refine ev_st (st' := [.int (-1)]) rfl ?_
  refine ev_x (i := .aload_n 2) (len := 1) (p' := 466) (s' := [.ref 66, .int (-1)]) rfl rfl rfl ?_
  refine ev_x (i := .aload_n 0) (len := 1) (p' := 467) (s' := [.ref 0, .ref 66, .int (-1)]) rfl rfl rfl ?_
  refine ev_x (i := .iload 4) (len := 2) (p' := 469) (s' := [.int 0, .ref 0, .ref 66, .int (-1)]) rfl rfl rfl ?_
  refine ev_x (i := .iconst 1) (len := 1) (p' := 470) (s' := [.int 1, .int 0, .ref 0, .ref 66, .int (-1)]) rfl rfl rfl ?_
  refine ev_x (i := .iadd) (len := 1) (p' := 471) (s' := [.int 1, .ref 0, .ref 66, .int (-1)]) rfl rfl rfl ?_
  refine ev_sg (p' := 472) rfl rfl hs (sp_in_L h6 rfl) rfl ?_
  refine ev_st (st' := [.int (xs 1), .ref 66, .int (-1)]) rfl ?_
  refine ev_cv (d := d + 2) (As := [.int (xs 1)]) (a := 66) (p' := 475) rfl rfl rfl ly_66 rfl rfl rfl rfl rfl rfl rfl (wl10b_90 (d := d + 0) (c_1 := c_2) (c_2 := c_3) (hi_66_29 := hi_66_29)) ?_
  refine ev_st (st' := [.int (-1), .int (-1)]) rfl ?_
  refine ev_b2 (t := 615) (p' := 615) rfl rfl rfl (by decide) ?_
  refine ev_x (i := .iinc 4 6) (len := 3) (p' := 618) (s' := []) (l' := [(4, .int 6), (3, .ref 187), (2, .ref 66), (1, .ref 1), (0, .ref 0)]) rfl rfl rfl ?_
  refine ev_x (i := .goto (-595)) (len := 3) (p' := 23) (s' := []) rfl rfl rfl ?_
  refine ev_x (i := .iload 4) (len := 2) (p' := 25) (s' := [.int 6]) rfl rfl rfl ?_
  refine ev_x (i := .aload_n 0) (len := 1) (p' := 26) (s' := [.ref 0, .int 6]) rfl rfl rfl ?_
  refine ev_sl (p' := 27) rfl rfl hs rfl ?_
  refine ev_x (i := .bipush 6) (len := 2) (p' := 29) (s' := [.int 6, .int (Int32.ofNat L), .int 6]) rfl rfl rfl ?_
  refine ev_x (i := .isub) (len := 1) (p' := 30) (s' := [.int ((Int32.ofNat L) - 6), .int 6]) rfl rfl rfl ?_
  refine ev_b2 (t := 621) (p' := 621) rfl rfl rfl (if_pos c_4) ?_
  refine ev_x (i := .iconst 1) (len := 1) (p' := 622) (s' := [.int 1]) rfl rfl rfl ?_
  exact ev_iret rfl rfl rfl rfl
set_option maxHeartbeats 4000000 in
set_option maxRecDepth 100000 in
/-- GameText$Graph.hasState(I)Z -/
theorem wl11a_92 {d : Nat} {σ : st_S} {xs : Nat → Int32} (c_1 : (xs 1) < 0) : vz_ev P0 (d + 1) 97 0 (lv_args 0 [.ref 52, .int (xs 1)]) [] (hp σ) (.inl (some (.int 0)), hp (σ)) := by
  refine ev_x (i := .iload_n 1) (len := 1) (p' := 1) (s' := [.int (xs 1)]) rfl rfl rfl ?_
  refine ev_b0 (t := 16) (p' := 16) rfl rfl rfl (if_pos c_1) ?_
  refine ev_x (i := .iconst 0) (len := 1) (p' := 17) (s' := [.int 0]) rfl rfl rfl ?_
  exact ev_iret rfl rfl rfl rfl
set_option maxHeartbeats 4000000 in
set_option maxRecDepth 100000 in
/-- GameText$Graph.commandAt(II)I -/
theorem wl11a_93 {d : Nat} {σ : st_S} {xs : Nat → Int32} (c_1 : (xs 1) < 0) : vz_ev P0 (d + 2) 100 0 (lv_args 0 [.ref 52, .int (xs 1), .int (xs 2)]) [] (hp σ) (.inl (some (.int (-1))), hp ((σ))) := by
  refine ev_x (i := .aload_n 0) (len := 1) (p' := 1) (s' := [.ref 52]) rfl rfl rfl ?_
  refine ev_x (i := .iload_n 1) (len := 1) (p' := 2) (s' := [.int (xs 1), .ref 52]) rfl rfl rfl ?_
  refine ev_cv (d := d + 1) (As := [.int (xs 1)]) (a := 52) (p' := 5) rfl rfl rfl ly_52 rfl rfl rfl rfl rfl rfl rfl (wl11a_92 (d := d + 0) (c_1 := c_1)) ?_
  refine ev_st (st' := [.int 0]) rfl ?_
  refine ev_b0 (t := 31) (p' := 31) rfl rfl rfl (by decide) ?_
  refine ev_x (i := .iconst (-1)) (len := 1) (p' := 32) (s' := [.int (-1)]) rfl rfl rfl ?_
  exact ev_iret rfl rfl rfl rfl
set_option maxHeartbeats 4000000 in
set_option maxRecDepth 100000 in
/-- GameText.command(II)I -/
theorem wl11a_94 {d : Nat} {σ : st_S} {xs : Nat → Int32} (c_1 : (xs 1) < 0) : vz_ev P0 (d + 3) 99 0 (lv_args 0 [.ref 1, .int (xs 1), .int (xs 2)]) [] (hp σ) (.inl (some (.int (-1))), hp (((σ)))) := by
  refine ev_x (i := .aload_n 0) (len := 1) (p' := 1) (s' := [.ref 1]) rfl rfl rfl ?_
  refine ev_gc (p' := 4) (v := 52) rfl rfl rfl ly_1 rfl rfl ?_
  refine ev_x (i := .iload_n 1) (len := 1) (p' := 5) (s' := [.int (xs 1), .ref 52]) rfl rfl rfl ?_
  refine ev_x (i := .iload_n 2) (len := 1) (p' := 6) (s' := [.int (xs 2), .int (xs 1), .ref 52]) rfl rfl rfl ?_
  refine ev_cv (d := d + 2) (As := [.int (xs 1), .int (xs 2)]) (a := 52) (p' := 9) rfl rfl rfl ly_52 rfl rfl rfl rfl rfl rfl rfl (wl11a_93 (d := d + 0) (c_1 := c_1)) ?_
  refine ev_st (st' := [.int (-1)]) rfl ?_
  refine ev_x (i := .istore_n 3) (len := 1) (p' := 10) (s' := []) (l' := [(3, .int (-1)), (0, .ref 1), (1, .int (xs 1)), (2, .int (xs 2))]) rfl rfl rfl ?_
  refine ev_x (i := .iload_n 3) (len := 1) (p' := 11) (s' := [.int (-1)]) rfl rfl rfl ?_
  refine ev_b0 (t := 18) (p' := 14) rfl rfl rfl (by decide) ?_
  refine ev_x (i := .iconst (-1)) (len := 1) (p' := 15) (s' := [.int (-1)]) rfl rfl rfl ?_
  refine ev_x (i := .goto 12) (len := 3) (p' := 27) (s' := [.int (-1)]) rfl rfl rfl ?_
  exact ev_iret rfl rfl rfl rfl
set_option maxHeartbeats 4000000 in
set_option maxRecDepth 100000 in
/-- GameTextModel.isState(I)Z -/
theorem wl11a_95 {d : Nat} {σ : st_S} {xs : Nat → Int32} (c_1 : (xs 1) < 0) : vz_ev P0 (d + 1) 224 0 (lv_args 0 [.ref 66, .int (xs 1)]) [] (hp σ) (.inl (some (.int 0)), hp (st_i (σ) 66 0 0)) := by
  refine ev_x (i := .aload_n 0) (len := 1) (p' := 1) (s' := [.ref 66]) rfl rfl rfl ?_
  refine ev_x (i := .iconst 0) (len := 1) (p' := 2) (s' := [.int 0, .ref 66]) rfl rfl rfl ?_
  refine ev_pi (p' := 5) rfl rfl rfl ly_66 rfl rfl rfl rfl ?_
  refine ev_x (i := .iload_n 1) (len := 1) (p' := 6) (s' := [.int (xs 1)]) rfl rfl rfl ?_
  refine ev_b0 (t := 21) (p' := 21) rfl rfl rfl (if_pos c_1) ?_
  refine ev_x (i := .iconst 0) (len := 1) (p' := 22) (s' := [.int 0]) rfl rfl rfl ?_
  exact ev_iret rfl rfl rfl rfl
set_option maxHeartbeats 4000000 in
set_option maxRecDepth 100000 in
/-- GameTextModel.isCommand(II)Z -/
theorem wl11a_96 {d : Nat} {σ : st_S} {xs : Nat → Int32} (c_1 : (xs 1) < 0) : vz_ev P0 (d + 2) 227 0 (lv_args 0 [.ref 66, .int (xs 1), .int (xs 2)]) [] (hp σ) (.inl (some (.int 0)), hp (st_i ((σ)) 66 0 0)) := by
  refine ev_x (i := .aload_n 0) (len := 1) (p' := 1) (s' := [.ref 66]) rfl rfl rfl ?_
  refine ev_x (i := .iload_n 1) (len := 1) (p' := 2) (s' := [.int (xs 1), .ref 66]) rfl rfl rfl ?_
  refine ev_cv (d := d + 1) (As := [.int (xs 1)]) (a := 66) (p' := 5) rfl rfl rfl ly_66 rfl rfl rfl rfl rfl rfl rfl (wl11a_95 (d := d + 0) (c_1 := c_1)) ?_
  refine ev_st (st' := [.int 0]) rfl ?_
  refine ev_b0 (t := 26) (p' := 26) rfl rfl rfl (by decide) ?_
  refine ev_x (i := .iconst 0) (len := 1) (p' := 27) (s' := [.int 0]) rfl rfl rfl ?_
  exact ev_iret rfl rfl rfl rfl
set_option maxHeartbeats 4000000 in
set_option maxRecDepth 100000 in
/-- GameTextModel.command(II)I -/
theorem wl11a_97 {d : Nat} {σ : st_S} {xs : Nat → Int32} (c_1 : (xs 1) < 0) : vz_ev P0 (d + 3) 226 0 (lv_args 0 [.ref 66, .int (xs 1), .int (xs 2)]) [] (hp σ) (.inl (some (.int (-1))), hp (st_i (((σ))) 66 0 0)) := by
  refine ev_x (i := .aload_n 0) (len := 1) (p' := 1) (s' := [.ref 66]) rfl rfl rfl ?_
  refine ev_x (i := .iload_n 1) (len := 1) (p' := 2) (s' := [.int (xs 1), .ref 66]) rfl rfl rfl ?_
  refine ev_x (i := .iload_n 2) (len := 1) (p' := 3) (s' := [.int (xs 2), .int (xs 1), .ref 66]) rfl rfl rfl ?_
  refine ev_cv (d := d + 2) (As := [.int (xs 1), .int (xs 2)]) (a := 66) (p' := 6) rfl rfl rfl ly_66 rfl rfl rfl rfl rfl rfl rfl (wl11a_96 (d := d + 0) (c_1 := c_1)) ?_
  refine ev_st (st' := [.int 0]) rfl ?_
  refine ev_b0 (t := 27) (p' := 27) rfl rfl rfl (by decide) ?_
  refine ev_x (i := .iconst (-1)) (len := 1) (p' := 28) (s' := [.int (-1)]) rfl rfl rfl ?_
  exact ev_iret rfl rfl rfl rfl
set_option maxHeartbeats 4000000 in
set_option maxRecDepth 100000 in
/-- GameTextLaw.law([I)Z -/
theorem law_11a {d : Nat} {σ : st_S} {L : Nat} {xs : Nat → Int32} (hs : σ.2.2.2.2.2.2.1 0 = .inl (0, L, .inl xs)) (h6 : 6 ≤ L) (c_1 : ¬ (((Int32.ofNat L) - 6) < 0)) (hx : ((xs 0) &&& 15) = 11) (c_2 : (xs 1) < 0) (c_3 : ((Int32.ofNat L) - 6) < 6) : vz_ev P0 (d + 4) 0 23 ([(4, .int 0), (3, .ref 187), (2, .ref 66), (1, .ref 1), (0, .ref 0)]) [] (hp σ) (.inl (some (.int 1)), hp (st_i (((((((σ))))))) 66 0 0)) := by
  refine ev_x (i := .iload 4) (len := 2) (p' := 25) (s' := [.int 0]) rfl rfl rfl ?_
  refine ev_x (i := .aload_n 0) (len := 1) (p' := 26) (s' := [.ref 0, .int 0]) rfl rfl rfl ?_
  refine ev_sl (p' := 27) rfl rfl hs rfl ?_
  refine ev_x (i := .bipush 6) (len := 2) (p' := 29) (s' := [.int 6, .int (Int32.ofNat L), .int 0]) rfl rfl rfl ?_
  refine ev_x (i := .isub) (len := 1) (p' := 30) (s' := [.int ((Int32.ofNat L) - 6), .int 0]) rfl rfl rfl ?_
  refine ev_b2 (t := 621) (p' := 33) rfl rfl rfl (if_neg c_1) ?_
  refine ev_x (i := .aload_n 0) (len := 1) (p' := 34) (s' := [.ref 0]) rfl rfl rfl ?_
  refine ev_x (i := .iload 4) (len := 2) (p' := 36) (s' := [.int 0, .ref 0]) rfl rfl rfl ?_
  refine ev_sg (p' := 37) rfl rfl hs (sp_in_L h6 rfl) rfl ?_
  refine ev_st (st' := [.int (xs 0)]) rfl ?_
  refine ev_x (i := .bipush 15) (len := 2) (p' := 39) (s' := [.int 15, .int (xs 0)]) rfl rfl rfl ?_
  refine ev_x (i := .iand) (len := 1) (p' := 40) (s' := [.int ((xs 0) &&& 15)]) rfl rfl rfl ?_
  refine ev_st (st' := [.int 11]) (congrArg (fun z => [Value.int z]) hx) ?_
  refine ev_ts (off := 440) (t := 480) rfl rfl (by decide) rfl ?_
  refine ev_x (i := .aload_n 1) (len := 1) (p' := 481) (s' := [.ref 1]) rfl rfl rfl ?_
  refine ev_x (i := .aload_n 0) (len := 1) (p' := 482) (s' := [.ref 0, .ref 1]) rfl rfl rfl ?_
  refine ev_x (i := .iload 4) (len := 2) (p' := 484) (s' := [.int 0, .ref 0, .ref 1]) rfl rfl rfl ?_
  refine ev_x (i := .iconst 1) (len := 1) (p' := 485) (s' := [.int 1, .int 0, .ref 0, .ref 1]) rfl rfl rfl ?_
  refine ev_x (i := .iadd) (len := 1) (p' := 486) (s' := [.int 1, .ref 0, .ref 1]) rfl rfl rfl ?_
  refine ev_sg (p' := 487) rfl rfl hs (sp_in_L h6 rfl) rfl ?_
  refine ev_st (st' := [.int (xs 1), .ref 1]) rfl ?_
  refine ev_x (i := .aload_n 0) (len := 1) (p' := 488) (s' := [.ref 0, .int (xs 1), .ref 1]) rfl rfl rfl ?_
  refine ev_x (i := .iload 4) (len := 2) (p' := 490) (s' := [.int 0, .ref 0, .int (xs 1), .ref 1]) rfl rfl rfl ?_
  refine ev_x (i := .iconst 2) (len := 1) (p' := 491) (s' := [.int 2, .int 0, .ref 0, .int (xs 1), .ref 1]) rfl rfl rfl ?_
  refine ev_x (i := .iadd) (len := 1) (p' := 492) (s' := [.int 2, .ref 0, .int (xs 1), .ref 1]) rfl rfl rfl ?_
  refine ev_sg (p' := 493) rfl rfl hs (sp_in_L h6 rfl) rfl ?_
  refine ev_st (st' := [.int (xs 2), .int (xs 1), .ref 1]) rfl ?_
  refine ev_cv (d := d + 3) (As := [.int (xs 1), .int (xs 2)]) (a := 1) (p' := 496) rfl rfl rfl ly_1 rfl rfl rfl rfl rfl rfl rfl (wl11a_94 (d := d + 0) (c_1 := c_2)) ?_
  refine ev_st (st' := [.int (-1)]) rfl ?_
  refine ev_x (i := .aload_n 2) (len := 1) (p' := 497) (s' := [.ref 66, .int (-1)]) rfl rfl rfl ?_
  refine ev_x (i := .aload_n 0) (len := 1) (p' := 498) (s' := [.ref 0, .ref 66, .int (-1)]) rfl rfl rfl ?_
  refine ev_x (i := .iload 4) (len := 2) (p' := 500) (s' := [.int 0, .ref 0, .ref 66, .int (-1)]) rfl rfl rfl ?_
  refine ev_x (i := .iconst 1) (len := 1) (p' := 501) (s' := [.int 1, .int 0, .ref 0, .ref 66, .int (-1)]) rfl rfl rfl ?_
  refine ev_x (i := .iadd) (len := 1) (p' := 502) (s' := [.int 1, .ref 0, .ref 66, .int (-1)]) rfl rfl rfl ?_
  refine ev_sg (p' := 503) rfl rfl hs (sp_in_L h6 rfl) rfl ?_
  refine ev_st (st' := [.int (xs 1), .ref 66, .int (-1)]) rfl ?_
  refine ev_x (i := .aload_n 0) (len := 1) (p' := 504) (s' := [.ref 0, .int (xs 1), .ref 66, .int (-1)]) rfl rfl rfl ?_
  refine ev_x (i := .iload 4) (len := 2) (p' := 506) (s' := [.int 0, .ref 0, .int (xs 1), .ref 66, .int (-1)]) rfl rfl rfl ?_
  refine ev_x (i := .iconst 2) (len := 1) (p' := 507) (s' := [.int 2, .int 0, .ref 0, .int (xs 1), .ref 66, .int (-1)]) rfl rfl rfl ?_
  refine ev_x (i := .iadd) (len := 1) (p' := 508) (s' := [.int 2, .ref 0, .int (xs 1), .ref 66, .int (-1)]) rfl rfl rfl ?_
  refine ev_sg (p' := 509) rfl rfl hs (sp_in_L h6 rfl) rfl ?_
  refine ev_st (st' := [.int (xs 2), .int (xs 1), .ref 66, .int (-1)]) rfl ?_
  refine ev_cv (d := d + 3) (As := [.int (xs 1), .int (xs 2)]) (a := 66) (p' := 512) rfl rfl rfl ly_66 rfl rfl rfl rfl rfl rfl rfl (wl11a_97 (d := d + 0) (c_1 := c_2)) ?_
  refine ev_st (st' := [.int (-1), .int (-1)]) rfl ?_
  refine ev_b2 (t := 615) (p' := 615) rfl rfl rfl (by decide) ?_
  refine ev_x (i := .iinc 4 6) (len := 3) (p' := 618) (s' := []) (l' := [(4, .int 6), (3, .ref 187), (2, .ref 66), (1, .ref 1), (0, .ref 0)]) rfl rfl rfl ?_
  refine ev_x (i := .goto (-595)) (len := 3) (p' := 23) (s' := []) rfl rfl rfl ?_
  refine ev_x (i := .iload 4) (len := 2) (p' := 25) (s' := [.int 6]) rfl rfl rfl ?_
  refine ev_x (i := .aload_n 0) (len := 1) (p' := 26) (s' := [.ref 0, .int 6]) rfl rfl rfl ?_
  refine ev_sl (p' := 27) rfl rfl hs rfl ?_
  refine ev_x (i := .bipush 6) (len := 2) (p' := 29) (s' := [.int 6, .int (Int32.ofNat L), .int 6]) rfl rfl rfl ?_
  refine ev_x (i := .isub) (len := 1) (p' := 30) (s' := [.int ((Int32.ofNat L) - 6), .int 6]) rfl rfl rfl ?_
  refine ev_b2 (t := 621) (p' := 621) rfl rfl rfl (if_pos c_3) ?_
  refine ev_x (i := .iconst 1) (len := 1) (p' := 622) (s' := [.int 1]) rfl rfl rfl ?_
  exact ev_iret rfl rfl rfl rfl
set_option maxHeartbeats 4000000 in
set_option maxRecDepth 100000 in
/-- GameText$Graph.hasState(I)Z -/
theorem wl11b_99 {d : Nat} {σ : st_S} {xs : Nat → Int32} (hi_52_10 : σ.1 52 10 = 0) (c_1 : ¬ ((xs 1) < 0)) (c_2 : 0 ≤ (xs 1)) : vz_ev P0 (d + 1) 97 0 (lv_args 0 [.ref 52, .int (xs 1)]) [] (hp σ) (.inl (some (.int 0)), hp (σ)) := by
  refine ev_x (i := .iload_n 1) (len := 1) (p' := 1) (s' := [.int (xs 1)]) rfl rfl rfl ?_
  refine ev_b0 (t := 16) (p' := 4) rfl rfl rfl (if_neg c_1) ?_
  refine ev_x (i := .iload_n 1) (len := 1) (p' := 5) (s' := [.int (xs 1)]) rfl rfl rfl ?_
  refine ev_x (i := .aload_n 0) (len := 1) (p' := 6) (s' := [.ref 52, .int (xs 1)]) rfl rfl rfl ?_
  refine ev_gi (p' := 9) (v := 0) rfl rfl rfl ly_52 rfl rfl hi_52_10 ?_
  refine ev_b2 (t := 16) (p' := 16) rfl rfl rfl (if_pos c_2) ?_
  refine ev_x (i := .iconst 0) (len := 1) (p' := 17) (s' := [.int 0]) rfl rfl rfl ?_
  exact ev_iret rfl rfl rfl rfl
set_option maxHeartbeats 4000000 in
set_option maxRecDepth 100000 in
/-- GameText$Graph.commandAt(II)I -/
theorem wl11b_100 {d : Nat} {σ : st_S} {xs : Nat → Int32} (hi_52_10 : σ.1 52 10 = 0) (c_1 : ¬ ((xs 1) < 0)) (c_2 : 0 ≤ (xs 1)) : vz_ev P0 (d + 2) 100 0 (lv_args 0 [.ref 52, .int (xs 1), .int (xs 2)]) [] (hp σ) (.inl (some (.int (-1))), hp ((σ))) := by
  refine ev_x (i := .aload_n 0) (len := 1) (p' := 1) (s' := [.ref 52]) rfl rfl rfl ?_
  refine ev_x (i := .iload_n 1) (len := 1) (p' := 2) (s' := [.int (xs 1), .ref 52]) rfl rfl rfl ?_
  refine ev_cv (d := d + 1) (As := [.int (xs 1)]) (a := 52) (p' := 5) rfl rfl rfl ly_52 rfl rfl rfl rfl rfl rfl rfl (wl11b_99 (d := d + 0) (c_1 := c_1) (c_2 := c_2) (hi_52_10 := hi_52_10)) ?_
  refine ev_st (st' := [.int 0]) rfl ?_
  refine ev_b0 (t := 31) (p' := 31) rfl rfl rfl (by decide) ?_
  refine ev_x (i := .iconst (-1)) (len := 1) (p' := 32) (s' := [.int (-1)]) rfl rfl rfl ?_
  exact ev_iret rfl rfl rfl rfl
set_option maxHeartbeats 4000000 in
set_option maxRecDepth 100000 in
/-- GameText.command(II)I -/
theorem wl11b_101 {d : Nat} {σ : st_S} {xs : Nat → Int32} (hi_52_10 : σ.1 52 10 = 0) (c_1 : ¬ ((xs 1) < 0)) (c_2 : 0 ≤ (xs 1)) : vz_ev P0 (d + 3) 99 0 (lv_args 0 [.ref 1, .int (xs 1), .int (xs 2)]) [] (hp σ) (.inl (some (.int (-1))), hp (((σ)))) := by
  refine ev_x (i := .aload_n 0) (len := 1) (p' := 1) (s' := [.ref 1]) rfl rfl rfl ?_
  refine ev_gc (p' := 4) (v := 52) rfl rfl rfl ly_1 rfl rfl ?_
  refine ev_x (i := .iload_n 1) (len := 1) (p' := 5) (s' := [.int (xs 1), .ref 52]) rfl rfl rfl ?_
  refine ev_x (i := .iload_n 2) (len := 1) (p' := 6) (s' := [.int (xs 2), .int (xs 1), .ref 52]) rfl rfl rfl ?_
  refine ev_cv (d := d + 2) (As := [.int (xs 1), .int (xs 2)]) (a := 52) (p' := 9) rfl rfl rfl ly_52 rfl rfl rfl rfl rfl rfl rfl (wl11b_100 (d := d + 0) (c_1 := c_1) (c_2 := c_2) (hi_52_10 := hi_52_10)) ?_
  refine ev_st (st' := [.int (-1)]) rfl ?_
  refine ev_x (i := .istore_n 3) (len := 1) (p' := 10) (s' := []) (l' := [(3, .int (-1)), (0, .ref 1), (1, .int (xs 1)), (2, .int (xs 2))]) rfl rfl rfl ?_
  refine ev_x (i := .iload_n 3) (len := 1) (p' := 11) (s' := [.int (-1)]) rfl rfl rfl ?_
  refine ev_b0 (t := 18) (p' := 14) rfl rfl rfl (by decide) ?_
  refine ev_x (i := .iconst (-1)) (len := 1) (p' := 15) (s' := [.int (-1)]) rfl rfl rfl ?_
  refine ev_x (i := .goto 12) (len := 3) (p' := 27) (s' := [.int (-1)]) rfl rfl rfl ?_
  exact ev_iret rfl rfl rfl rfl
set_option maxHeartbeats 4000000 in
set_option maxRecDepth 100000 in
/-- GameTextModel.isState(I)Z -/
theorem wl11b_102 {d : Nat} {σ : st_S} {xs : Nat → Int32} (hi_66_29 : σ.1 66 29 = 0) (c_1 : ¬ ((xs 1) < 0)) (c_2 : 0 ≤ (xs 1)) : vz_ev P0 (d + 1) 224 0 (lv_args 0 [.ref 66, .int (xs 1)]) [] (hp σ) (.inl (some (.int 0)), hp (st_i (σ) 66 0 0)) := by
  refine ev_x (i := .aload_n 0) (len := 1) (p' := 1) (s' := [.ref 66]) rfl rfl rfl ?_
  refine ev_x (i := .iconst 0) (len := 1) (p' := 2) (s' := [.int 0, .ref 66]) rfl rfl rfl ?_
  refine ev_pi (p' := 5) rfl rfl rfl ly_66 rfl rfl rfl rfl ?_
  refine ev_x (i := .iload_n 1) (len := 1) (p' := 6) (s' := [.int (xs 1)]) rfl rfl rfl ?_
  refine ev_b0 (t := 21) (p' := 9) rfl rfl rfl (if_neg c_1) ?_
  refine ev_x (i := .iload_n 1) (len := 1) (p' := 10) (s' := [.int (xs 1)]) rfl rfl rfl ?_
  refine ev_x (i := .aload_n 0) (len := 1) (p' := 11) (s' := [.ref 66, .int (xs 1)]) rfl rfl rfl ?_
  refine ev_gi (p' := 14) (v := 0) rfl rfl rfl ly_66 rfl rfl hi_66_29 ?_
  refine ev_b2 (t := 21) (p' := 21) rfl rfl rfl (if_pos c_2) ?_
  refine ev_x (i := .iconst 0) (len := 1) (p' := 22) (s' := [.int 0]) rfl rfl rfl ?_
  exact ev_iret rfl rfl rfl rfl
set_option maxHeartbeats 4000000 in
set_option maxRecDepth 100000 in
/-- GameTextModel.isCommand(II)Z -/
theorem wl11b_103 {d : Nat} {σ : st_S} {xs : Nat → Int32} (hi_66_29 : σ.1 66 29 = 0) (c_1 : ¬ ((xs 1) < 0)) (c_2 : 0 ≤ (xs 1)) : vz_ev P0 (d + 2) 227 0 (lv_args 0 [.ref 66, .int (xs 1), .int (xs 2)]) [] (hp σ) (.inl (some (.int 0)), hp (st_i ((σ)) 66 0 0)) := by
  refine ev_x (i := .aload_n 0) (len := 1) (p' := 1) (s' := [.ref 66]) rfl rfl rfl ?_
  refine ev_x (i := .iload_n 1) (len := 1) (p' := 2) (s' := [.int (xs 1), .ref 66]) rfl rfl rfl ?_
  refine ev_cv (d := d + 1) (As := [.int (xs 1)]) (a := 66) (p' := 5) rfl rfl rfl ly_66 rfl rfl rfl rfl rfl rfl rfl (wl11b_102 (d := d + 0) (c_1 := c_1) (c_2 := c_2) (hi_66_29 := hi_66_29)) ?_
  refine ev_st (st' := [.int 0]) rfl ?_
  refine ev_b0 (t := 26) (p' := 26) rfl rfl rfl (by decide) ?_
  refine ev_x (i := .iconst 0) (len := 1) (p' := 27) (s' := [.int 0]) rfl rfl rfl ?_
  exact ev_iret rfl rfl rfl rfl
set_option maxHeartbeats 4000000 in
set_option maxRecDepth 100000 in
/-- GameTextModel.command(II)I -/
theorem wl11b_104 {d : Nat} {σ : st_S} {xs : Nat → Int32} (hi_66_29 : σ.1 66 29 = 0) (c_1 : ¬ ((xs 1) < 0)) (c_2 : 0 ≤ (xs 1)) : vz_ev P0 (d + 3) 226 0 (lv_args 0 [.ref 66, .int (xs 1), .int (xs 2)]) [] (hp σ) (.inl (some (.int (-1))), hp (st_i (((σ))) 66 0 0)) := by
  refine ev_x (i := .aload_n 0) (len := 1) (p' := 1) (s' := [.ref 66]) rfl rfl rfl ?_
  refine ev_x (i := .iload_n 1) (len := 1) (p' := 2) (s' := [.int (xs 1), .ref 66]) rfl rfl rfl ?_
  refine ev_x (i := .iload_n 2) (len := 1) (p' := 3) (s' := [.int (xs 2), .int (xs 1), .ref 66]) rfl rfl rfl ?_
  refine ev_cv (d := d + 2) (As := [.int (xs 1), .int (xs 2)]) (a := 66) (p' := 6) rfl rfl rfl ly_66 rfl rfl rfl rfl rfl rfl rfl (wl11b_103 (d := d + 0) (c_1 := c_1) (c_2 := c_2) (hi_66_29 := hi_66_29)) ?_
  refine ev_st (st' := [.int 0]) rfl ?_
  refine ev_b0 (t := 27) (p' := 27) rfl rfl rfl (by decide) ?_
  refine ev_x (i := .iconst (-1)) (len := 1) (p' := 28) (s' := [.int (-1)]) rfl rfl rfl ?_
  exact ev_iret rfl rfl rfl rfl
set_option maxHeartbeats 4000000 in
set_option maxRecDepth 100000 in
/-- GameTextLaw.law([I)Z -/
theorem law_11b {d : Nat} {σ : st_S} {L : Nat} {xs : Nat → Int32} (hs : σ.2.2.2.2.2.2.1 0 = .inl (0, L, .inl xs)) (h6 : 6 ≤ L) (hi_52_10 : σ.1 52 10 = 0) (hi_66_29 : σ.1 66 29 = 0) (c_1 : ¬ (((Int32.ofNat L) - 6) < 0)) (hx : ((xs 0) &&& 15) = 11) (c_2 : ¬ ((xs 1) < 0)) (c_3 : 0 ≤ (xs 1)) (c_4 : ((Int32.ofNat L) - 6) < 6) : vz_ev P0 (d + 4) 0 23 ([(4, .int 0), (3, .ref 187), (2, .ref 66), (1, .ref 1), (0, .ref 0)]) [] (hp σ) (.inl (some (.int 1)), hp (st_i (((((((σ))))))) 66 0 0)) := by
  refine ev_x (i := .iload 4) (len := 2) (p' := 25) (s' := [.int 0]) rfl rfl rfl ?_
  refine ev_x (i := .aload_n 0) (len := 1) (p' := 26) (s' := [.ref 0, .int 0]) rfl rfl rfl ?_
  refine ev_sl (p' := 27) rfl rfl hs rfl ?_
  refine ev_x (i := .bipush 6) (len := 2) (p' := 29) (s' := [.int 6, .int (Int32.ofNat L), .int 0]) rfl rfl rfl ?_
  refine ev_x (i := .isub) (len := 1) (p' := 30) (s' := [.int ((Int32.ofNat L) - 6), .int 0]) rfl rfl rfl ?_
  refine ev_b2 (t := 621) (p' := 33) rfl rfl rfl (if_neg c_1) ?_
  refine ev_x (i := .aload_n 0) (len := 1) (p' := 34) (s' := [.ref 0]) rfl rfl rfl ?_
  refine ev_x (i := .iload 4) (len := 2) (p' := 36) (s' := [.int 0, .ref 0]) rfl rfl rfl ?_
  refine ev_sg (p' := 37) rfl rfl hs (sp_in_L h6 rfl) rfl ?_
  refine ev_st (st' := [.int (xs 0)]) rfl ?_
  refine ev_x (i := .bipush 15) (len := 2) (p' := 39) (s' := [.int 15, .int (xs 0)]) rfl rfl rfl ?_
  refine ev_x (i := .iand) (len := 1) (p' := 40) (s' := [.int ((xs 0) &&& 15)]) rfl rfl rfl ?_
  refine ev_st (st' := [.int 11]) (congrArg (fun z => [Value.int z]) hx) ?_
  refine ev_ts (off := 440) (t := 480) rfl rfl (by decide) rfl ?_
  refine ev_x (i := .aload_n 1) (len := 1) (p' := 481) (s' := [.ref 1]) rfl rfl rfl ?_
  refine ev_x (i := .aload_n 0) (len := 1) (p' := 482) (s' := [.ref 0, .ref 1]) rfl rfl rfl ?_
  refine ev_x (i := .iload 4) (len := 2) (p' := 484) (s' := [.int 0, .ref 0, .ref 1]) rfl rfl rfl ?_
  refine ev_x (i := .iconst 1) (len := 1) (p' := 485) (s' := [.int 1, .int 0, .ref 0, .ref 1]) rfl rfl rfl ?_
  refine ev_x (i := .iadd) (len := 1) (p' := 486) (s' := [.int 1, .ref 0, .ref 1]) rfl rfl rfl ?_
  refine ev_sg (p' := 487) rfl rfl hs (sp_in_L h6 rfl) rfl ?_
  refine ev_st (st' := [.int (xs 1), .ref 1]) rfl ?_
  refine ev_x (i := .aload_n 0) (len := 1) (p' := 488) (s' := [.ref 0, .int (xs 1), .ref 1]) rfl rfl rfl ?_
  refine ev_x (i := .iload 4) (len := 2) (p' := 490) (s' := [.int 0, .ref 0, .int (xs 1), .ref 1]) rfl rfl rfl ?_
  refine ev_x (i := .iconst 2) (len := 1) (p' := 491) (s' := [.int 2, .int 0, .ref 0, .int (xs 1), .ref 1]) rfl rfl rfl ?_
  refine ev_x (i := .iadd) (len := 1) (p' := 492) (s' := [.int 2, .ref 0, .int (xs 1), .ref 1]) rfl rfl rfl ?_
  refine ev_sg (p' := 493) rfl rfl hs (sp_in_L h6 rfl) rfl ?_
  refine ev_st (st' := [.int (xs 2), .int (xs 1), .ref 1]) rfl ?_
  refine ev_cv (d := d + 3) (As := [.int (xs 1), .int (xs 2)]) (a := 1) (p' := 496) rfl rfl rfl ly_1 rfl rfl rfl rfl rfl rfl rfl (wl11b_101 (d := d + 0) (c_1 := c_2) (c_2 := c_3) (hi_52_10 := hi_52_10)) ?_
  refine ev_st (st' := [.int (-1)]) rfl ?_
  refine ev_x (i := .aload_n 2) (len := 1) (p' := 497) (s' := [.ref 66, .int (-1)]) rfl rfl rfl ?_
  refine ev_x (i := .aload_n 0) (len := 1) (p' := 498) (s' := [.ref 0, .ref 66, .int (-1)]) rfl rfl rfl ?_
  refine ev_x (i := .iload 4) (len := 2) (p' := 500) (s' := [.int 0, .ref 0, .ref 66, .int (-1)]) rfl rfl rfl ?_
  refine ev_x (i := .iconst 1) (len := 1) (p' := 501) (s' := [.int 1, .int 0, .ref 0, .ref 66, .int (-1)]) rfl rfl rfl ?_
  refine ev_x (i := .iadd) (len := 1) (p' := 502) (s' := [.int 1, .ref 0, .ref 66, .int (-1)]) rfl rfl rfl ?_
  refine ev_sg (p' := 503) rfl rfl hs (sp_in_L h6 rfl) rfl ?_
  refine ev_st (st' := [.int (xs 1), .ref 66, .int (-1)]) rfl ?_
  refine ev_x (i := .aload_n 0) (len := 1) (p' := 504) (s' := [.ref 0, .int (xs 1), .ref 66, .int (-1)]) rfl rfl rfl ?_
  refine ev_x (i := .iload 4) (len := 2) (p' := 506) (s' := [.int 0, .ref 0, .int (xs 1), .ref 66, .int (-1)]) rfl rfl rfl ?_
  refine ev_x (i := .iconst 2) (len := 1) (p' := 507) (s' := [.int 2, .int 0, .ref 0, .int (xs 1), .ref 66, .int (-1)]) rfl rfl rfl ?_
  refine ev_x (i := .iadd) (len := 1) (p' := 508) (s' := [.int 2, .ref 0, .int (xs 1), .ref 66, .int (-1)]) rfl rfl rfl ?_
  refine ev_sg (p' := 509) rfl rfl hs (sp_in_L h6 rfl) rfl ?_
  refine ev_st (st' := [.int (xs 2), .int (xs 1), .ref 66, .int (-1)]) rfl ?_
  refine ev_cv (d := d + 3) (As := [.int (xs 1), .int (xs 2)]) (a := 66) (p' := 512) rfl rfl rfl ly_66 rfl rfl rfl rfl rfl rfl rfl (wl11b_104 (d := d + 0) (c_1 := c_2) (c_2 := c_3) (hi_66_29 := hi_66_29)) ?_
  refine ev_st (st' := [.int (-1), .int (-1)]) rfl ?_
  refine ev_b2 (t := 615) (p' := 615) rfl rfl rfl (by decide) ?_
  refine ev_x (i := .iinc 4 6) (len := 3) (p' := 618) (s' := []) (l' := [(4, .int 6), (3, .ref 187), (2, .ref 66), (1, .ref 1), (0, .ref 0)]) rfl rfl rfl ?_
  refine ev_x (i := .goto (-595)) (len := 3) (p' := 23) (s' := []) rfl rfl rfl ?_
  refine ev_x (i := .iload 4) (len := 2) (p' := 25) (s' := [.int 6]) rfl rfl rfl ?_
  refine ev_x (i := .aload_n 0) (len := 1) (p' := 26) (s' := [.ref 0, .int 6]) rfl rfl rfl ?_
  refine ev_sl (p' := 27) rfl rfl hs rfl ?_
  refine ev_x (i := .bipush 6) (len := 2) (p' := 29) (s' := [.int 6, .int (Int32.ofNat L), .int 6]) rfl rfl rfl ?_
  refine ev_x (i := .isub) (len := 1) (p' := 30) (s' := [.int ((Int32.ofNat L) - 6), .int 6]) rfl rfl rfl ?_
  refine ev_b2 (t := 621) (p' := 621) rfl rfl rfl (if_pos c_4) ?_
  refine ev_x (i := .iconst 1) (len := 1) (p' := 622) (s' := [.int 1]) rfl rfl rfl ?_
  exact ev_iret rfl rfl rfl rfl
set_option maxHeartbeats 4000000 in
set_option maxRecDepth 100000 in
/-- GameText$Graph.hasState(I)Z -/
theorem wl12a_106 {d : Nat} {σ : st_S} {xs : Nat → Int32} (c_1 : (xs 1) < 0) : vz_ev P0 (d + 1) 97 0 (lv_args 0 [.ref 52, .int (xs 1)]) [] (hp σ) (.inl (some (.int 0)), hp (σ)) := by
  refine ev_x (i := .iload_n 1) (len := 1) (p' := 1) (s' := [.int (xs 1)]) rfl rfl rfl ?_
  refine ev_b0 (t := 16) (p' := 16) rfl rfl rfl (if_pos c_1) ?_
  refine ev_x (i := .iconst 0) (len := 1) (p' := 17) (s' := [.int 0]) rfl rfl rfl ?_
  exact ev_iret rfl rfl rfl rfl
set_option maxHeartbeats 4000000 in
set_option maxRecDepth 100000 in
/-- GameText$Graph.commandAt(II)I -/
theorem wl12a_107 {d : Nat} {σ : st_S} {xs : Nat → Int32} (c_1 : (xs 1) < 0) : vz_ev P0 (d + 2) 100 0 (lv_args 0 [.ref 52, .int (xs 1), .int (xs 2)]) [] (hp σ) (.inl (some (.int (-1))), hp ((σ))) := by
  refine ev_x (i := .aload_n 0) (len := 1) (p' := 1) (s' := [.ref 52]) rfl rfl rfl ?_
  refine ev_x (i := .iload_n 1) (len := 1) (p' := 2) (s' := [.int (xs 1), .ref 52]) rfl rfl rfl ?_
  refine ev_cv (d := d + 1) (As := [.int (xs 1)]) (a := 52) (p' := 5) rfl rfl rfl ly_52 rfl rfl rfl rfl rfl rfl rfl (wl12a_106 (d := d + 0) (c_1 := c_1)) ?_
  refine ev_st (st' := [.int 0]) rfl ?_
  refine ev_b0 (t := 31) (p' := 31) rfl rfl rfl (by decide) ?_
  refine ev_x (i := .iconst (-1)) (len := 1) (p' := 32) (s' := [.int (-1)]) rfl rfl rfl ?_
  exact ev_iret rfl rfl rfl rfl
set_option maxHeartbeats 4000000 in
set_option maxRecDepth 100000 in
/-- GameText.branches(II)I -/
theorem wl12a_108 {d : Nat} {σ : st_S} {xs : Nat → Int32} (c_1 : (xs 1) < 0) : vz_ev P0 (d + 3) 101 0 (lv_args 0 [.ref 1, .int (xs 1), .int (xs 2)]) [] (hp σ) (.inl (some (.int (-1))), hp (((σ)))) := by
  refine ev_x (i := .aload_n 0) (len := 1) (p' := 1) (s' := [.ref 1]) rfl rfl rfl ?_
  refine ev_gc (p' := 4) (v := 52) rfl rfl rfl ly_1 rfl rfl ?_
  refine ev_x (i := .iload_n 1) (len := 1) (p' := 5) (s' := [.int (xs 1), .ref 52]) rfl rfl rfl ?_
  refine ev_x (i := .iload_n 2) (len := 1) (p' := 6) (s' := [.int (xs 2), .int (xs 1), .ref 52]) rfl rfl rfl ?_
  refine ev_cv (d := d + 2) (As := [.int (xs 1), .int (xs 2)]) (a := 52) (p' := 9) rfl rfl rfl ly_52 rfl rfl rfl rfl rfl rfl rfl (wl12a_107 (d := d + 0) (c_1 := c_1)) ?_
  refine ev_st (st' := [.int (-1)]) rfl ?_
  refine ev_x (i := .istore_n 3) (len := 1) (p' := 10) (s' := []) (l' := [(3, .int (-1)), (0, .ref 1), (1, .int (xs 1)), (2, .int (xs 2))]) rfl rfl rfl ?_
  refine ev_x (i := .iload_n 3) (len := 1) (p' := 11) (s' := [.int (-1)]) rfl rfl rfl ?_
  refine ev_b0 (t := 18) (p' := 14) rfl rfl rfl (by decide) ?_
  refine ev_x (i := .iconst (-1)) (len := 1) (p' := 15) (s' := [.int (-1)]) rfl rfl rfl ?_
  refine ev_x (i := .goto 24) (len := 3) (p' := 39) (s' := [.int (-1)]) rfl rfl rfl ?_
  exact ev_iret rfl rfl rfl rfl
set_option maxHeartbeats 4000000 in
set_option maxRecDepth 100000 in
/-- GameTextModel.isState(I)Z -/
theorem wl12a_109 {d : Nat} {σ : st_S} {xs : Nat → Int32} (c_1 : (xs 1) < 0) : vz_ev P0 (d + 1) 224 0 (lv_args 0 [.ref 66, .int (xs 1)]) [] (hp σ) (.inl (some (.int 0)), hp (st_i (σ) 66 0 0)) := by
  refine ev_x (i := .aload_n 0) (len := 1) (p' := 1) (s' := [.ref 66]) rfl rfl rfl ?_
  refine ev_x (i := .iconst 0) (len := 1) (p' := 2) (s' := [.int 0, .ref 66]) rfl rfl rfl ?_
  refine ev_pi (p' := 5) rfl rfl rfl ly_66 rfl rfl rfl rfl ?_
  refine ev_x (i := .iload_n 1) (len := 1) (p' := 6) (s' := [.int (xs 1)]) rfl rfl rfl ?_
  refine ev_b0 (t := 21) (p' := 21) rfl rfl rfl (if_pos c_1) ?_
  refine ev_x (i := .iconst 0) (len := 1) (p' := 22) (s' := [.int 0]) rfl rfl rfl ?_
  exact ev_iret rfl rfl rfl rfl
set_option maxHeartbeats 4000000 in
set_option maxRecDepth 100000 in
/-- GameTextModel.isCommand(II)Z -/
theorem wl12a_110 {d : Nat} {σ : st_S} {xs : Nat → Int32} (c_1 : (xs 1) < 0) : vz_ev P0 (d + 2) 227 0 (lv_args 0 [.ref 66, .int (xs 1), .int (xs 2)]) [] (hp σ) (.inl (some (.int 0)), hp (st_i ((σ)) 66 0 0)) := by
  refine ev_x (i := .aload_n 0) (len := 1) (p' := 1) (s' := [.ref 66]) rfl rfl rfl ?_
  refine ev_x (i := .iload_n 1) (len := 1) (p' := 2) (s' := [.int (xs 1), .ref 66]) rfl rfl rfl ?_
  refine ev_cv (d := d + 1) (As := [.int (xs 1)]) (a := 66) (p' := 5) rfl rfl rfl ly_66 rfl rfl rfl rfl rfl rfl rfl (wl12a_109 (d := d + 0) (c_1 := c_1)) ?_
  refine ev_st (st' := [.int 0]) rfl ?_
  refine ev_b0 (t := 26) (p' := 26) rfl rfl rfl (by decide) ?_
  refine ev_x (i := .iconst 0) (len := 1) (p' := 27) (s' := [.int 0]) rfl rfl rfl ?_
  exact ev_iret rfl rfl rfl rfl
set_option maxHeartbeats 4000000 in
set_option maxRecDepth 100000 in
/-- GameTextModel.branches(II)I -/
theorem wl12a_111 {d : Nat} {σ : st_S} {xs : Nat → Int32} (c_1 : (xs 1) < 0) : vz_ev P0 (d + 3) 228 0 (lv_args 0 [.ref 66, .int (xs 1), .int (xs 2)]) [] (hp σ) (.inl (some (.int (-1))), hp (st_i (((σ))) 66 0 0)) := by
  refine ev_x (i := .aload_n 0) (len := 1) (p' := 1) (s' := [.ref 66]) rfl rfl rfl ?_
  refine ev_x (i := .iload_n 1) (len := 1) (p' := 2) (s' := [.int (xs 1), .ref 66]) rfl rfl rfl ?_
  refine ev_x (i := .iload_n 2) (len := 1) (p' := 3) (s' := [.int (xs 2), .int (xs 1), .ref 66]) rfl rfl rfl ?_
  refine ev_cv (d := d + 2) (As := [.int (xs 1), .int (xs 2)]) (a := 66) (p' := 6) rfl rfl rfl ly_66 rfl rfl rfl rfl rfl rfl rfl (wl12a_110 (d := d + 0) (c_1 := c_1)) ?_
  refine ev_st (st' := [.int 0]) rfl ?_
  refine ev_b0 (t := 27) (p' := 27) rfl rfl rfl (by decide) ?_
  refine ev_x (i := .iconst (-1)) (len := 1) (p' := 28) (s' := [.int (-1)]) rfl rfl rfl ?_
  exact ev_iret rfl rfl rfl rfl
set_option maxHeartbeats 4000000 in
set_option maxRecDepth 100000 in
/-- GameTextLaw.law([I)Z -/
theorem law_12a {d : Nat} {σ : st_S} {L : Nat} {xs : Nat → Int32} (hs : σ.2.2.2.2.2.2.1 0 = .inl (0, L, .inl xs)) (h6 : 6 ≤ L) (c_1 : ¬ (((Int32.ofNat L) - 6) < 0)) (hx : ((xs 0) &&& 15) = 12) (c_2 : (xs 1) < 0) (c_3 : ((Int32.ofNat L) - 6) < 6) : vz_ev P0 (d + 4) 0 23 ([(4, .int 0), (3, .ref 187), (2, .ref 66), (1, .ref 1), (0, .ref 0)]) [] (hp σ) (.inl (some (.int 1)), hp (st_i (((((((σ))))))) 66 0 0)) := by
  refine ev_x (i := .iload 4) (len := 2) (p' := 25) (s' := [.int 0]) rfl rfl rfl ?_
  refine ev_x (i := .aload_n 0) (len := 1) (p' := 26) (s' := [.ref 0, .int 0]) rfl rfl rfl ?_
  refine ev_sl (p' := 27) rfl rfl hs rfl ?_
  refine ev_x (i := .bipush 6) (len := 2) (p' := 29) (s' := [.int 6, .int (Int32.ofNat L), .int 0]) rfl rfl rfl ?_
  refine ev_x (i := .isub) (len := 1) (p' := 30) (s' := [.int ((Int32.ofNat L) - 6), .int 0]) rfl rfl rfl ?_
  refine ev_b2 (t := 621) (p' := 33) rfl rfl rfl (if_neg c_1) ?_
  refine ev_x (i := .aload_n 0) (len := 1) (p' := 34) (s' := [.ref 0]) rfl rfl rfl ?_
  refine ev_x (i := .iload 4) (len := 2) (p' := 36) (s' := [.int 0, .ref 0]) rfl rfl rfl ?_
  refine ev_sg (p' := 37) rfl rfl hs (sp_in_L h6 rfl) rfl ?_
  refine ev_st (st' := [.int (xs 0)]) rfl ?_
  refine ev_x (i := .bipush 15) (len := 2) (p' := 39) (s' := [.int 15, .int (xs 0)]) rfl rfl rfl ?_
  refine ev_x (i := .iand) (len := 1) (p' := 40) (s' := [.int ((xs 0) &&& 15)]) rfl rfl rfl ?_
  refine ev_st (st' := [.int 12]) (congrArg (fun z => [Value.int z]) hx) ?_
  refine ev_ts (off := 477) (t := 517) rfl rfl (by decide) rfl ?_
  refine ev_x (i := .aload_n 1) (len := 1) (p' := 518) (s' := [.ref 1]) rfl rfl rfl ?_
  refine ev_x (i := .aload_n 0) (len := 1) (p' := 519) (s' := [.ref 0, .ref 1]) rfl rfl rfl ?_
  refine ev_x (i := .iload 4) (len := 2) (p' := 521) (s' := [.int 0, .ref 0, .ref 1]) rfl rfl rfl ?_
  refine ev_x (i := .iconst 1) (len := 1) (p' := 522) (s' := [.int 1, .int 0, .ref 0, .ref 1]) rfl rfl rfl ?_
  refine ev_x (i := .iadd) (len := 1) (p' := 523) (s' := [.int 1, .ref 0, .ref 1]) rfl rfl rfl ?_
  refine ev_sg (p' := 524) rfl rfl hs (sp_in_L h6 rfl) rfl ?_
  refine ev_st (st' := [.int (xs 1), .ref 1]) rfl ?_
  refine ev_x (i := .aload_n 0) (len := 1) (p' := 525) (s' := [.ref 0, .int (xs 1), .ref 1]) rfl rfl rfl ?_
  refine ev_x (i := .iload 4) (len := 2) (p' := 527) (s' := [.int 0, .ref 0, .int (xs 1), .ref 1]) rfl rfl rfl ?_
  refine ev_x (i := .iconst 2) (len := 1) (p' := 528) (s' := [.int 2, .int 0, .ref 0, .int (xs 1), .ref 1]) rfl rfl rfl ?_
  refine ev_x (i := .iadd) (len := 1) (p' := 529) (s' := [.int 2, .ref 0, .int (xs 1), .ref 1]) rfl rfl rfl ?_
  refine ev_sg (p' := 530) rfl rfl hs (sp_in_L h6 rfl) rfl ?_
  refine ev_st (st' := [.int (xs 2), .int (xs 1), .ref 1]) rfl ?_
  refine ev_cv (d := d + 3) (As := [.int (xs 1), .int (xs 2)]) (a := 1) (p' := 533) rfl rfl rfl ly_1 rfl rfl rfl rfl rfl rfl rfl (wl12a_108 (d := d + 0) (c_1 := c_2)) ?_
  refine ev_st (st' := [.int (-1)]) rfl ?_
  refine ev_x (i := .aload_n 2) (len := 1) (p' := 534) (s' := [.ref 66, .int (-1)]) rfl rfl rfl ?_
  refine ev_x (i := .aload_n 0) (len := 1) (p' := 535) (s' := [.ref 0, .ref 66, .int (-1)]) rfl rfl rfl ?_
  refine ev_x (i := .iload 4) (len := 2) (p' := 537) (s' := [.int 0, .ref 0, .ref 66, .int (-1)]) rfl rfl rfl ?_
  refine ev_x (i := .iconst 1) (len := 1) (p' := 538) (s' := [.int 1, .int 0, .ref 0, .ref 66, .int (-1)]) rfl rfl rfl ?_
  refine ev_x (i := .iadd) (len := 1) (p' := 539) (s' := [.int 1, .ref 0, .ref 66, .int (-1)]) rfl rfl rfl ?_
  refine ev_sg (p' := 540) rfl rfl hs (sp_in_L h6 rfl) rfl ?_
  refine ev_st (st' := [.int (xs 1), .ref 66, .int (-1)]) rfl ?_
  refine ev_x (i := .aload_n 0) (len := 1) (p' := 541) (s' := [.ref 0, .int (xs 1), .ref 66, .int (-1)]) rfl rfl rfl ?_
  refine ev_x (i := .iload 4) (len := 2) (p' := 543) (s' := [.int 0, .ref 0, .int (xs 1), .ref 66, .int (-1)]) rfl rfl rfl ?_
  refine ev_x (i := .iconst 2) (len := 1) (p' := 544) (s' := [.int 2, .int 0, .ref 0, .int (xs 1), .ref 66, .int (-1)]) rfl rfl rfl ?_
  refine ev_x (i := .iadd) (len := 1) (p' := 545) (s' := [.int 2, .ref 0, .int (xs 1), .ref 66, .int (-1)]) rfl rfl rfl ?_
  refine ev_sg (p' := 546) rfl rfl hs (sp_in_L h6 rfl) rfl ?_
  refine ev_st (st' := [.int (xs 2), .int (xs 1), .ref 66, .int (-1)]) rfl ?_
  refine ev_cv (d := d + 3) (As := [.int (xs 1), .int (xs 2)]) (a := 66) (p' := 549) rfl rfl rfl ly_66 rfl rfl rfl rfl rfl rfl rfl (wl12a_111 (d := d + 0) (c_1 := c_2)) ?_
  refine ev_st (st' := [.int (-1), .int (-1)]) rfl ?_
  refine ev_b2 (t := 615) (p' := 615) rfl rfl rfl (by decide) ?_
  refine ev_x (i := .iinc 4 6) (len := 3) (p' := 618) (s' := []) (l' := [(4, .int 6), (3, .ref 187), (2, .ref 66), (1, .ref 1), (0, .ref 0)]) rfl rfl rfl ?_
  refine ev_x (i := .goto (-595)) (len := 3) (p' := 23) (s' := []) rfl rfl rfl ?_
  refine ev_x (i := .iload 4) (len := 2) (p' := 25) (s' := [.int 6]) rfl rfl rfl ?_
  refine ev_x (i := .aload_n 0) (len := 1) (p' := 26) (s' := [.ref 0, .int 6]) rfl rfl rfl ?_
  refine ev_sl (p' := 27) rfl rfl hs rfl ?_
  refine ev_x (i := .bipush 6) (len := 2) (p' := 29) (s' := [.int 6, .int (Int32.ofNat L), .int 6]) rfl rfl rfl ?_
  refine ev_x (i := .isub) (len := 1) (p' := 30) (s' := [.int ((Int32.ofNat L) - 6), .int 6]) rfl rfl rfl ?_
  refine ev_b2 (t := 621) (p' := 621) rfl rfl rfl (if_pos c_3) ?_
  refine ev_x (i := .iconst 1) (len := 1) (p' := 622) (s' := [.int 1]) rfl rfl rfl ?_
  exact ev_iret rfl rfl rfl rfl
set_option maxHeartbeats 4000000 in
set_option maxRecDepth 100000 in
/-- GameText$Graph.hasState(I)Z -/
theorem wl12b_113 {d : Nat} {σ : st_S} {xs : Nat → Int32} (hi_52_10 : σ.1 52 10 = 0) (c_1 : ¬ ((xs 1) < 0)) (c_2 : 0 ≤ (xs 1)) : vz_ev P0 (d + 1) 97 0 (lv_args 0 [.ref 52, .int (xs 1)]) [] (hp σ) (.inl (some (.int 0)), hp (σ)) := by
  refine ev_x (i := .iload_n 1) (len := 1) (p' := 1) (s' := [.int (xs 1)]) rfl rfl rfl ?_
  refine ev_b0 (t := 16) (p' := 4) rfl rfl rfl (if_neg c_1) ?_
  refine ev_x (i := .iload_n 1) (len := 1) (p' := 5) (s' := [.int (xs 1)]) rfl rfl rfl ?_
  refine ev_x (i := .aload_n 0) (len := 1) (p' := 6) (s' := [.ref 52, .int (xs 1)]) rfl rfl rfl ?_
  refine ev_gi (p' := 9) (v := 0) rfl rfl rfl ly_52 rfl rfl hi_52_10 ?_
  refine ev_b2 (t := 16) (p' := 16) rfl rfl rfl (if_pos c_2) ?_
  refine ev_x (i := .iconst 0) (len := 1) (p' := 17) (s' := [.int 0]) rfl rfl rfl ?_
  exact ev_iret rfl rfl rfl rfl
set_option maxHeartbeats 4000000 in
set_option maxRecDepth 100000 in
/-- GameText$Graph.commandAt(II)I -/
theorem wl12b_114 {d : Nat} {σ : st_S} {xs : Nat → Int32} (hi_52_10 : σ.1 52 10 = 0) (c_1 : ¬ ((xs 1) < 0)) (c_2 : 0 ≤ (xs 1)) : vz_ev P0 (d + 2) 100 0 (lv_args 0 [.ref 52, .int (xs 1), .int (xs 2)]) [] (hp σ) (.inl (some (.int (-1))), hp ((σ))) := by
  refine ev_x (i := .aload_n 0) (len := 1) (p' := 1) (s' := [.ref 52]) rfl rfl rfl ?_
  refine ev_x (i := .iload_n 1) (len := 1) (p' := 2) (s' := [.int (xs 1), .ref 52]) rfl rfl rfl ?_
  refine ev_cv (d := d + 1) (As := [.int (xs 1)]) (a := 52) (p' := 5) rfl rfl rfl ly_52 rfl rfl rfl rfl rfl rfl rfl (wl12b_113 (d := d + 0) (c_1 := c_1) (c_2 := c_2) (hi_52_10 := hi_52_10)) ?_
  refine ev_st (st' := [.int 0]) rfl ?_
  refine ev_b0 (t := 31) (p' := 31) rfl rfl rfl (by decide) ?_
  refine ev_x (i := .iconst (-1)) (len := 1) (p' := 32) (s' := [.int (-1)]) rfl rfl rfl ?_
  exact ev_iret rfl rfl rfl rfl
set_option maxHeartbeats 4000000 in
set_option maxRecDepth 100000 in
/-- GameText.branches(II)I -/
theorem wl12b_115 {d : Nat} {σ : st_S} {xs : Nat → Int32} (hi_52_10 : σ.1 52 10 = 0) (c_1 : ¬ ((xs 1) < 0)) (c_2 : 0 ≤ (xs 1)) : vz_ev P0 (d + 3) 101 0 (lv_args 0 [.ref 1, .int (xs 1), .int (xs 2)]) [] (hp σ) (.inl (some (.int (-1))), hp (((σ)))) := by
  refine ev_x (i := .aload_n 0) (len := 1) (p' := 1) (s' := [.ref 1]) rfl rfl rfl ?_
  refine ev_gc (p' := 4) (v := 52) rfl rfl rfl ly_1 rfl rfl ?_
  refine ev_x (i := .iload_n 1) (len := 1) (p' := 5) (s' := [.int (xs 1), .ref 52]) rfl rfl rfl ?_
  refine ev_x (i := .iload_n 2) (len := 1) (p' := 6) (s' := [.int (xs 2), .int (xs 1), .ref 52]) rfl rfl rfl ?_
  refine ev_cv (d := d + 2) (As := [.int (xs 1), .int (xs 2)]) (a := 52) (p' := 9) rfl rfl rfl ly_52 rfl rfl rfl rfl rfl rfl rfl (wl12b_114 (d := d + 0) (c_1 := c_1) (c_2 := c_2) (hi_52_10 := hi_52_10)) ?_
  refine ev_st (st' := [.int (-1)]) rfl ?_
  refine ev_x (i := .istore_n 3) (len := 1) (p' := 10) (s' := []) (l' := [(3, .int (-1)), (0, .ref 1), (1, .int (xs 1)), (2, .int (xs 2))]) rfl rfl rfl ?_
  refine ev_x (i := .iload_n 3) (len := 1) (p' := 11) (s' := [.int (-1)]) rfl rfl rfl ?_
  refine ev_b0 (t := 18) (p' := 14) rfl rfl rfl (by decide) ?_
  refine ev_x (i := .iconst (-1)) (len := 1) (p' := 15) (s' := [.int (-1)]) rfl rfl rfl ?_
  refine ev_x (i := .goto 24) (len := 3) (p' := 39) (s' := [.int (-1)]) rfl rfl rfl ?_
  exact ev_iret rfl rfl rfl rfl
set_option maxHeartbeats 4000000 in
set_option maxRecDepth 100000 in
/-- GameTextModel.isState(I)Z -/
theorem wl12b_116 {d : Nat} {σ : st_S} {xs : Nat → Int32} (hi_66_29 : σ.1 66 29 = 0) (c_1 : ¬ ((xs 1) < 0)) (c_2 : 0 ≤ (xs 1)) : vz_ev P0 (d + 1) 224 0 (lv_args 0 [.ref 66, .int (xs 1)]) [] (hp σ) (.inl (some (.int 0)), hp (st_i (σ) 66 0 0)) := by
  refine ev_x (i := .aload_n 0) (len := 1) (p' := 1) (s' := [.ref 66]) rfl rfl rfl ?_
  refine ev_x (i := .iconst 0) (len := 1) (p' := 2) (s' := [.int 0, .ref 66]) rfl rfl rfl ?_
  refine ev_pi (p' := 5) rfl rfl rfl ly_66 rfl rfl rfl rfl ?_
  refine ev_x (i := .iload_n 1) (len := 1) (p' := 6) (s' := [.int (xs 1)]) rfl rfl rfl ?_
  refine ev_b0 (t := 21) (p' := 9) rfl rfl rfl (if_neg c_1) ?_
  refine ev_x (i := .iload_n 1) (len := 1) (p' := 10) (s' := [.int (xs 1)]) rfl rfl rfl ?_
  refine ev_x (i := .aload_n 0) (len := 1) (p' := 11) (s' := [.ref 66, .int (xs 1)]) rfl rfl rfl ?_
  refine ev_gi (p' := 14) (v := 0) rfl rfl rfl ly_66 rfl rfl hi_66_29 ?_
  refine ev_b2 (t := 21) (p' := 21) rfl rfl rfl (if_pos c_2) ?_
  refine ev_x (i := .iconst 0) (len := 1) (p' := 22) (s' := [.int 0]) rfl rfl rfl ?_
  exact ev_iret rfl rfl rfl rfl
set_option maxHeartbeats 4000000 in
set_option maxRecDepth 100000 in
/-- GameTextModel.isCommand(II)Z -/
theorem wl12b_117 {d : Nat} {σ : st_S} {xs : Nat → Int32} (hi_66_29 : σ.1 66 29 = 0) (c_1 : ¬ ((xs 1) < 0)) (c_2 : 0 ≤ (xs 1)) : vz_ev P0 (d + 2) 227 0 (lv_args 0 [.ref 66, .int (xs 1), .int (xs 2)]) [] (hp σ) (.inl (some (.int 0)), hp (st_i ((σ)) 66 0 0)) := by
  refine ev_x (i := .aload_n 0) (len := 1) (p' := 1) (s' := [.ref 66]) rfl rfl rfl ?_
  refine ev_x (i := .iload_n 1) (len := 1) (p' := 2) (s' := [.int (xs 1), .ref 66]) rfl rfl rfl ?_
  refine ev_cv (d := d + 1) (As := [.int (xs 1)]) (a := 66) (p' := 5) rfl rfl rfl ly_66 rfl rfl rfl rfl rfl rfl rfl (wl12b_116 (d := d + 0) (c_1 := c_1) (c_2 := c_2) (hi_66_29 := hi_66_29)) ?_
  refine ev_st (st' := [.int 0]) rfl ?_
  refine ev_b0 (t := 26) (p' := 26) rfl rfl rfl (by decide) ?_
  refine ev_x (i := .iconst 0) (len := 1) (p' := 27) (s' := [.int 0]) rfl rfl rfl ?_
  exact ev_iret rfl rfl rfl rfl
set_option maxHeartbeats 4000000 in
set_option maxRecDepth 100000 in
/-- GameTextModel.branches(II)I -/
theorem wl12b_118 {d : Nat} {σ : st_S} {xs : Nat → Int32} (hi_66_29 : σ.1 66 29 = 0) (c_1 : ¬ ((xs 1) < 0)) (c_2 : 0 ≤ (xs 1)) : vz_ev P0 (d + 3) 228 0 (lv_args 0 [.ref 66, .int (xs 1), .int (xs 2)]) [] (hp σ) (.inl (some (.int (-1))), hp (st_i (((σ))) 66 0 0)) := by
  refine ev_x (i := .aload_n 0) (len := 1) (p' := 1) (s' := [.ref 66]) rfl rfl rfl ?_
  refine ev_x (i := .iload_n 1) (len := 1) (p' := 2) (s' := [.int (xs 1), .ref 66]) rfl rfl rfl ?_
  refine ev_x (i := .iload_n 2) (len := 1) (p' := 3) (s' := [.int (xs 2), .int (xs 1), .ref 66]) rfl rfl rfl ?_
  refine ev_cv (d := d + 2) (As := [.int (xs 1), .int (xs 2)]) (a := 66) (p' := 6) rfl rfl rfl ly_66 rfl rfl rfl rfl rfl rfl rfl (wl12b_117 (d := d + 0) (c_1 := c_1) (c_2 := c_2) (hi_66_29 := hi_66_29)) ?_
  refine ev_st (st' := [.int 0]) rfl ?_
  refine ev_b0 (t := 27) (p' := 27) rfl rfl rfl (by decide) ?_
  refine ev_x (i := .iconst (-1)) (len := 1) (p' := 28) (s' := [.int (-1)]) rfl rfl rfl ?_
  exact ev_iret rfl rfl rfl rfl
set_option maxHeartbeats 4000000 in
set_option maxRecDepth 100000 in
/-- GameTextLaw.law([I)Z -/
theorem law_12b {d : Nat} {σ : st_S} {L : Nat} {xs : Nat → Int32} (hs : σ.2.2.2.2.2.2.1 0 = .inl (0, L, .inl xs)) (h6 : 6 ≤ L) (hi_52_10 : σ.1 52 10 = 0) (hi_66_29 : σ.1 66 29 = 0) (c_1 : ¬ (((Int32.ofNat L) - 6) < 0)) (hx : ((xs 0) &&& 15) = 12) (c_2 : ¬ ((xs 1) < 0)) (c_3 : 0 ≤ (xs 1)) (c_4 : ((Int32.ofNat L) - 6) < 6) : vz_ev P0 (d + 4) 0 23 ([(4, .int 0), (3, .ref 187), (2, .ref 66), (1, .ref 1), (0, .ref 0)]) [] (hp σ) (.inl (some (.int 1)), hp (st_i (((((((σ))))))) 66 0 0)) := by
  refine ev_x (i := .iload 4) (len := 2) (p' := 25) (s' := [.int 0]) rfl rfl rfl ?_
  refine ev_x (i := .aload_n 0) (len := 1) (p' := 26) (s' := [.ref 0, .int 0]) rfl rfl rfl ?_
  refine ev_sl (p' := 27) rfl rfl hs rfl ?_
  refine ev_x (i := .bipush 6) (len := 2) (p' := 29) (s' := [.int 6, .int (Int32.ofNat L), .int 0]) rfl rfl rfl ?_
  refine ev_x (i := .isub) (len := 1) (p' := 30) (s' := [.int ((Int32.ofNat L) - 6), .int 0]) rfl rfl rfl ?_
  refine ev_b2 (t := 621) (p' := 33) rfl rfl rfl (if_neg c_1) ?_
  refine ev_x (i := .aload_n 0) (len := 1) (p' := 34) (s' := [.ref 0]) rfl rfl rfl ?_
  refine ev_x (i := .iload 4) (len := 2) (p' := 36) (s' := [.int 0, .ref 0]) rfl rfl rfl ?_
  refine ev_sg (p' := 37) rfl rfl hs (sp_in_L h6 rfl) rfl ?_
  refine ev_st (st' := [.int (xs 0)]) rfl ?_
  refine ev_x (i := .bipush 15) (len := 2) (p' := 39) (s' := [.int 15, .int (xs 0)]) rfl rfl rfl ?_
  refine ev_x (i := .iand) (len := 1) (p' := 40) (s' := [.int ((xs 0) &&& 15)]) rfl rfl rfl ?_
  refine ev_st (st' := [.int 12]) (congrArg (fun z => [Value.int z]) hx) ?_
  refine ev_ts (off := 477) (t := 517) rfl rfl (by decide) rfl ?_
  refine ev_x (i := .aload_n 1) (len := 1) (p' := 518) (s' := [.ref 1]) rfl rfl rfl ?_
  refine ev_x (i := .aload_n 0) (len := 1) (p' := 519) (s' := [.ref 0, .ref 1]) rfl rfl rfl ?_
  refine ev_x (i := .iload 4) (len := 2) (p' := 521) (s' := [.int 0, .ref 0, .ref 1]) rfl rfl rfl ?_
  refine ev_x (i := .iconst 1) (len := 1) (p' := 522) (s' := [.int 1, .int 0, .ref 0, .ref 1]) rfl rfl rfl ?_
  refine ev_x (i := .iadd) (len := 1) (p' := 523) (s' := [.int 1, .ref 0, .ref 1]) rfl rfl rfl ?_
  refine ev_sg (p' := 524) rfl rfl hs (sp_in_L h6 rfl) rfl ?_
  refine ev_st (st' := [.int (xs 1), .ref 1]) rfl ?_
  refine ev_x (i := .aload_n 0) (len := 1) (p' := 525) (s' := [.ref 0, .int (xs 1), .ref 1]) rfl rfl rfl ?_
  refine ev_x (i := .iload 4) (len := 2) (p' := 527) (s' := [.int 0, .ref 0, .int (xs 1), .ref 1]) rfl rfl rfl ?_
  refine ev_x (i := .iconst 2) (len := 1) (p' := 528) (s' := [.int 2, .int 0, .ref 0, .int (xs 1), .ref 1]) rfl rfl rfl ?_
  refine ev_x (i := .iadd) (len := 1) (p' := 529) (s' := [.int 2, .ref 0, .int (xs 1), .ref 1]) rfl rfl rfl ?_
  refine ev_sg (p' := 530) rfl rfl hs (sp_in_L h6 rfl) rfl ?_
  refine ev_st (st' := [.int (xs 2), .int (xs 1), .ref 1]) rfl ?_
  refine ev_cv (d := d + 3) (As := [.int (xs 1), .int (xs 2)]) (a := 1) (p' := 533) rfl rfl rfl ly_1 rfl rfl rfl rfl rfl rfl rfl (wl12b_115 (d := d + 0) (c_1 := c_2) (c_2 := c_3) (hi_52_10 := hi_52_10)) ?_
  refine ev_st (st' := [.int (-1)]) rfl ?_
  refine ev_x (i := .aload_n 2) (len := 1) (p' := 534) (s' := [.ref 66, .int (-1)]) rfl rfl rfl ?_
  refine ev_x (i := .aload_n 0) (len := 1) (p' := 535) (s' := [.ref 0, .ref 66, .int (-1)]) rfl rfl rfl ?_
  refine ev_x (i := .iload 4) (len := 2) (p' := 537) (s' := [.int 0, .ref 0, .ref 66, .int (-1)]) rfl rfl rfl ?_
  refine ev_x (i := .iconst 1) (len := 1) (p' := 538) (s' := [.int 1, .int 0, .ref 0, .ref 66, .int (-1)]) rfl rfl rfl ?_
  refine ev_x (i := .iadd) (len := 1) (p' := 539) (s' := [.int 1, .ref 0, .ref 66, .int (-1)]) rfl rfl rfl ?_
  refine ev_sg (p' := 540) rfl rfl hs (sp_in_L h6 rfl) rfl ?_
  refine ev_st (st' := [.int (xs 1), .ref 66, .int (-1)]) rfl ?_
  refine ev_x (i := .aload_n 0) (len := 1) (p' := 541) (s' := [.ref 0, .int (xs 1), .ref 66, .int (-1)]) rfl rfl rfl ?_
  refine ev_x (i := .iload 4) (len := 2) (p' := 543) (s' := [.int 0, .ref 0, .int (xs 1), .ref 66, .int (-1)]) rfl rfl rfl ?_
  refine ev_x (i := .iconst 2) (len := 1) (p' := 544) (s' := [.int 2, .int 0, .ref 0, .int (xs 1), .ref 66, .int (-1)]) rfl rfl rfl ?_
  refine ev_x (i := .iadd) (len := 1) (p' := 545) (s' := [.int 2, .ref 0, .int (xs 1), .ref 66, .int (-1)]) rfl rfl rfl ?_
  refine ev_sg (p' := 546) rfl rfl hs (sp_in_L h6 rfl) rfl ?_
  refine ev_st (st' := [.int (xs 2), .int (xs 1), .ref 66, .int (-1)]) rfl ?_
  refine ev_cv (d := d + 3) (As := [.int (xs 1), .int (xs 2)]) (a := 66) (p' := 549) rfl rfl rfl ly_66 rfl rfl rfl rfl rfl rfl rfl (wl12b_118 (d := d + 0) (c_1 := c_2) (c_2 := c_3) (hi_66_29 := hi_66_29)) ?_
  refine ev_st (st' := [.int (-1), .int (-1)]) rfl ?_
  refine ev_b2 (t := 615) (p' := 615) rfl rfl rfl (by decide) ?_
  refine ev_x (i := .iinc 4 6) (len := 3) (p' := 618) (s' := []) (l' := [(4, .int 6), (3, .ref 187), (2, .ref 66), (1, .ref 1), (0, .ref 0)]) rfl rfl rfl ?_
  refine ev_x (i := .goto (-595)) (len := 3) (p' := 23) (s' := []) rfl rfl rfl ?_
  refine ev_x (i := .iload 4) (len := 2) (p' := 25) (s' := [.int 6]) rfl rfl rfl ?_
  refine ev_x (i := .aload_n 0) (len := 1) (p' := 26) (s' := [.ref 0, .int 6]) rfl rfl rfl ?_
  refine ev_sl (p' := 27) rfl rfl hs rfl ?_
  refine ev_x (i := .bipush 6) (len := 2) (p' := 29) (s' := [.int 6, .int (Int32.ofNat L), .int 6]) rfl rfl rfl ?_
  refine ev_x (i := .isub) (len := 1) (p' := 30) (s' := [.int ((Int32.ofNat L) - 6), .int 6]) rfl rfl rfl ?_
  refine ev_b2 (t := 621) (p' := 621) rfl rfl rfl (if_pos c_4) ?_
  refine ev_x (i := .iconst 1) (len := 1) (p' := 622) (s' := [.int 1]) rfl rfl rfl ?_
  exact ev_iret rfl rfl rfl rfl
set_option maxHeartbeats 4000000 in
set_option maxRecDepth 100000 in
/-- GameText$Graph.hasState(I)Z -/
theorem wl13a_120 {d : Nat} {σ : st_S} {xs : Nat → Int32} (c_1 : (xs 1) < 0) : vz_ev P0 (d + 1) 97 0 (lv_args 0 [.ref 52, .int (xs 1)]) [] (hp σ) (.inl (some (.int 0)), hp (σ)) := by
  refine ev_x (i := .iload_n 1) (len := 1) (p' := 1) (s' := [.int (xs 1)]) rfl rfl rfl ?_
  refine ev_b0 (t := 16) (p' := 16) rfl rfl rfl (if_pos c_1) ?_
  refine ev_x (i := .iconst 0) (len := 1) (p' := 17) (s' := [.int 0]) rfl rfl rfl ?_
  exact ev_iret rfl rfl rfl rfl
set_option maxHeartbeats 4000000 in
set_option maxRecDepth 100000 in
/-- GameText$Graph.commandAt(II)I -/
theorem wl13a_121 {d : Nat} {σ : st_S} {xs : Nat → Int32} (c_1 : (xs 1) < 0) : vz_ev P0 (d + 2) 100 0 (lv_args 0 [.ref 52, .int (xs 1), .int (xs 2)]) [] (hp σ) (.inl (some (.int (-1))), hp ((σ))) := by
  refine ev_x (i := .aload_n 0) (len := 1) (p' := 1) (s' := [.ref 52]) rfl rfl rfl ?_
  refine ev_x (i := .iload_n 1) (len := 1) (p' := 2) (s' := [.int (xs 1), .ref 52]) rfl rfl rfl ?_
  refine ev_cv (d := d + 1) (As := [.int (xs 1)]) (a := 52) (p' := 5) rfl rfl rfl ly_52 rfl rfl rfl rfl rfl rfl rfl (wl13a_120 (d := d + 0) (c_1 := c_1)) ?_
  refine ev_st (st' := [.int 0]) rfl ?_
  refine ev_b0 (t := 31) (p' := 31) rfl rfl rfl (by decide) ?_
  refine ev_x (i := .iconst (-1)) (len := 1) (p' := 32) (s' := [.int (-1)]) rfl rfl rfl ?_
  exact ev_iret rfl rfl rfl rfl
set_option maxHeartbeats 4000000 in
set_option maxRecDepth 100000 in
/-- GameText$Graph.branchAt(III)I -/
theorem wl13a_122 {d : Nat} {σ : st_S} {xs : Nat → Int32} (c_1 : (xs 1) < 0) : vz_ev P0 (d + 3) 103 0 (lv_args 0 [.ref 52, .int (xs 1), .int (xs 2), .int (xs 3)]) [] (hp σ) (.inl (some (.int (-1))), hp (((σ)))) := by
  refine ev_x (i := .aload_n 0) (len := 1) (p' := 1) (s' := [.ref 52]) rfl rfl rfl ?_
  refine ev_x (i := .iload_n 1) (len := 1) (p' := 2) (s' := [.int (xs 1), .ref 52]) rfl rfl rfl ?_
  refine ev_x (i := .iload_n 2) (len := 1) (p' := 3) (s' := [.int (xs 2), .int (xs 1), .ref 52]) rfl rfl rfl ?_
  refine ev_cv (d := d + 2) (As := [.int (xs 1), .int (xs 2)]) (a := 52) (p' := 6) rfl rfl rfl ly_52 rfl rfl rfl rfl rfl rfl rfl (wl13a_121 (d := d + 0) (c_1 := c_1)) ?_
  refine ev_st (st' := [.int (-1)]) rfl ?_
  refine ev_x (i := .istore 4) (len := 2) (p' := 8) (s' := []) (l' := [(4, .int (-1)), (0, .ref 52), (1, .int (xs 1)), (2, .int (xs 2)), (3, .int (xs 3))]) rfl rfl rfl ?_
  refine ev_x (i := .iload 4) (len := 2) (p' := 10) (s' := [.int (-1)]) rfl rfl rfl ?_
  refine ev_b0 (t := 38) (p' := 38) rfl rfl rfl (by decide) ?_
  refine ev_x (i := .iconst (-1)) (len := 1) (p' := 39) (s' := [.int (-1)]) rfl rfl rfl ?_
  exact ev_iret rfl rfl rfl rfl
set_option maxHeartbeats 4000000 in
set_option maxRecDepth 100000 in
/-- GameText.branch(IIII)I -/
theorem wl13a_123 {d : Nat} {σ : st_S} {xs : Nat → Int32} (c_1 : (xs 1) < 0) : vz_ev P0 (d + 4) 102 0 (lv_args 0 [.ref 1, .int (xs 1), .int (xs 2), .int (xs 3), .int (xs 4)]) [] (hp σ) (.inl (some (.int (-1))), hp ((((σ))))) := by
  refine ev_x (i := .aload_n 0) (len := 1) (p' := 1) (s' := [.ref 1]) rfl rfl rfl ?_
  refine ev_gc (p' := 4) (v := 52) rfl rfl rfl ly_1 rfl rfl ?_
  refine ev_x (i := .iload_n 1) (len := 1) (p' := 5) (s' := [.int (xs 1), .ref 52]) rfl rfl rfl ?_
  refine ev_x (i := .iload_n 2) (len := 1) (p' := 6) (s' := [.int (xs 2), .int (xs 1), .ref 52]) rfl rfl rfl ?_
  refine ev_x (i := .iload_n 3) (len := 1) (p' := 7) (s' := [.int (xs 3), .int (xs 2), .int (xs 1), .ref 52]) rfl rfl rfl ?_
  refine ev_cv (d := d + 3) (As := [.int (xs 1), .int (xs 2), .int (xs 3)]) (a := 52) (p' := 10) rfl rfl rfl ly_52 rfl rfl rfl rfl rfl rfl rfl (wl13a_122 (d := d + 0) (c_1 := c_1)) ?_
  refine ev_st (st' := [.int (-1)]) rfl ?_
  refine ev_x (i := .istore 5) (len := 2) (p' := 12) (s' := []) (l' := [(5, .int (-1)), (0, .ref 1), (1, .int (xs 1)), (2, .int (xs 2)), (3, .int (xs 3)), (4, .int (xs 4))]) rfl rfl rfl ?_
  refine ev_x (i := .iload 5) (len := 2) (p' := 14) (s' := [.int (-1)]) rfl rfl rfl ?_
  refine ev_b0 (t := 19) (p' := 17) rfl rfl rfl (by decide) ?_
  refine ev_x (i := .iconst (-1)) (len := 1) (p' := 18) (s' := [.int (-1)]) rfl rfl rfl ?_
  exact ev_iret rfl rfl rfl rfl
set_option maxHeartbeats 4000000 in
set_option maxRecDepth 100000 in
/-- GameTextModel.isState(I)Z -/
theorem wl13a_124 {d : Nat} {σ : st_S} {xs : Nat → Int32} (c_1 : (xs 1) < 0) : vz_ev P0 (d + 1) 224 0 (lv_args 0 [.ref 66, .int (xs 1)]) [] (hp σ) (.inl (some (.int 0)), hp (st_i (σ) 66 0 0)) := by
  refine ev_x (i := .aload_n 0) (len := 1) (p' := 1) (s' := [.ref 66]) rfl rfl rfl ?_
  refine ev_x (i := .iconst 0) (len := 1) (p' := 2) (s' := [.int 0, .ref 66]) rfl rfl rfl ?_
  refine ev_pi (p' := 5) rfl rfl rfl ly_66 rfl rfl rfl rfl ?_
  refine ev_x (i := .iload_n 1) (len := 1) (p' := 6) (s' := [.int (xs 1)]) rfl rfl rfl ?_
  refine ev_b0 (t := 21) (p' := 21) rfl rfl rfl (if_pos c_1) ?_
  refine ev_x (i := .iconst 0) (len := 1) (p' := 22) (s' := [.int 0]) rfl rfl rfl ?_
  exact ev_iret rfl rfl rfl rfl
set_option maxHeartbeats 4000000 in
set_option maxRecDepth 100000 in
/-- GameTextModel.isCommand(II)Z -/
theorem wl13a_125 {d : Nat} {σ : st_S} {xs : Nat → Int32} (c_1 : (xs 1) < 0) : vz_ev P0 (d + 2) 227 0 (lv_args 0 [.ref 66, .int (xs 1), .int (xs 2)]) [] (hp σ) (.inl (some (.int 0)), hp (st_i ((σ)) 66 0 0)) := by
  refine ev_x (i := .aload_n 0) (len := 1) (p' := 1) (s' := [.ref 66]) rfl rfl rfl ?_
  refine ev_x (i := .iload_n 1) (len := 1) (p' := 2) (s' := [.int (xs 1), .ref 66]) rfl rfl rfl ?_
  refine ev_cv (d := d + 1) (As := [.int (xs 1)]) (a := 66) (p' := 5) rfl rfl rfl ly_66 rfl rfl rfl rfl rfl rfl rfl (wl13a_124 (d := d + 0) (c_1 := c_1)) ?_
  refine ev_st (st' := [.int 0]) rfl ?_
  refine ev_b0 (t := 26) (p' := 26) rfl rfl rfl (by decide) ?_
  refine ev_x (i := .iconst 0) (len := 1) (p' := 27) (s' := [.int 0]) rfl rfl rfl ?_
  exact ev_iret rfl rfl rfl rfl
set_option maxHeartbeats 4000000 in
set_option maxRecDepth 100000 in
/-- GameTextModel.branch(IIII)I -/
theorem wl13a_126 {d : Nat} {σ : st_S} {xs : Nat → Int32} (c_1 : (xs 1) < 0) : vz_ev P0 (d + 3) 229 0 (lv_args 0 [.ref 66, .int (xs 1), .int (xs 2), .int (xs 3), .int (xs 4)]) [] (hp σ) (.inl (some (.int (-1))), hp (st_i (((σ))) 66 0 0)) := by
  refine ev_x (i := .aload_n 0) (len := 1) (p' := 1) (s' := [.ref 66]) rfl rfl rfl ?_
  refine ev_x (i := .iload_n 1) (len := 1) (p' := 2) (s' := [.int (xs 1), .ref 66]) rfl rfl rfl ?_
  refine ev_x (i := .iload_n 2) (len := 1) (p' := 3) (s' := [.int (xs 2), .int (xs 1), .ref 66]) rfl rfl rfl ?_
  refine ev_cv (d := d + 2) (As := [.int (xs 1), .int (xs 2)]) (a := 66) (p' := 6) rfl rfl rfl ly_66 rfl rfl rfl rfl rfl rfl rfl (wl13a_125 (d := d + 0) (c_1 := c_1)) ?_
  refine ev_st (st' := [.int 0]) rfl ?_
  refine ev_b0 (t := 43) (p' := 43) rfl rfl rfl (by decide) ?_
  refine ev_x (i := .iconst (-1)) (len := 1) (p' := 44) (s' := [.int (-1)]) rfl rfl rfl ?_
  exact ev_iret rfl rfl rfl rfl
set_option maxHeartbeats 4000000 in
set_option maxRecDepth 100000 in
/-- GameTextLaw.law([I)Z -/
theorem law_13a {d : Nat} {σ : st_S} {L : Nat} {xs : Nat → Int32} (hs : σ.2.2.2.2.2.2.1 0 = .inl (0, L, .inl xs)) (h6 : 6 ≤ L) (c_1 : ¬ (((Int32.ofNat L) - 6) < 0)) (hx : ((xs 0) &&& 15) = 13) (c_2 : (xs 1) < 0) (c_3 : ((Int32.ofNat L) - 6) < 6) : vz_ev P0 (d + 5) 0 23 ([(4, .int 0), (3, .ref 187), (2, .ref 66), (1, .ref 1), (0, .ref 0)]) [] (hp σ) (.inl (some (.int 1)), hp (st_i ((((((((σ)))))))) 66 0 0)) := by
  refine ev_x (i := .iload 4) (len := 2) (p' := 25) (s' := [.int 0]) rfl rfl rfl ?_
  refine ev_x (i := .aload_n 0) (len := 1) (p' := 26) (s' := [.ref 0, .int 0]) rfl rfl rfl ?_
  refine ev_sl (p' := 27) rfl rfl hs rfl ?_
  refine ev_x (i := .bipush 6) (len := 2) (p' := 29) (s' := [.int 6, .int (Int32.ofNat L), .int 0]) rfl rfl rfl ?_
  refine ev_x (i := .isub) (len := 1) (p' := 30) (s' := [.int ((Int32.ofNat L) - 6), .int 0]) rfl rfl rfl ?_
  refine ev_b2 (t := 621) (p' := 33) rfl rfl rfl (if_neg c_1) ?_
  refine ev_x (i := .aload_n 0) (len := 1) (p' := 34) (s' := [.ref 0]) rfl rfl rfl ?_
  refine ev_x (i := .iload 4) (len := 2) (p' := 36) (s' := [.int 0, .ref 0]) rfl rfl rfl ?_
  refine ev_sg (p' := 37) rfl rfl hs (sp_in_L h6 rfl) rfl ?_
  refine ev_st (st' := [.int (xs 0)]) rfl ?_
  refine ev_x (i := .bipush 15) (len := 2) (p' := 39) (s' := [.int 15, .int (xs 0)]) rfl rfl rfl ?_
  refine ev_x (i := .iand) (len := 1) (p' := 40) (s' := [.int ((xs 0) &&& 15)]) rfl rfl rfl ?_
  refine ev_st (st' := [.int 13]) (congrArg (fun z => [Value.int z]) hx) ?_
  refine ev_ts (off := 514) (t := 554) rfl rfl (by decide) rfl ?_
  refine ev_x (i := .aload_n 1) (len := 1) (p' := 555) (s' := [.ref 1]) rfl rfl rfl ?_
  refine ev_x (i := .aload_n 0) (len := 1) (p' := 556) (s' := [.ref 0, .ref 1]) rfl rfl rfl ?_
  refine ev_x (i := .iload 4) (len := 2) (p' := 558) (s' := [.int 0, .ref 0, .ref 1]) rfl rfl rfl ?_
  refine ev_x (i := .iconst 1) (len := 1) (p' := 559) (s' := [.int 1, .int 0, .ref 0, .ref 1]) rfl rfl rfl ?_
  refine ev_x (i := .iadd) (len := 1) (p' := 560) (s' := [.int 1, .ref 0, .ref 1]) rfl rfl rfl ?_
  refine ev_sg (p' := 561) rfl rfl hs (sp_in_L h6 rfl) rfl ?_
  refine ev_st (st' := [.int (xs 1), .ref 1]) rfl ?_
  refine ev_x (i := .aload_n 0) (len := 1) (p' := 562) (s' := [.ref 0, .int (xs 1), .ref 1]) rfl rfl rfl ?_
  refine ev_x (i := .iload 4) (len := 2) (p' := 564) (s' := [.int 0, .ref 0, .int (xs 1), .ref 1]) rfl rfl rfl ?_
  refine ev_x (i := .iconst 2) (len := 1) (p' := 565) (s' := [.int 2, .int 0, .ref 0, .int (xs 1), .ref 1]) rfl rfl rfl ?_
  refine ev_x (i := .iadd) (len := 1) (p' := 566) (s' := [.int 2, .ref 0, .int (xs 1), .ref 1]) rfl rfl rfl ?_
  refine ev_sg (p' := 567) rfl rfl hs (sp_in_L h6 rfl) rfl ?_
  refine ev_st (st' := [.int (xs 2), .int (xs 1), .ref 1]) rfl ?_
  refine ev_x (i := .aload_n 0) (len := 1) (p' := 568) (s' := [.ref 0, .int (xs 2), .int (xs 1), .ref 1]) rfl rfl rfl ?_
  refine ev_x (i := .iload 4) (len := 2) (p' := 570) (s' := [.int 0, .ref 0, .int (xs 2), .int (xs 1), .ref 1]) rfl rfl rfl ?_
  refine ev_x (i := .iconst 3) (len := 1) (p' := 571) (s' := [.int 3, .int 0, .ref 0, .int (xs 2), .int (xs 1), .ref 1]) rfl rfl rfl ?_
  refine ev_x (i := .iadd) (len := 1) (p' := 572) (s' := [.int 3, .ref 0, .int (xs 2), .int (xs 1), .ref 1]) rfl rfl rfl ?_
  refine ev_sg (p' := 573) rfl rfl hs (sp_in_L h6 rfl) rfl ?_
  refine ev_st (st' := [.int (xs 3), .int (xs 2), .int (xs 1), .ref 1]) rfl ?_
  refine ev_x (i := .aload_n 0) (len := 1) (p' := 574) (s' := [.ref 0, .int (xs 3), .int (xs 2), .int (xs 1), .ref 1]) rfl rfl rfl ?_
  refine ev_x (i := .iload 4) (len := 2) (p' := 576) (s' := [.int 0, .ref 0, .int (xs 3), .int (xs 2), .int (xs 1), .ref 1]) rfl rfl rfl ?_
  refine ev_x (i := .iconst 4) (len := 1) (p' := 577) (s' := [.int 4, .int 0, .ref 0, .int (xs 3), .int (xs 2), .int (xs 1), .ref 1]) rfl rfl rfl ?_
  refine ev_x (i := .iadd) (len := 1) (p' := 578) (s' := [.int 4, .ref 0, .int (xs 3), .int (xs 2), .int (xs 1), .ref 1]) rfl rfl rfl ?_
  refine ev_sg (p' := 579) rfl rfl hs (sp_in_L h6 rfl) rfl ?_
  refine ev_st (st' := [.int (xs 4), .int (xs 3), .int (xs 2), .int (xs 1), .ref 1]) rfl ?_
  refine ev_cv (d := d + 4) (As := [.int (xs 1), .int (xs 2), .int (xs 3), .int (xs 4)]) (a := 1) (p' := 582) rfl rfl rfl ly_1 rfl rfl rfl rfl rfl rfl rfl (wl13a_123 (d := d + 0) (c_1 := c_2)) ?_
  refine ev_st (st' := [.int (-1)]) rfl ?_
  refine ev_x (i := .aload_n 2) (len := 1) (p' := 583) (s' := [.ref 66, .int (-1)]) rfl rfl rfl ?_
  refine ev_x (i := .aload_n 0) (len := 1) (p' := 584) (s' := [.ref 0, .ref 66, .int (-1)]) rfl rfl rfl ?_
  refine ev_x (i := .iload 4) (len := 2) (p' := 586) (s' := [.int 0, .ref 0, .ref 66, .int (-1)]) rfl rfl rfl ?_
  refine ev_x (i := .iconst 1) (len := 1) (p' := 587) (s' := [.int 1, .int 0, .ref 0, .ref 66, .int (-1)]) rfl rfl rfl ?_
  refine ev_x (i := .iadd) (len := 1) (p' := 588) (s' := [.int 1, .ref 0, .ref 66, .int (-1)]) rfl rfl rfl ?_
  refine ev_sg (p' := 589) rfl rfl hs (sp_in_L h6 rfl) rfl ?_
  refine ev_st (st' := [.int (xs 1), .ref 66, .int (-1)]) rfl ?_
  refine ev_x (i := .aload_n 0) (len := 1) (p' := 590) (s' := [.ref 0, .int (xs 1), .ref 66, .int (-1)]) rfl rfl rfl ?_
  refine ev_x (i := .iload 4) (len := 2) (p' := 592) (s' := [.int 0, .ref 0, .int (xs 1), .ref 66, .int (-1)]) rfl rfl rfl ?_
  refine ev_x (i := .iconst 2) (len := 1) (p' := 593) (s' := [.int 2, .int 0, .ref 0, .int (xs 1), .ref 66, .int (-1)]) rfl rfl rfl ?_
  refine ev_x (i := .iadd) (len := 1) (p' := 594) (s' := [.int 2, .ref 0, .int (xs 1), .ref 66, .int (-1)]) rfl rfl rfl ?_
  refine ev_sg (p' := 595) rfl rfl hs (sp_in_L h6 rfl) rfl ?_
  refine ev_st (st' := [.int (xs 2), .int (xs 1), .ref 66, .int (-1)]) rfl ?_
  refine ev_x (i := .aload_n 0) (len := 1) (p' := 596) (s' := [.ref 0, .int (xs 2), .int (xs 1), .ref 66, .int (-1)]) rfl rfl rfl ?_
  refine ev_x (i := .iload 4) (len := 2) (p' := 598) (s' := [.int 0, .ref 0, .int (xs 2), .int (xs 1), .ref 66, .int (-1)]) rfl rfl rfl ?_
  refine ev_x (i := .iconst 3) (len := 1) (p' := 599) (s' := [.int 3, .int 0, .ref 0, .int (xs 2), .int (xs 1), .ref 66, .int (-1)]) rfl rfl rfl ?_
  refine ev_x (i := .iadd) (len := 1) (p' := 600) (s' := [.int 3, .ref 0, .int (xs 2), .int (xs 1), .ref 66, .int (-1)]) rfl rfl rfl ?_
  refine ev_sg (p' := 601) rfl rfl hs (sp_in_L h6 rfl) rfl ?_
  refine ev_st (st' := [.int (xs 3), .int (xs 2), .int (xs 1), .ref 66, .int (-1)]) rfl ?_
  refine ev_x (i := .aload_n 0) (len := 1) (p' := 602) (s' := [.ref 0, .int (xs 3), .int (xs 2), .int (xs 1), .ref 66, .int (-1)]) rfl rfl rfl ?_
  refine ev_x (i := .iload 4) (len := 2) (p' := 604) (s' := [.int 0, .ref 0, .int (xs 3), .int (xs 2), .int (xs 1), .ref 66, .int (-1)]) rfl rfl rfl ?_
  refine ev_x (i := .iconst 4) (len := 1) (p' := 605) (s' := [.int 4, .int 0, .ref 0, .int (xs 3), .int (xs 2), .int (xs 1), .ref 66, .int (-1)]) rfl rfl rfl ?_
  refine ev_x (i := .iadd) (len := 1) (p' := 606) (s' := [.int 4, .ref 0, .int (xs 3), .int (xs 2), .int (xs 1), .ref 66, .int (-1)]) rfl rfl rfl ?_
  refine ev_sg (p' := 607) rfl rfl hs (sp_in_L h6 rfl) rfl ?_
  refine ev_st (st' := [.int (xs 4), .int (xs 3), .int (xs 2), .int (xs 1), .ref 66, .int (-1)]) rfl ?_
  refine ev_cv (d := d + 4) (As := [.int (xs 1), .int (xs 2), .int (xs 3), .int (xs 4)]) (a := 66) (p' := 610) rfl rfl rfl ly_66 rfl rfl rfl rfl rfl rfl rfl (wl13a_126 (d := d + 1) (c_1 := c_2)) ?_
  refine ev_st (st' := [.int (-1), .int (-1)]) rfl ?_
  refine ev_b2 (t := 615) (p' := 615) rfl rfl rfl (by decide) ?_
  refine ev_x (i := .iinc 4 6) (len := 3) (p' := 618) (s' := []) (l' := [(4, .int 6), (3, .ref 187), (2, .ref 66), (1, .ref 1), (0, .ref 0)]) rfl rfl rfl ?_
  refine ev_x (i := .goto (-595)) (len := 3) (p' := 23) (s' := []) rfl rfl rfl ?_
  refine ev_x (i := .iload 4) (len := 2) (p' := 25) (s' := [.int 6]) rfl rfl rfl ?_
  refine ev_x (i := .aload_n 0) (len := 1) (p' := 26) (s' := [.ref 0, .int 6]) rfl rfl rfl ?_
  refine ev_sl (p' := 27) rfl rfl hs rfl ?_
  refine ev_x (i := .bipush 6) (len := 2) (p' := 29) (s' := [.int 6, .int (Int32.ofNat L), .int 6]) rfl rfl rfl ?_
  refine ev_x (i := .isub) (len := 1) (p' := 30) (s' := [.int ((Int32.ofNat L) - 6), .int 6]) rfl rfl rfl ?_
  refine ev_b2 (t := 621) (p' := 621) rfl rfl rfl (if_pos c_3) ?_
  refine ev_x (i := .iconst 1) (len := 1) (p' := 622) (s' := [.int 1]) rfl rfl rfl ?_
  exact ev_iret rfl rfl rfl rfl
set_option maxHeartbeats 4000000 in
set_option maxRecDepth 100000 in
/-- GameText$Graph.hasState(I)Z -/
theorem wl13b_128 {d : Nat} {σ : st_S} {xs : Nat → Int32} (hi_52_10 : σ.1 52 10 = 0) (c_1 : ¬ ((xs 1) < 0)) (c_2 : 0 ≤ (xs 1)) : vz_ev P0 (d + 1) 97 0 (lv_args 0 [.ref 52, .int (xs 1)]) [] (hp σ) (.inl (some (.int 0)), hp (σ)) := by
  refine ev_x (i := .iload_n 1) (len := 1) (p' := 1) (s' := [.int (xs 1)]) rfl rfl rfl ?_
  refine ev_b0 (t := 16) (p' := 4) rfl rfl rfl (if_neg c_1) ?_
  refine ev_x (i := .iload_n 1) (len := 1) (p' := 5) (s' := [.int (xs 1)]) rfl rfl rfl ?_
  refine ev_x (i := .aload_n 0) (len := 1) (p' := 6) (s' := [.ref 52, .int (xs 1)]) rfl rfl rfl ?_
  refine ev_gi (p' := 9) (v := 0) rfl rfl rfl ly_52 rfl rfl hi_52_10 ?_
  refine ev_b2 (t := 16) (p' := 16) rfl rfl rfl (if_pos c_2) ?_
  refine ev_x (i := .iconst 0) (len := 1) (p' := 17) (s' := [.int 0]) rfl rfl rfl ?_
  exact ev_iret rfl rfl rfl rfl
set_option maxHeartbeats 4000000 in
set_option maxRecDepth 100000 in
/-- GameText$Graph.commandAt(II)I -/
theorem wl13b_129 {d : Nat} {σ : st_S} {xs : Nat → Int32} (hi_52_10 : σ.1 52 10 = 0) (c_1 : ¬ ((xs 1) < 0)) (c_2 : 0 ≤ (xs 1)) : vz_ev P0 (d + 2) 100 0 (lv_args 0 [.ref 52, .int (xs 1), .int (xs 2)]) [] (hp σ) (.inl (some (.int (-1))), hp ((σ))) := by
  refine ev_x (i := .aload_n 0) (len := 1) (p' := 1) (s' := [.ref 52]) rfl rfl rfl ?_
  refine ev_x (i := .iload_n 1) (len := 1) (p' := 2) (s' := [.int (xs 1), .ref 52]) rfl rfl rfl ?_
  refine ev_cv (d := d + 1) (As := [.int (xs 1)]) (a := 52) (p' := 5) rfl rfl rfl ly_52 rfl rfl rfl rfl rfl rfl rfl (wl13b_128 (d := d + 0) (c_1 := c_1) (c_2 := c_2) (hi_52_10 := hi_52_10)) ?_
  refine ev_st (st' := [.int 0]) rfl ?_
  refine ev_b0 (t := 31) (p' := 31) rfl rfl rfl (by decide) ?_
  refine ev_x (i := .iconst (-1)) (len := 1) (p' := 32) (s' := [.int (-1)]) rfl rfl rfl ?_
  exact ev_iret rfl rfl rfl rfl
set_option maxHeartbeats 4000000 in
set_option maxRecDepth 100000 in
/-- GameText$Graph.branchAt(III)I -/
theorem wl13b_130 {d : Nat} {σ : st_S} {xs : Nat → Int32} (hi_52_10 : σ.1 52 10 = 0) (c_1 : ¬ ((xs 1) < 0)) (c_2 : 0 ≤ (xs 1)) : vz_ev P0 (d + 3) 103 0 (lv_args 0 [.ref 52, .int (xs 1), .int (xs 2), .int (xs 3)]) [] (hp σ) (.inl (some (.int (-1))), hp (((σ)))) := by
  refine ev_x (i := .aload_n 0) (len := 1) (p' := 1) (s' := [.ref 52]) rfl rfl rfl ?_
  refine ev_x (i := .iload_n 1) (len := 1) (p' := 2) (s' := [.int (xs 1), .ref 52]) rfl rfl rfl ?_
  refine ev_x (i := .iload_n 2) (len := 1) (p' := 3) (s' := [.int (xs 2), .int (xs 1), .ref 52]) rfl rfl rfl ?_
  refine ev_cv (d := d + 2) (As := [.int (xs 1), .int (xs 2)]) (a := 52) (p' := 6) rfl rfl rfl ly_52 rfl rfl rfl rfl rfl rfl rfl (wl13b_129 (d := d + 0) (c_1 := c_1) (c_2 := c_2) (hi_52_10 := hi_52_10)) ?_
  refine ev_st (st' := [.int (-1)]) rfl ?_
  refine ev_x (i := .istore 4) (len := 2) (p' := 8) (s' := []) (l' := [(4, .int (-1)), (0, .ref 52), (1, .int (xs 1)), (2, .int (xs 2)), (3, .int (xs 3))]) rfl rfl rfl ?_
  refine ev_x (i := .iload 4) (len := 2) (p' := 10) (s' := [.int (-1)]) rfl rfl rfl ?_
  refine ev_b0 (t := 38) (p' := 38) rfl rfl rfl (by decide) ?_
  refine ev_x (i := .iconst (-1)) (len := 1) (p' := 39) (s' := [.int (-1)]) rfl rfl rfl ?_
  exact ev_iret rfl rfl rfl rfl
set_option maxHeartbeats 4000000 in
set_option maxRecDepth 100000 in
/-- GameText.branch(IIII)I -/
theorem wl13b_131 {d : Nat} {σ : st_S} {xs : Nat → Int32} (hi_52_10 : σ.1 52 10 = 0) (c_1 : ¬ ((xs 1) < 0)) (c_2 : 0 ≤ (xs 1)) : vz_ev P0 (d + 4) 102 0 (lv_args 0 [.ref 1, .int (xs 1), .int (xs 2), .int (xs 3), .int (xs 4)]) [] (hp σ) (.inl (some (.int (-1))), hp ((((σ))))) := by
  refine ev_x (i := .aload_n 0) (len := 1) (p' := 1) (s' := [.ref 1]) rfl rfl rfl ?_
  refine ev_gc (p' := 4) (v := 52) rfl rfl rfl ly_1 rfl rfl ?_
  refine ev_x (i := .iload_n 1) (len := 1) (p' := 5) (s' := [.int (xs 1), .ref 52]) rfl rfl rfl ?_
  refine ev_x (i := .iload_n 2) (len := 1) (p' := 6) (s' := [.int (xs 2), .int (xs 1), .ref 52]) rfl rfl rfl ?_
  refine ev_x (i := .iload_n 3) (len := 1) (p' := 7) (s' := [.int (xs 3), .int (xs 2), .int (xs 1), .ref 52]) rfl rfl rfl ?_
  refine ev_cv (d := d + 3) (As := [.int (xs 1), .int (xs 2), .int (xs 3)]) (a := 52) (p' := 10) rfl rfl rfl ly_52 rfl rfl rfl rfl rfl rfl rfl (wl13b_130 (d := d + 0) (c_1 := c_1) (c_2 := c_2) (hi_52_10 := hi_52_10)) ?_
  refine ev_st (st' := [.int (-1)]) rfl ?_
  refine ev_x (i := .istore 5) (len := 2) (p' := 12) (s' := []) (l' := [(5, .int (-1)), (0, .ref 1), (1, .int (xs 1)), (2, .int (xs 2)), (3, .int (xs 3)), (4, .int (xs 4))]) rfl rfl rfl ?_
  refine ev_x (i := .iload 5) (len := 2) (p' := 14) (s' := [.int (-1)]) rfl rfl rfl ?_
  refine ev_b0 (t := 19) (p' := 17) rfl rfl rfl (by decide) ?_
  refine ev_x (i := .iconst (-1)) (len := 1) (p' := 18) (s' := [.int (-1)]) rfl rfl rfl ?_
  exact ev_iret rfl rfl rfl rfl
set_option maxHeartbeats 4000000 in
set_option maxRecDepth 100000 in
/-- GameTextModel.isState(I)Z -/
theorem wl13b_132 {d : Nat} {σ : st_S} {xs : Nat → Int32} (hi_66_29 : σ.1 66 29 = 0) (c_1 : ¬ ((xs 1) < 0)) (c_2 : 0 ≤ (xs 1)) : vz_ev P0 (d + 1) 224 0 (lv_args 0 [.ref 66, .int (xs 1)]) [] (hp σ) (.inl (some (.int 0)), hp (st_i (σ) 66 0 0)) := by
  refine ev_x (i := .aload_n 0) (len := 1) (p' := 1) (s' := [.ref 66]) rfl rfl rfl ?_
  refine ev_x (i := .iconst 0) (len := 1) (p' := 2) (s' := [.int 0, .ref 66]) rfl rfl rfl ?_
  refine ev_pi (p' := 5) rfl rfl rfl ly_66 rfl rfl rfl rfl ?_
  refine ev_x (i := .iload_n 1) (len := 1) (p' := 6) (s' := [.int (xs 1)]) rfl rfl rfl ?_
  refine ev_b0 (t := 21) (p' := 9) rfl rfl rfl (if_neg c_1) ?_
  refine ev_x (i := .iload_n 1) (len := 1) (p' := 10) (s' := [.int (xs 1)]) rfl rfl rfl ?_
  refine ev_x (i := .aload_n 0) (len := 1) (p' := 11) (s' := [.ref 66, .int (xs 1)]) rfl rfl rfl ?_
  refine ev_gi (p' := 14) (v := 0) rfl rfl rfl ly_66 rfl rfl hi_66_29 ?_
  refine ev_b2 (t := 21) (p' := 21) rfl rfl rfl (if_pos c_2) ?_
  refine ev_x (i := .iconst 0) (len := 1) (p' := 22) (s' := [.int 0]) rfl rfl rfl ?_
  exact ev_iret rfl rfl rfl rfl
set_option maxHeartbeats 4000000 in
set_option maxRecDepth 100000 in
/-- GameTextModel.isCommand(II)Z -/
theorem wl13b_133 {d : Nat} {σ : st_S} {xs : Nat → Int32} (hi_66_29 : σ.1 66 29 = 0) (c_1 : ¬ ((xs 1) < 0)) (c_2 : 0 ≤ (xs 1)) : vz_ev P0 (d + 2) 227 0 (lv_args 0 [.ref 66, .int (xs 1), .int (xs 2)]) [] (hp σ) (.inl (some (.int 0)), hp (st_i ((σ)) 66 0 0)) := by
  refine ev_x (i := .aload_n 0) (len := 1) (p' := 1) (s' := [.ref 66]) rfl rfl rfl ?_
  refine ev_x (i := .iload_n 1) (len := 1) (p' := 2) (s' := [.int (xs 1), .ref 66]) rfl rfl rfl ?_
  refine ev_cv (d := d + 1) (As := [.int (xs 1)]) (a := 66) (p' := 5) rfl rfl rfl ly_66 rfl rfl rfl rfl rfl rfl rfl (wl13b_132 (d := d + 0) (c_1 := c_1) (c_2 := c_2) (hi_66_29 := hi_66_29)) ?_
  refine ev_st (st' := [.int 0]) rfl ?_
  refine ev_b0 (t := 26) (p' := 26) rfl rfl rfl (by decide) ?_
  refine ev_x (i := .iconst 0) (len := 1) (p' := 27) (s' := [.int 0]) rfl rfl rfl ?_
  exact ev_iret rfl rfl rfl rfl
set_option maxHeartbeats 4000000 in
set_option maxRecDepth 100000 in
/-- GameTextModel.branch(IIII)I -/
theorem wl13b_134 {d : Nat} {σ : st_S} {xs : Nat → Int32} (hi_66_29 : σ.1 66 29 = 0) (c_1 : ¬ ((xs 1) < 0)) (c_2 : 0 ≤ (xs 1)) : vz_ev P0 (d + 3) 229 0 (lv_args 0 [.ref 66, .int (xs 1), .int (xs 2), .int (xs 3), .int (xs 4)]) [] (hp σ) (.inl (some (.int (-1))), hp (st_i (((σ))) 66 0 0)) := by
  refine ev_x (i := .aload_n 0) (len := 1) (p' := 1) (s' := [.ref 66]) rfl rfl rfl ?_
  refine ev_x (i := .iload_n 1) (len := 1) (p' := 2) (s' := [.int (xs 1), .ref 66]) rfl rfl rfl ?_
  refine ev_x (i := .iload_n 2) (len := 1) (p' := 3) (s' := [.int (xs 2), .int (xs 1), .ref 66]) rfl rfl rfl ?_
  refine ev_cv (d := d + 2) (As := [.int (xs 1), .int (xs 2)]) (a := 66) (p' := 6) rfl rfl rfl ly_66 rfl rfl rfl rfl rfl rfl rfl (wl13b_133 (d := d + 0) (c_1 := c_1) (c_2 := c_2) (hi_66_29 := hi_66_29)) ?_
  refine ev_st (st' := [.int 0]) rfl ?_
  refine ev_b0 (t := 43) (p' := 43) rfl rfl rfl (by decide) ?_
  refine ev_x (i := .iconst (-1)) (len := 1) (p' := 44) (s' := [.int (-1)]) rfl rfl rfl ?_
  exact ev_iret rfl rfl rfl rfl
set_option maxHeartbeats 4000000 in
set_option maxRecDepth 100000 in
/-- GameTextLaw.law([I)Z -/
theorem law_13b {d : Nat} {σ : st_S} {L : Nat} {xs : Nat → Int32} (hs : σ.2.2.2.2.2.2.1 0 = .inl (0, L, .inl xs)) (h6 : 6 ≤ L) (hi_52_10 : σ.1 52 10 = 0) (hi_66_29 : σ.1 66 29 = 0) (c_1 : ¬ (((Int32.ofNat L) - 6) < 0)) (hx : ((xs 0) &&& 15) = 13) (c_2 : ¬ ((xs 1) < 0)) (c_3 : 0 ≤ (xs 1)) (c_4 : ((Int32.ofNat L) - 6) < 6) : vz_ev P0 (d + 5) 0 23 ([(4, .int 0), (3, .ref 187), (2, .ref 66), (1, .ref 1), (0, .ref 0)]) [] (hp σ) (.inl (some (.int 1)), hp (st_i ((((((((σ)))))))) 66 0 0)) := by
  refine ev_x (i := .iload 4) (len := 2) (p' := 25) (s' := [.int 0]) rfl rfl rfl ?_
  refine ev_x (i := .aload_n 0) (len := 1) (p' := 26) (s' := [.ref 0, .int 0]) rfl rfl rfl ?_
  refine ev_sl (p' := 27) rfl rfl hs rfl ?_
  refine ev_x (i := .bipush 6) (len := 2) (p' := 29) (s' := [.int 6, .int (Int32.ofNat L), .int 0]) rfl rfl rfl ?_
  refine ev_x (i := .isub) (len := 1) (p' := 30) (s' := [.int ((Int32.ofNat L) - 6), .int 0]) rfl rfl rfl ?_
  refine ev_b2 (t := 621) (p' := 33) rfl rfl rfl (if_neg c_1) ?_
  refine ev_x (i := .aload_n 0) (len := 1) (p' := 34) (s' := [.ref 0]) rfl rfl rfl ?_
  refine ev_x (i := .iload 4) (len := 2) (p' := 36) (s' := [.int 0, .ref 0]) rfl rfl rfl ?_
  refine ev_sg (p' := 37) rfl rfl hs (sp_in_L h6 rfl) rfl ?_
  refine ev_st (st' := [.int (xs 0)]) rfl ?_
  refine ev_x (i := .bipush 15) (len := 2) (p' := 39) (s' := [.int 15, .int (xs 0)]) rfl rfl rfl ?_
  refine ev_x (i := .iand) (len := 1) (p' := 40) (s' := [.int ((xs 0) &&& 15)]) rfl rfl rfl ?_
  refine ev_st (st' := [.int 13]) (congrArg (fun z => [Value.int z]) hx) ?_
  refine ev_ts (off := 514) (t := 554) rfl rfl (by decide) rfl ?_
  refine ev_x (i := .aload_n 1) (len := 1) (p' := 555) (s' := [.ref 1]) rfl rfl rfl ?_
  refine ev_x (i := .aload_n 0) (len := 1) (p' := 556) (s' := [.ref 0, .ref 1]) rfl rfl rfl ?_
  refine ev_x (i := .iload 4) (len := 2) (p' := 558) (s' := [.int 0, .ref 0, .ref 1]) rfl rfl rfl ?_
  refine ev_x (i := .iconst 1) (len := 1) (p' := 559) (s' := [.int 1, .int 0, .ref 0, .ref 1]) rfl rfl rfl ?_
  refine ev_x (i := .iadd) (len := 1) (p' := 560) (s' := [.int 1, .ref 0, .ref 1]) rfl rfl rfl ?_
  refine ev_sg (p' := 561) rfl rfl hs (sp_in_L h6 rfl) rfl ?_
  refine ev_st (st' := [.int (xs 1), .ref 1]) rfl ?_
  refine ev_x (i := .aload_n 0) (len := 1) (p' := 562) (s' := [.ref 0, .int (xs 1), .ref 1]) rfl rfl rfl ?_
  refine ev_x (i := .iload 4) (len := 2) (p' := 564) (s' := [.int 0, .ref 0, .int (xs 1), .ref 1]) rfl rfl rfl ?_
  refine ev_x (i := .iconst 2) (len := 1) (p' := 565) (s' := [.int 2, .int 0, .ref 0, .int (xs 1), .ref 1]) rfl rfl rfl ?_
  refine ev_x (i := .iadd) (len := 1) (p' := 566) (s' := [.int 2, .ref 0, .int (xs 1), .ref 1]) rfl rfl rfl ?_
  refine ev_sg (p' := 567) rfl rfl hs (sp_in_L h6 rfl) rfl ?_
  refine ev_st (st' := [.int (xs 2), .int (xs 1), .ref 1]) rfl ?_
  refine ev_x (i := .aload_n 0) (len := 1) (p' := 568) (s' := [.ref 0, .int (xs 2), .int (xs 1), .ref 1]) rfl rfl rfl ?_
  refine ev_x (i := .iload 4) (len := 2) (p' := 570) (s' := [.int 0, .ref 0, .int (xs 2), .int (xs 1), .ref 1]) rfl rfl rfl ?_
  refine ev_x (i := .iconst 3) (len := 1) (p' := 571) (s' := [.int 3, .int 0, .ref 0, .int (xs 2), .int (xs 1), .ref 1]) rfl rfl rfl ?_
  refine ev_x (i := .iadd) (len := 1) (p' := 572) (s' := [.int 3, .ref 0, .int (xs 2), .int (xs 1), .ref 1]) rfl rfl rfl ?_
  refine ev_sg (p' := 573) rfl rfl hs (sp_in_L h6 rfl) rfl ?_
  refine ev_st (st' := [.int (xs 3), .int (xs 2), .int (xs 1), .ref 1]) rfl ?_
  refine ev_x (i := .aload_n 0) (len := 1) (p' := 574) (s' := [.ref 0, .int (xs 3), .int (xs 2), .int (xs 1), .ref 1]) rfl rfl rfl ?_
  refine ev_x (i := .iload 4) (len := 2) (p' := 576) (s' := [.int 0, .ref 0, .int (xs 3), .int (xs 2), .int (xs 1), .ref 1]) rfl rfl rfl ?_
  refine ev_x (i := .iconst 4) (len := 1) (p' := 577) (s' := [.int 4, .int 0, .ref 0, .int (xs 3), .int (xs 2), .int (xs 1), .ref 1]) rfl rfl rfl ?_
  refine ev_x (i := .iadd) (len := 1) (p' := 578) (s' := [.int 4, .ref 0, .int (xs 3), .int (xs 2), .int (xs 1), .ref 1]) rfl rfl rfl ?_
  refine ev_sg (p' := 579) rfl rfl hs (sp_in_L h6 rfl) rfl ?_
  refine ev_st (st' := [.int (xs 4), .int (xs 3), .int (xs 2), .int (xs 1), .ref 1]) rfl ?_
  refine ev_cv (d := d + 4) (As := [.int (xs 1), .int (xs 2), .int (xs 3), .int (xs 4)]) (a := 1) (p' := 582) rfl rfl rfl ly_1 rfl rfl rfl rfl rfl rfl rfl (wl13b_131 (d := d + 0) (c_1 := c_2) (c_2 := c_3) (hi_52_10 := hi_52_10)) ?_
  refine ev_st (st' := [.int (-1)]) rfl ?_
  refine ev_x (i := .aload_n 2) (len := 1) (p' := 583) (s' := [.ref 66, .int (-1)]) rfl rfl rfl ?_
  refine ev_x (i := .aload_n 0) (len := 1) (p' := 584) (s' := [.ref 0, .ref 66, .int (-1)]) rfl rfl rfl ?_
  refine ev_x (i := .iload 4) (len := 2) (p' := 586) (s' := [.int 0, .ref 0, .ref 66, .int (-1)]) rfl rfl rfl ?_
  refine ev_x (i := .iconst 1) (len := 1) (p' := 587) (s' := [.int 1, .int 0, .ref 0, .ref 66, .int (-1)]) rfl rfl rfl ?_
  refine ev_x (i := .iadd) (len := 1) (p' := 588) (s' := [.int 1, .ref 0, .ref 66, .int (-1)]) rfl rfl rfl ?_
  refine ev_sg (p' := 589) rfl rfl hs (sp_in_L h6 rfl) rfl ?_
  refine ev_st (st' := [.int (xs 1), .ref 66, .int (-1)]) rfl ?_
  refine ev_x (i := .aload_n 0) (len := 1) (p' := 590) (s' := [.ref 0, .int (xs 1), .ref 66, .int (-1)]) rfl rfl rfl ?_
  refine ev_x (i := .iload 4) (len := 2) (p' := 592) (s' := [.int 0, .ref 0, .int (xs 1), .ref 66, .int (-1)]) rfl rfl rfl ?_
  refine ev_x (i := .iconst 2) (len := 1) (p' := 593) (s' := [.int 2, .int 0, .ref 0, .int (xs 1), .ref 66, .int (-1)]) rfl rfl rfl ?_
  refine ev_x (i := .iadd) (len := 1) (p' := 594) (s' := [.int 2, .ref 0, .int (xs 1), .ref 66, .int (-1)]) rfl rfl rfl ?_
  refine ev_sg (p' := 595) rfl rfl hs (sp_in_L h6 rfl) rfl ?_
  refine ev_st (st' := [.int (xs 2), .int (xs 1), .ref 66, .int (-1)]) rfl ?_
  refine ev_x (i := .aload_n 0) (len := 1) (p' := 596) (s' := [.ref 0, .int (xs 2), .int (xs 1), .ref 66, .int (-1)]) rfl rfl rfl ?_
  refine ev_x (i := .iload 4) (len := 2) (p' := 598) (s' := [.int 0, .ref 0, .int (xs 2), .int (xs 1), .ref 66, .int (-1)]) rfl rfl rfl ?_
  refine ev_x (i := .iconst 3) (len := 1) (p' := 599) (s' := [.int 3, .int 0, .ref 0, .int (xs 2), .int (xs 1), .ref 66, .int (-1)]) rfl rfl rfl ?_
  refine ev_x (i := .iadd) (len := 1) (p' := 600) (s' := [.int 3, .ref 0, .int (xs 2), .int (xs 1), .ref 66, .int (-1)]) rfl rfl rfl ?_
  refine ev_sg (p' := 601) rfl rfl hs (sp_in_L h6 rfl) rfl ?_
  refine ev_st (st' := [.int (xs 3), .int (xs 2), .int (xs 1), .ref 66, .int (-1)]) rfl ?_
  refine ev_x (i := .aload_n 0) (len := 1) (p' := 602) (s' := [.ref 0, .int (xs 3), .int (xs 2), .int (xs 1), .ref 66, .int (-1)]) rfl rfl rfl ?_
  refine ev_x (i := .iload 4) (len := 2) (p' := 604) (s' := [.int 0, .ref 0, .int (xs 3), .int (xs 2), .int (xs 1), .ref 66, .int (-1)]) rfl rfl rfl ?_
  refine ev_x (i := .iconst 4) (len := 1) (p' := 605) (s' := [.int 4, .int 0, .ref 0, .int (xs 3), .int (xs 2), .int (xs 1), .ref 66, .int (-1)]) rfl rfl rfl ?_
  refine ev_x (i := .iadd) (len := 1) (p' := 606) (s' := [.int 4, .ref 0, .int (xs 3), .int (xs 2), .int (xs 1), .ref 66, .int (-1)]) rfl rfl rfl ?_
  refine ev_sg (p' := 607) rfl rfl hs (sp_in_L h6 rfl) rfl ?_
  refine ev_st (st' := [.int (xs 4), .int (xs 3), .int (xs 2), .int (xs 1), .ref 66, .int (-1)]) rfl ?_
  refine ev_cv (d := d + 4) (As := [.int (xs 1), .int (xs 2), .int (xs 3), .int (xs 4)]) (a := 66) (p' := 610) rfl rfl rfl ly_66 rfl rfl rfl rfl rfl rfl rfl (wl13b_134 (d := d + 1) (c_1 := c_2) (c_2 := c_3) (hi_66_29 := hi_66_29)) ?_
  refine ev_st (st' := [.int (-1), .int (-1)]) rfl ?_
  refine ev_b2 (t := 615) (p' := 615) rfl rfl rfl (by decide) ?_
  refine ev_x (i := .iinc 4 6) (len := 3) (p' := 618) (s' := []) (l' := [(4, .int 6), (3, .ref 187), (2, .ref 66), (1, .ref 1), (0, .ref 0)]) rfl rfl rfl ?_
  refine ev_x (i := .goto (-595)) (len := 3) (p' := 23) (s' := []) rfl rfl rfl ?_
  refine ev_x (i := .iload 4) (len := 2) (p' := 25) (s' := [.int 6]) rfl rfl rfl ?_
  refine ev_x (i := .aload_n 0) (len := 1) (p' := 26) (s' := [.ref 0, .int 6]) rfl rfl rfl ?_
  refine ev_sl (p' := 27) rfl rfl hs rfl ?_
  refine ev_x (i := .bipush 6) (len := 2) (p' := 29) (s' := [.int 6, .int (Int32.ofNat L), .int 6]) rfl rfl rfl ?_
  refine ev_x (i := .isub) (len := 1) (p' := 30) (s' := [.int ((Int32.ofNat L) - 6), .int 6]) rfl rfl rfl ?_
  refine ev_b2 (t := 621) (p' := 621) rfl rfl rfl (if_pos c_4) ?_
  refine ev_x (i := .iconst 1) (len := 1) (p' := 622) (s' := [.int 1]) rfl rfl rfl ?_
  exact ev_iret rfl rfl rfl rfl
