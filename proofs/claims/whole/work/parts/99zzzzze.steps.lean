/-! the law's turns: compile and explore as steps of the machine -/
section STP
variable {d N t n : Nat} {σ σ1 σ2 p : st_S} {q : vz_O × vz_H} {v : Int32} {b : Option (Int32 × Int32)}
set_option maxHeartbeats 4000000 in
set_option maxRecDepth 100000 in
/-- compile on both sides -/
theorem lw_2 (k1 : vz_ev P0 14 15 0 (lv_args 0 [.ref 1]) [] (hp σ) (.inl (some (.int v)), hp σ1)) (k2 : vz_ev P0 14 135 0 (lv_args 0 [.ref 66]) [] (hp σ1) (.inl (some (.int v)), hp σ2)) (k : vz_ev P0 15 0 615 (Sh b n) [] (hp σ2) q) : vz_ev P0 15 0 241 (Sh b n) [] (hp σ) q := by
  cases b with
  | none =>
    show vz_ev P0 15 0 241 [(4, .int (nI n)), (3, .ref 187), (2, .ref 66), (1, .ref 1), (0, .ref 0)] [] (hp σ) q
    refine ev_x (i := .aload_n 1) (len := 1) (p' := 242) (s' := [.ref 1]) rfl rfl rfl ?_
    refine ev_cv (d := 14) (As := []) (a := 1) (p' := 245) rfl rfl rfl ly_1 rfl rfl rfl rfl rfl rfl rfl k1 ?_
    refine ev_st (st' := [.int v]) rfl ?_
    refine ev_x (i := .aload_n 2) (len := 1) (p' := 246) (s' := [.ref 66, .int v]) rfl rfl rfl ?_
    refine ev_cv (d := 14) (As := []) (a := 66) (p' := 249) rfl rfl rfl ly_66 rfl rfl rfl rfl rfl rfl rfl k2 ?_
    refine ev_st (st' := [.int v, .int v]) rfl ?_
    refine ev_b2 (t := 615) (p' := 615) rfl rfl rfl (if_pos rfl) ?_
    exact k
  | some y =>
    show vz_ev P0 15 0 241 [(4, .int (nI n)), (6, .int y.1), (5, .int y.2), (3, .ref 187), (2, .ref 66), (1, .ref 1), (0, .ref 0)] [] (hp σ) q
    refine ev_x (i := .aload_n 1) (len := 1) (p' := 242) (s' := [.ref 1]) rfl rfl rfl ?_
    refine ev_cv (d := 14) (As := []) (a := 1) (p' := 245) rfl rfl rfl ly_1 rfl rfl rfl rfl rfl rfl rfl k1 ?_
    refine ev_st (st' := [.int v]) rfl ?_
    refine ev_x (i := .aload_n 2) (len := 1) (p' := 246) (s' := [.ref 66, .int v]) rfl rfl rfl ?_
    refine ev_cv (d := 14) (As := []) (a := 66) (p' := 249) rfl rfl rfl ly_66 rfl rfl rfl rfl rfl rfl rfl k2 ?_
    refine ev_st (st' := [.int v, .int v]) rfl ?_
    refine ev_b2 (t := 615) (p' := 615) rfl rfl rfl (if_pos rfl) ?_
    exact k
set_option maxHeartbeats 4000000 in
set_option maxRecDepth 100000 in
/-- GameText.explore()I, from where it tells -/
theorem lz_107t : vz_ev P0 (d + 1) 107 40 [(0, .ref 1)] [] (hp σ) (.inl (some (.int (gI σ 62 7))), hp (st_i σ 1 9 (gI σ 62 8))) := by
  refine ev_x (i := .aload_n 0) (len := 1) (p' := 41) (s' := [.ref 1]) rfl rfl rfl ?_
  refine ev_x (i := .aload_n 0) (len := 1) (p' := 42) (s' := [.ref 1, .ref 1]) rfl rfl rfl ?_
  refine ev_gc (p' := 45) (v := 62) rfl rfl rfl ly_1 rfl rfl ?_
  refine ev_gi (p' := 48) (v := (gI σ 62 8)) rfl rfl rfl ly_62 rfl rfl rfl ?_
  refine ev_pi (p' := 51) rfl rfl rfl ly_1 rfl rfl rfl rfl ?_
  refine ev_x (i := .aload_n 0) (len := 1) (p' := 52) (s' := [.ref 1]) rfl rfl rfl ?_
  refine ev_gc (p' := 55) (v := 62) rfl rfl rfl ly_1 rfl rfl ?_
  refine ev_gi (p' := 58) (v := (gI σ 62 7)) rfl rfl rfl ly_62 rfl rfl rfl ?_
  exact ev_iret rfl rfl rfl rfl
set_option maxHeartbeats 4000000 in
set_option maxRecDepth 100000 in
/-- .. explored before -/
theorem lz_107m (c1 : ¬ gI σ 1 7 = 0) (c2 : ¬ gI σ 1 8 = 0) : vz_ev P0 (d + 11) 107 0 (lv_args 0 [.ref 1]) [] (hp σ) (.inl (some (.int (gI σ 62 7))), hp (st_i σ 1 9 (gI σ 62 8))) := by
  refine ev_x (i := .aload_n 0) (len := 1) (p' := 1) (s' := [.ref 1]) rfl rfl rfl ?_
  refine ev_gi (p' := 4) (v := (gI σ 1 7)) rfl rfl rfl ly_1 rfl rfl rfl ?_
  refine ev_b0 (t := 17) (p' := 17) rfl rfl rfl (if_pos c1) ?_
  refine ev_x (i := .aload_n 0) (len := 1) (p' := 18) (s' := [.ref 1]) rfl rfl rfl ?_
  refine ev_gi (p' := 21) (v := (gI σ 1 8)) rfl rfl rfl ly_1 rfl rfl rfl ?_
  refine ev_b0 (t := 40) (p' := 40) rfl rfl rfl (if_pos c2) ?_
  exact lz_107t (d := d + 10)
set_option maxHeartbeats 4000000 in
set_option maxRecDepth 100000 in
/-- .. for the first time -/
theorem lz_107n (ht : t = 4 ∨ t = 20) (c1 : ¬ gI σ 1 7 = 0) (c2 : gI σ 1 8 = 0) (h5 : gR σ 1 5 = t) (H : F_108 N t σ = some p) : vz_ev P0 (d + 11) 107 0 (lv_args 0 [.ref 1]) [] (hp σ) (.inl (some (.int (gI p 62 7))), hp (st_i (st_i p 1 8 1) 1 9 (gI p 62 8))) := by
  refine ev_x (i := .aload_n 0) (len := 1) (p' := 1) (s' := [.ref 1]) rfl rfl rfl ?_
  refine ev_gi (p' := 4) (v := (gI σ 1 7)) rfl rfl rfl ly_1 rfl rfl rfl ?_
  refine ev_b0 (t := 17) (p' := 17) rfl rfl rfl (if_pos c1) ?_
  refine ev_x (i := .aload_n 0) (len := 1) (p' := 18) (s' := [.ref 1]) rfl rfl rfl ?_
  refine ev_gi (p' := 21) (v := (gI σ 1 8)) rfl rfl rfl ly_1 rfl rfl rfl ?_
  refine ev_b0 (t := 40) (p' := 24) rfl rfl rfl (if_neg (fun z => z c2)) ?_
  refine ev_x (i := .aload_n 0) (len := 1) (p' := 25) (s' := [.ref 1]) rfl rfl rfl ?_
  refine ev_gc (p' := 28) (v := 62) rfl rfl rfl ly_1 rfl rfl ?_
  refine ev_x (i := .aload_n 0) (len := 1) (p' := 29) (s' := [.ref 1, .ref 62]) rfl rfl rfl ?_
  rcases ht with rfl | rfl
  · refine ev_gr (p' := 32) (v := 4) rfl rfl rfl ly_1 rfl rfl h5 ?_
    refine ev_cv (d := d + 10) (As := [.ref 4]) (a := 62) (p' := 35) rfl rfl rfl ly_62 rfl rfl rfl rfl rfl rfl rfl (F_108_ok (d := d + 0) (Or.inl rfl) H) ?_
    refine ev_st (st' := []) rfl ?_
    refine ev_x (i := .aload_n 0) (len := 1) (p' := 36) (s' := [.ref 1]) rfl rfl rfl ?_
    refine ev_x (i := .iconst 1) (len := 1) (p' := 37) (s' := [.int 1, .ref 1]) rfl rfl rfl ?_
    refine ev_pi (p' := 40) rfl rfl rfl ly_1 rfl rfl rfl rfl ?_
    exact lz_107t (d := d + 10) (σ := st_i p 1 8 1)
  · refine ev_gr (p' := 32) (v := 20) rfl rfl rfl ly_1 rfl rfl h5 ?_
    refine ev_cv (d := d + 10) (As := [.ref 20]) (a := 62) (p' := 35) rfl rfl rfl ly_62 rfl rfl rfl rfl rfl rfl rfl (F_108_ok (d := d + 0) (Or.inr rfl) H) ?_
    refine ev_st (st' := []) rfl ?_
    refine ev_x (i := .aload_n 0) (len := 1) (p' := 36) (s' := [.ref 1]) rfl rfl rfl ?_
    refine ev_x (i := .iconst 1) (len := 1) (p' := 37) (s' := [.int 1, .ref 1]) rfl rfl rfl ?_
    refine ev_pi (p' := 40) rfl rfl rfl ly_1 rfl rfl rfl rfl ?_
    exact lz_107t (d := d + 10) (σ := st_i p 1 8 1)
set_option maxHeartbeats 4000000 in
set_option maxRecDepth 100000 in
/-- GameTextLaw.explore(LGameText;[J)I -/
theorem lz_106x (h87 : gN σ1 187 = 1) (k1 : vz_ev P0 (d + 1) 107 0 (lv_args 0 [.ref 1]) [] (hp σ) (.inl (some (.int v)), hp σ1)) : vz_ev P0 (d + 2) 106 0 (lv_args 0 [.ref 1, .ref 187]) [] (hp σ) (.inl (some (.int 0)), hp (st_E σ1 187 0 v.toInt64)) := by
  refine ev_x (i := .aload_n 1) (len := 1) (p' := 1) (s' := [.ref 187]) rfl rfl rfl ?_
  refine ev_x (i := .iconst 0) (len := 1) (p' := 2) (s' := [.int 0, .ref 187]) rfl rfl rfl ?_
  refine ev_x (i := .aload_n 0) (len := 1) (p' := 3) (s' := [.ref 1, .int 0, .ref 187]) rfl rfl rfl ?_
  refine ev_cv (d := d + 1) (As := []) (a := 1) (p' := 6) rfl rfl rfl ly_1 rfl rfl rfl rfl rfl rfl rfl k1 ?_
  refine ev_st (st' := [.int v, .int 0, .ref 187]) rfl ?_
  refine ev_x (i := .i2l) (len := 1) (p' := 7) (s' := [.long v.toInt64, .int 0, .ref 187]) rfl rfl rfl ?_
  refine ev_pL (j := 0) (p' := 8) rfl rfl ly_187 rfl (by rw [h87]; exact vp_in_nI (n := 0) (by decide) (by decide)) rfl ?_
  refine ev_x (i := .goto 6) (len := 3) (p' := 14) (s' := []) rfl rfl rfl ?_
  refine ev_x (i := .iconst 0) (len := 1) (p' := 15) (s' := [.int 0]) rfl rfl rfl ?_
  exact ev_iret rfl rfl rfl rfl
set_option maxHeartbeats 4000000 in
set_option maxRecDepth 100000 in
/-- explore on both sides -/
theorem lw_5 (h87 : gN σ1 187 = 1) (h87' : gN σ2 187 = 1) (h00 : gL σ2 187 0 = v.toInt64) (h0 : gI σ2 66 0 = 0) (k1 : vz_ev P0 13 107 0 (lv_args 0 [.ref 1]) [] (hp σ) (.inl (some (.int v)), hp σ1)) (k2 : vz_ev P0 14 210 0 (lv_args 0 [.ref 66]) [] (hp (st_E σ1 187 0 v.toInt64)) (.inl (some (.int v)), hp σ2)) (k : vz_ev P0 15 0 615 [(6, .int v), (5, .int 0), (4, .int (nI n)), (3, .ref 187), (2, .ref 66), (1, .ref 1), (0, .ref 0)] [] (hp σ2) q) : vz_ev P0 15 0 292 (Sh b n) [] (hp σ) q := by
  have tail : vz_ev P0 15 0 305 [(6, .int v), (5, .int 0), (4, .int (nI n)), (3, .ref 187), (2, .ref 66), (1, .ref 1), (0, .ref 0)] [] (hp σ2) q := by
    refine ev_x (i := .aload_n 2) (len := 1) (p' := 306) (s' := [.ref 66]) rfl rfl rfl ?_
    refine ev_cv (d := 14) (As := []) (a := 66) (p' := 309) rfl rfl rfl ly_66 rfl rfl rfl rfl rfl rfl rfl (lz_270 (d := 13) (hi_66_0 := h0)) ?_
    refine ev_st (st' := [.int 0]) rfl ?_
    refine ev_x (i := .iload 5) (len := 2) (p' := 311) (s' := [.int 0, .int 0]) rfl rfl rfl ?_
    refine ev_b2 (t := 316) (p' := 316) rfl rfl rfl (by decide) ?_
    refine ev_x (i := .iload 5) (len := 2) (p' := 318) (s' := [.int 0]) rfl rfl rfl ?_
    refine ev_b0 (t := 333) (p' := 321) rfl rfl rfl (by decide) ?_
    refine ev_x (i := .aload_n 3) (len := 1) (p' := 322) (s' := [.ref 187]) rfl rfl rfl ?_
    refine ev_x (i := .iconst 0) (len := 1) (p' := 323) (s' := [.int 0, .ref 187]) rfl rfl rfl ?_
    refine ev_gL (p' := 324) (v := v.toInt64) rfl rfl ly_187 rfl (by rw [h87']; exact vp_in_nI (n := 0) (by decide) (by decide)) h00 ?_
    refine ev_x (i := .iload 6) (len := 2) (p' := 326) (s' := [.int v, .long v.toInt64]) rfl rfl rfl ?_
    refine ev_x (i := .i2l) (len := 1) (p' := 327) (s' := [.long v.toInt64, .long v.toInt64]) rfl rfl rfl ?_
    refine ev_x (i := .lcmp) (len := 1) (p' := 328) (s' := [.int (lg_cmp v.toInt64 v.toInt64)]) rfl rfl rfl ?_
    refine ev_b0 (t := 333) (p' := 333) rfl rfl rfl (if_pos (lg_self _)) ?_
    refine ev_x (i := .goto 282) (len := 3) (p' := 615) (s' := []) rfl rfl rfl ?_
    exact k
  cases b with
  | none =>
    show vz_ev P0 15 0 292 [(4, .int (nI n)), (3, .ref 187), (2, .ref 66), (1, .ref 1), (0, .ref 0)] [] (hp σ) q
    refine ev_x (i := .aload_n 1) (len := 1) (p' := 293) (s' := [.ref 1]) rfl rfl rfl ?_
    refine ev_x (i := .aload_n 3) (len := 1) (p' := 294) (s' := [.ref 187, .ref 1]) rfl rfl rfl ?_
    refine ev_callS (d := 14) (As := [.ref 1, .ref 187]) rfl rfl rfl (by decide) rfl rfl rfl rfl rfl (lz_106x (d := 12) h87 k1) ?_
    refine ev_st (st' := [.int 0]) rfl ?_
    refine ev_pc (pc' := 297) rfl ?_
    refine ev_x (i := .istore 5) (len := 2) (p' := 299) (s' := []) (l' := [(5, .int 0), (4, .int (nI n)), (3, .ref 187), (2, .ref 66), (1, .ref 1), (0, .ref 0)]) rfl rfl rfl ?_
    refine ev_x (i := .aload_n 2) (len := 1) (p' := 300) (s' := [.ref 66]) rfl rfl rfl ?_
    refine ev_cv (d := 14) (As := []) (a := 66) (p' := 303) rfl rfl rfl ly_66 rfl rfl rfl rfl rfl rfl rfl k2 ?_
    refine ev_st (st' := [.int v]) rfl ?_
    refine ev_x (i := .istore 6) (len := 2) (p' := 305) (s' := []) (l' := [(6, .int v), (5, .int 0), (4, .int (nI n)), (3, .ref 187), (2, .ref 66), (1, .ref 1), (0, .ref 0)]) rfl rfl rfl ?_
    exact tail
  | some y =>
    show vz_ev P0 15 0 292 [(4, .int (nI n)), (6, .int y.1), (5, .int y.2), (3, .ref 187), (2, .ref 66), (1, .ref 1), (0, .ref 0)] [] (hp σ) q
    refine ev_x (i := .aload_n 1) (len := 1) (p' := 293) (s' := [.ref 1]) rfl rfl rfl ?_
    refine ev_x (i := .aload_n 3) (len := 1) (p' := 294) (s' := [.ref 187, .ref 1]) rfl rfl rfl ?_
    refine ev_callS (d := 14) (As := [.ref 1, .ref 187]) rfl rfl rfl (by decide) rfl rfl rfl rfl rfl (lz_106x (d := 12) h87 k1) ?_
    refine ev_st (st' := [.int 0]) rfl ?_
    refine ev_pc (pc' := 297) rfl ?_
    refine ev_x (i := .istore 5) (len := 2) (p' := 299) (s' := []) (l' := [(5, .int 0), (4, .int (nI n)), (6, .int y.1), (3, .ref 187), (2, .ref 66), (1, .ref 1), (0, .ref 0)]) rfl rfl rfl ?_
    refine ev_x (i := .aload_n 2) (len := 1) (p' := 300) (s' := [.ref 66]) rfl rfl rfl ?_
    refine ev_cv (d := 14) (As := []) (a := 66) (p' := 303) rfl rfl rfl ly_66 rfl rfl rfl rfl rfl rfl rfl k2 ?_
    refine ev_st (st' := [.int v]) rfl ?_
    refine ev_x (i := .istore 6) (len := 2) (p' := 305) (s' := []) (l' := [(6, .int v), (5, .int 0), (4, .int (nI n)), (3, .ref 187), (2, .ref 66), (1, .ref 1), (0, .ref 0)]) rfl rfl rfl ?_
    exact tail
end STP
