/-! methods as functions of the store. Written by wip/prog/dec2.py, gen_all.py -/
/-- GameText$Graph.clear()V -/
def F_91 (N : Nat) (σ : st_S) : Option (st_S) :=
  some (st_i (st_i (st_i (st_i (σ) 52 9 0) 52 10 0) 52 11 0) 52 12 0)
set_option maxRecDepth 100000 in
theorem F_91_R {N : Nat} {σ : st_S} {p : st_S} (H : F_91 N σ = some p) : gR p = gR σ := by
  unfold F_91 at H
  obtain rfl := Option.some.inj H
  exact rfl
set_option maxHeartbeats 4000000 in
set_option maxRecDepth 100000 in
theorem F_91_ok {N d : Nat} {σ : st_S} {p : st_S}  (H : F_91 N σ = some p) : vz_ev P0 (d + 1) 91 0 (lv_args 0 [.ref 52]) [] (hp σ) (.inl none, hp p) := by
  unfold F_91 at H
  refine ev_x (i := .aload_n 0) (len := 1) (p' := 1) (s' := [.ref 52]) rfl rfl rfl ?_
  refine ev_x (i := .iconst 0) (len := 1) (p' := 2) (s' := [.int 0, .ref 52]) rfl rfl rfl ?_
  refine ev_pi (p' := 5) rfl rfl rfl ly_52 rfl rfl rfl rfl ?_
  refine ev_x (i := .aload_n 0) (len := 1) (p' := 6) (s' := [.ref 52]) rfl rfl rfl ?_
  refine ev_x (i := .iconst 0) (len := 1) (p' := 7) (s' := [.int 0, .ref 52]) rfl rfl rfl ?_
  refine ev_pi (p' := 10) rfl rfl rfl ly_52 rfl rfl rfl rfl ?_
  refine ev_x (i := .aload_n 0) (len := 1) (p' := 11) (s' := [.ref 52]) rfl rfl rfl ?_
  refine ev_x (i := .iconst 0) (len := 1) (p' := 12) (s' := [.int 0, .ref 52]) rfl rfl rfl ?_
  refine ev_pi (p' := 15) rfl rfl rfl ly_52 rfl rfl rfl rfl ?_
  refine ev_x (i := .aload_n 0) (len := 1) (p' := 16) (s' := [.ref 52]) rfl rfl rfl ?_
  refine ev_x (i := .iconst 0) (len := 1) (p' := 17) (s' := [.int 0, .ref 52]) rfl rfl rfl ?_
  refine ev_pi (p' := 20) rfl rfl rfl ly_52 rfl rfl rfl rfl ?_
  obtain rfl := Option.some.inj H
  exact ev_vret rfl rfl rfl
/-- GameText.takeSpare()V -/
def F_90 (N : Nat) (t : Nat) (σ : st_S) : Option (st_S) :=
  (F_91 N (st_i (st_i (st_r (st_r (σ) 1 5 t) 1 6 (24 - t)) 1 7 1) 1 8 0)).bind fun p_1 =>
  some (p_1)
set_option maxRecDepth 100000 in
theorem F_90_R {N : Nat} {t : Nat} {σ : st_S} {p : st_S} (H : F_90 N t σ = some p) : gR p = gR (st_r (st_r (σ) 1 5 t) 1 6 (24 - t)) := by
  unfold F_90 at H
  obtain ⟨p_1, G_1, H⟩ := F_bd H
  obtain rfl := Option.some.inj H
  exact ((F_91_R G_1).trans rfl)
set_option maxHeartbeats 4000000 in
set_option maxRecDepth 100000 in
theorem F_90_ok {N d : Nat} {t : Nat} (ht : t = 4 ∨ t = 20) {σ : st_S} {p : st_S} (hr_1_5 : gR σ 1 5 = (24 - t)) (hr_1_6 : gR σ 1 6 = t) (H : F_90 N t σ = some p) : vz_ev P0 (d + 2) 90 0 (lv_args 0 [.ref 1]) [] (hp σ) (.inl none, hp p) := by
  unfold F_90 at H
  rcases ht with rfl | rfl
  · refine ev_x (i := .aload_n 0) (len := 1) (p' := 1) (s' := [.ref 1]) rfl rfl rfl ?_
    refine ev_gr (p' := 4) (v := 20) rfl rfl rfl ly_1 rfl rfl hr_1_5 ?_
    refine ev_x (i := .astore_n 1) (len := 1) (p' := 5) (s' := []) (l' := [(1, .ref 20), (0, .ref 1)]) rfl rfl rfl ?_
    refine ev_x (i := .aload_n 0) (len := 1) (p' := 6) (s' := [.ref 1]) rfl rfl rfl ?_
    refine ev_x (i := .aload_n 0) (len := 1) (p' := 7) (s' := [.ref 1, .ref 1]) rfl rfl rfl ?_
    refine ev_gr (p' := 10) (v := 4) rfl rfl rfl ly_1 rfl rfl hr_1_6 ?_
    refine ev_pr (p' := 13) rfl rfl rfl ly_1 rfl rfl rfl rfl rfl ?_
    refine ev_x (i := .aload_n 0) (len := 1) (p' := 14) (s' := [.ref 1]) rfl rfl rfl ?_
    refine ev_x (i := .aload_n 1) (len := 1) (p' := 15) (s' := [.ref 20, .ref 1]) rfl rfl rfl ?_
    refine ev_pr (p' := 18) rfl rfl rfl ly_1 rfl rfl rfl rfl rfl ?_
    refine ev_x (i := .aload_n 0) (len := 1) (p' := 19) (s' := [.ref 1]) rfl rfl rfl ?_
    refine ev_x (i := .iconst 1) (len := 1) (p' := 20) (s' := [.int 1, .ref 1]) rfl rfl rfl ?_
    refine ev_pi (p' := 23) rfl rfl rfl ly_1 rfl rfl rfl rfl ?_
    refine ev_x (i := .aload_n 0) (len := 1) (p' := 24) (s' := [.ref 1]) rfl rfl rfl ?_
    refine ev_x (i := .iconst 0) (len := 1) (p' := 25) (s' := [.int 0, .ref 1]) rfl rfl rfl ?_
    refine ev_pi (p' := 28) rfl rfl rfl ly_1 rfl rfl rfl rfl ?_
    refine ev_x (i := .aload_n 0) (len := 1) (p' := 29) (s' := [.ref 1]) rfl rfl rfl ?_
    refine ev_gc (p' := 32) (v := 52) rfl rfl rfl ly_1 rfl rfl ?_
    obtain ⟨p_1, G_1, H⟩ := F_bd H
    refine ev_cv (d := d + 1) (As := []) (a := 52) (p' := 35) rfl rfl rfl ly_52 rfl rfl rfl rfl rfl rfl rfl (F_91_ok (d := d + 0)   G_1) ?_
    refine ev_st (st' := []) rfl ?_
    have e_1 := F_91_R G_1
    obtain rfl := Option.some.inj H
    exact ev_vret rfl rfl rfl
  · refine ev_x (i := .aload_n 0) (len := 1) (p' := 1) (s' := [.ref 1]) rfl rfl rfl ?_
    refine ev_gr (p' := 4) (v := 4) rfl rfl rfl ly_1 rfl rfl hr_1_5 ?_
    refine ev_x (i := .astore_n 1) (len := 1) (p' := 5) (s' := []) (l' := [(1, .ref 4), (0, .ref 1)]) rfl rfl rfl ?_
    refine ev_x (i := .aload_n 0) (len := 1) (p' := 6) (s' := [.ref 1]) rfl rfl rfl ?_
    refine ev_x (i := .aload_n 0) (len := 1) (p' := 7) (s' := [.ref 1, .ref 1]) rfl rfl rfl ?_
    refine ev_gr (p' := 10) (v := 20) rfl rfl rfl ly_1 rfl rfl hr_1_6 ?_
    refine ev_pr (p' := 13) rfl rfl rfl ly_1 rfl rfl rfl rfl rfl ?_
    refine ev_x (i := .aload_n 0) (len := 1) (p' := 14) (s' := [.ref 1]) rfl rfl rfl ?_
    refine ev_x (i := .aload_n 1) (len := 1) (p' := 15) (s' := [.ref 4, .ref 1]) rfl rfl rfl ?_
    refine ev_pr (p' := 18) rfl rfl rfl ly_1 rfl rfl rfl rfl rfl ?_
    refine ev_x (i := .aload_n 0) (len := 1) (p' := 19) (s' := [.ref 1]) rfl rfl rfl ?_
    refine ev_x (i := .iconst 1) (len := 1) (p' := 20) (s' := [.int 1, .ref 1]) rfl rfl rfl ?_
    refine ev_pi (p' := 23) rfl rfl rfl ly_1 rfl rfl rfl rfl ?_
    refine ev_x (i := .aload_n 0) (len := 1) (p' := 24) (s' := [.ref 1]) rfl rfl rfl ?_
    refine ev_x (i := .iconst 0) (len := 1) (p' := 25) (s' := [.int 0, .ref 1]) rfl rfl rfl ?_
    refine ev_pi (p' := 28) rfl rfl rfl ly_1 rfl rfl rfl rfl ?_
    refine ev_x (i := .aload_n 0) (len := 1) (p' := 29) (s' := [.ref 1]) rfl rfl rfl ?_
    refine ev_gc (p' := 32) (v := 52) rfl rfl rfl ly_1 rfl rfl ?_
    obtain ⟨p_1, G_1, H⟩ := F_bd H
    refine ev_cv (d := d + 1) (As := []) (a := 52) (p' := 35) rfl rfl rfl ly_52 rfl rfl rfl rfl rfl rfl rfl (F_91_ok (d := d + 0)   G_1) ?_
    refine ev_st (st' := []) rfl ?_
    have e_1 := F_91_R G_1
    obtain rfl := Option.some.inj H
    exact ev_vret rfl rfl rfl
/-- GameText.compile()I, from 58 -/
def J_15_58 (N : Nat) (t : Nat) (l_1 : Int32) (σ : st_S) : Option (Int32 × st_S) :=
  if l_1 = 0 then
    (F_90 N t (st_i (σ) 2 1 0)).bind fun p_5 =>
    some (l_1, p_5)
  else
    some (l_1, st_i (σ) 2 1 0)
set_option maxHeartbeats 4000000 in
set_option maxRecDepth 100000 in
theorem J_15_58_ok {N d : Nat} {t : Nat} (ht : t = 4 ∨ t = 20) {l_1 : Int32} {σ : st_S} {lv : vz_L} {p : Int32 × st_S} (g_0 : vz_g lv 0 = some (.ref 1)) (g_1 : vz_g lv 1 = some (.int l_1)) (hnb : vz_nbL (vz_gr P0) lv = true) (hr_1_5 : gR σ 1 5 = (24 - t)) (hr_1_6 : gR σ 1 6 = t) (H : J_15_58 N t l_1 σ = some p) : vz_ev P0 (d + 13) 15 58 lv [] (hp σ) (.inl (some (.int p.1)), hp p.2) := by
  unfold J_15_58 at H
  refine ev_x (i := .aload_n 0) (len := 1) (p' := 59) (s' := [.ref 1]) rfl rfl (ld_a g_0) ?_
  refine ev_gc (p' := 62) (v := 2) rfl rfl rfl ly_1 rfl rfl ?_
  refine ev_x (i := .iconst 0) (len := 1) (p' := 63) (s' := [.int 0, .ref 2]) rfl rfl rfl ?_
  refine ev_pi (p' := 66) rfl rfl rfl ly_2 rfl rfl rfl rfl ?_
  refine ev_x (i := .iload_n 1) (len := 1) (p' := 67) (s' := [.int l_1]) rfl rfl (ld_i g_1) ?_
  refine F_if H (fun c_4 H => ?_) (fun c_4 H => ?_)
  · refine ev_b0 (t := 74) (p' := 70) rfl rfl rfl (if_neg (fun q => q c_4)) ?_
    refine ev_x (i := .aload_n 0) (len := 1) (p' := 71) (s' := [.ref 1]) rfl rfl (ld_a g_0) ?_
    obtain ⟨p_5, G_5, H⟩ := F_bd H
    refine ev_cv (d := d + 12) (As := []) (a := 1) (p' := 74) rfl rfl rfl ly_1 rfl rfl rfl rfl rfl hnb rfl (F_90_ok (d := d + 10) (ht := ht) (hr_1_5 := hr_1_5) (hr_1_6 := hr_1_6) G_5) ?_
    refine ev_st (st' := []) rfl ?_
    have e_5 := F_90_R G_5
    refine ev_x (i := .iload_n 1) (len := 1) (p' := 75) (s' := [.int l_1]) rfl rfl (ld_i g_1) ?_
    obtain rfl := Option.some.inj H
    exact ev_iret rfl rfl rfl rfl
  · refine ev_b0 (t := 74) (p' := 74) rfl rfl rfl (if_pos c_4) ?_
    refine ev_x (i := .iload_n 1) (len := 1) (p' := 75) (s' := [.int l_1]) rfl rfl (ld_i g_1) ?_
    obtain rfl := Option.some.inj H
    exact ev_iret rfl rfl rfl rfl
/-- GameText.compile()I -/
def F_15 (N : Nat) (t : Nat) (σ : st_S) : Option (Int32 × st_S) :=
  (F_16 N t (σ)).bind fun p_1 =>
  if p_1.1 = 0 then
    J_15_58 N t 1 (st_i (p_1.2) 1 9 (gI p_1.2 2 4))
  else
    (F_53 N t (p_1.2)).bind fun p_3 =>
    J_15_58 N t p_3.1 (st_i (p_3.2) 1 9 (gI p_3.2 46 4))
set_option maxHeartbeats 4000000 in
set_option maxRecDepth 100000 in
theorem F_15_ok {N d : Nat} {t : Nat} (ht : t = 4 ∨ t = 20) {σ : st_S} {p : Int32 × st_S} (hr_1_5 : gR σ 1 5 = (24 - t)) (hr_1_6 : gR σ 1 6 = t) (H : F_15 N t σ = some p) : vz_ev P0 (d + 13) 15 0 (lv_args 0 [.ref 1]) [] (hp σ) (.inl (some (.int p.1)), hp p.2) := by
  unfold F_15 at H
  rcases ht with rfl | rfl
  · refine ev_x (i := .iconst 0) (len := 1) (p' := 1) (s' := [.int 0]) rfl rfl rfl ?_
    refine ev_x (i := .istore_n 1) (len := 1) (p' := 2) (s' := []) (l' := [(1, .int 0), (0, .ref 1)]) rfl rfl rfl ?_
    refine ev_x (i := .aload_n 0) (len := 1) (p' := 3) (s' := [.ref 1]) rfl rfl rfl ?_
    refine ev_gc (p' := 6) (v := 36) rfl rfl rfl ly_1 rfl rfl ?_
    refine ev_x (i := .aload_n 0) (len := 1) (p' := 7) (s' := [.ref 1, .ref 36]) rfl rfl rfl ?_
    refine ev_gr (p' := 10) (v := 4) rfl rfl rfl ly_1 rfl rfl hr_1_6 ?_
    refine ev_gc (p' := 13) (v := 5) rfl rfl rfl ly_4 rfl rfl ?_
    obtain ⟨p_1, G_1, H⟩ := F_bd H
    refine ev_cv (d := d + 12) (As := [.ref 5]) (a := 36) (p' := 16) rfl rfl rfl ly_36 rfl rfl rfl rfl rfl rfl rfl (F_16_ok (d := d + 0) (ht := (Or.inl rfl))  G_1) ?_
    refine ev_st (st' := [.int p_1.1]) rfl ?_
    have e_1 := F_16_R G_1
    refine F_if H (fun c_2 H => ?_) (fun c_2 H => ?_)
    · refine ev_b0 (t := 45) (p' := 45) rfl rfl rfl (if_pos c_2) ?_
      refine ev_x (i := .iconst 1) (len := 1) (p' := 46) (s' := [.int 1]) rfl rfl rfl ?_
      refine ev_x (i := .istore_n 1) (len := 1) (p' := 47) (s' := []) (l' := [(1, .int 1), (0, .ref 1)]) rfl rfl rfl ?_
      refine ev_x (i := .aload_n 0) (len := 1) (p' := 48) (s' := [.ref 1]) rfl rfl rfl ?_
      refine ev_x (i := .aload_n 0) (len := 1) (p' := 49) (s' := [.ref 1, .ref 1]) rfl rfl rfl ?_
      refine ev_gc (p' := 52) (v := 2) rfl rfl rfl ly_1 rfl rfl ?_
      refine ev_gi (p' := 55) (v := (gI p_1.2 2 4)) rfl rfl rfl ly_2 rfl rfl rfl ?_
      refine ev_pi (p' := 58) rfl rfl rfl ly_1 rfl rfl rfl rfl ?_
      exact J_15_58_ok (d := d) (Or.inl rfl) rfl rfl rfl ((congrFun (congrFun e_1 1) 5).trans hr_1_5) ((congrFun (congrFun e_1 1) 6).trans hr_1_6) H
    · refine ev_b0 (t := 45) (p' := 19) rfl rfl rfl (if_neg c_2) ?_
      refine ev_x (i := .aload_n 0) (len := 1) (p' := 20) (s' := [.ref 1]) rfl rfl rfl ?_
      refine ev_gc (p' := 23) (v := 46) rfl rfl rfl ly_1 rfl rfl ?_
      refine ev_x (i := .aload_n 0) (len := 1) (p' := 24) (s' := [.ref 1, .ref 46]) rfl rfl rfl ?_
      refine ev_gr (p' := 27) (v := 4) rfl rfl rfl ly_1 rfl rfl ((congrFun (congrFun e_1 1) 6).trans hr_1_6) ?_
      obtain ⟨p_3, G_3, H⟩ := F_bd H
      refine ev_cv (d := d + 12) (As := [.ref 4]) (a := 46) (p' := 30) rfl rfl rfl ly_46 rfl rfl rfl rfl rfl rfl rfl (F_53_ok (d := d + 5) (ht := (Or.inl rfl))  G_3) ?_
      refine ev_st (st' := [.int p_3.1]) rfl ?_
      have e_3 := F_53_R G_3
      refine ev_x (i := .istore_n 1) (len := 1) (p' := 31) (s' := []) (l' := [(1, .int p_3.1), (0, .ref 1)]) rfl rfl rfl ?_
      refine ev_x (i := .aload_n 0) (len := 1) (p' := 32) (s' := [.ref 1]) rfl rfl rfl ?_
      refine ev_x (i := .aload_n 0) (len := 1) (p' := 33) (s' := [.ref 1, .ref 1]) rfl rfl rfl ?_
      refine ev_gc (p' := 36) (v := 46) rfl rfl rfl ly_1 rfl rfl ?_
      refine ev_gi (p' := 39) (v := (gI p_3.2 46 4)) rfl rfl rfl ly_46 rfl rfl rfl ?_
      refine ev_pi (p' := 42) rfl rfl rfl ly_1 rfl rfl rfl rfl ?_
      refine ev_x (i := .goto 16) (len := 3) (p' := 58) (s' := []) rfl rfl rfl ?_
      exact J_15_58_ok (d := d) (Or.inl rfl) rfl rfl rfl ((congrFun (congrFun e_3 1) 5).trans ((congrFun (congrFun e_1 1) 5).trans hr_1_5)) ((congrFun (congrFun e_3 1) 6).trans ((congrFun (congrFun e_1 1) 6).trans hr_1_6)) H
  · refine ev_x (i := .iconst 0) (len := 1) (p' := 1) (s' := [.int 0]) rfl rfl rfl ?_
    refine ev_x (i := .istore_n 1) (len := 1) (p' := 2) (s' := []) (l' := [(1, .int 0), (0, .ref 1)]) rfl rfl rfl ?_
    refine ev_x (i := .aload_n 0) (len := 1) (p' := 3) (s' := [.ref 1]) rfl rfl rfl ?_
    refine ev_gc (p' := 6) (v := 36) rfl rfl rfl ly_1 rfl rfl ?_
    refine ev_x (i := .aload_n 0) (len := 1) (p' := 7) (s' := [.ref 1, .ref 36]) rfl rfl rfl ?_
    refine ev_gr (p' := 10) (v := 20) rfl rfl rfl ly_1 rfl rfl hr_1_6 ?_
    refine ev_gc (p' := 13) (v := 21) rfl rfl rfl ly_20 rfl rfl ?_
    obtain ⟨p_1, G_1, H⟩ := F_bd H
    refine ev_cv (d := d + 12) (As := [.ref 21]) (a := 36) (p' := 16) rfl rfl rfl ly_36 rfl rfl rfl rfl rfl rfl rfl (F_16_ok (d := d + 0) (ht := (Or.inr rfl))  G_1) ?_
    refine ev_st (st' := [.int p_1.1]) rfl ?_
    have e_1 := F_16_R G_1
    refine F_if H (fun c_2 H => ?_) (fun c_2 H => ?_)
    · refine ev_b0 (t := 45) (p' := 45) rfl rfl rfl (if_pos c_2) ?_
      refine ev_x (i := .iconst 1) (len := 1) (p' := 46) (s' := [.int 1]) rfl rfl rfl ?_
      refine ev_x (i := .istore_n 1) (len := 1) (p' := 47) (s' := []) (l' := [(1, .int 1), (0, .ref 1)]) rfl rfl rfl ?_
      refine ev_x (i := .aload_n 0) (len := 1) (p' := 48) (s' := [.ref 1]) rfl rfl rfl ?_
      refine ev_x (i := .aload_n 0) (len := 1) (p' := 49) (s' := [.ref 1, .ref 1]) rfl rfl rfl ?_
      refine ev_gc (p' := 52) (v := 2) rfl rfl rfl ly_1 rfl rfl ?_
      refine ev_gi (p' := 55) (v := (gI p_1.2 2 4)) rfl rfl rfl ly_2 rfl rfl rfl ?_
      refine ev_pi (p' := 58) rfl rfl rfl ly_1 rfl rfl rfl rfl ?_
      exact J_15_58_ok (d := d) (Or.inr rfl) rfl rfl rfl ((congrFun (congrFun e_1 1) 5).trans hr_1_5) ((congrFun (congrFun e_1 1) 6).trans hr_1_6) H
    · refine ev_b0 (t := 45) (p' := 19) rfl rfl rfl (if_neg c_2) ?_
      refine ev_x (i := .aload_n 0) (len := 1) (p' := 20) (s' := [.ref 1]) rfl rfl rfl ?_
      refine ev_gc (p' := 23) (v := 46) rfl rfl rfl ly_1 rfl rfl ?_
      refine ev_x (i := .aload_n 0) (len := 1) (p' := 24) (s' := [.ref 1, .ref 46]) rfl rfl rfl ?_
      refine ev_gr (p' := 27) (v := 20) rfl rfl rfl ly_1 rfl rfl ((congrFun (congrFun e_1 1) 6).trans hr_1_6) ?_
      obtain ⟨p_3, G_3, H⟩ := F_bd H
      refine ev_cv (d := d + 12) (As := [.ref 20]) (a := 46) (p' := 30) rfl rfl rfl ly_46 rfl rfl rfl rfl rfl rfl rfl (F_53_ok (d := d + 5) (ht := (Or.inr rfl))  G_3) ?_
      refine ev_st (st' := [.int p_3.1]) rfl ?_
      have e_3 := F_53_R G_3
      refine ev_x (i := .istore_n 1) (len := 1) (p' := 31) (s' := []) (l' := [(1, .int p_3.1), (0, .ref 1)]) rfl rfl rfl ?_
      refine ev_x (i := .aload_n 0) (len := 1) (p' := 32) (s' := [.ref 1]) rfl rfl rfl ?_
      refine ev_x (i := .aload_n 0) (len := 1) (p' := 33) (s' := [.ref 1, .ref 1]) rfl rfl rfl ?_
      refine ev_gc (p' := 36) (v := 46) rfl rfl rfl ly_1 rfl rfl ?_
      refine ev_gi (p' := 39) (v := (gI p_3.2 46 4)) rfl rfl rfl ly_46 rfl rfl rfl ?_
      refine ev_pi (p' := 42) rfl rfl rfl ly_1 rfl rfl rfl rfl ?_
      refine ev_x (i := .goto 16) (len := 3) (p' := 58) (s' := []) rfl rfl rfl ?_
      exact J_15_58_ok (d := d) (Or.inr rfl) rfl rfl rfl ((congrFun (congrFun e_3 1) 5).trans ((congrFun (congrFun e_1 1) 5).trans hr_1_5)) ((congrFun (congrFun e_3 1) 6).trans ((congrFun (congrFun e_1 1) 6).trans hr_1_6)) H
/-- GameTextModel.compile()I -/
def F_135 (N : Nat) (g : Nat) (x : Nat) (σ : st_S) : Option (Int32 × st_S) :=
  (F_136 N x (st_i (st_r (st_r (st_i (σ) 66 0 0) 66 2 x) 66 1 (136 - x)) (136 - x) 1 0)).bind fun p_1 =>
  (F_147 N (p_1)).bind fun p_2 =>
  if p_2.1 = 0 then
    (F_159 N (gI p_2.2 66 8) (p_2.2)).bind fun p_4 =>
    some (1, st_i (p_4.2) 66 12 p_4.1)
  else
    (F_160 N g x (p_2.2)).bind fun p_5 =>
    if (gI p_5 66 16) = 0 then
      some (0, st_i (st_i (st_i (st_r (st_r (p_5) 66 9 g) 66 10 (194 - g)) 66 11 1) 66 29 0) 66 12 (-1))
    else
      some ((gI p_5 66 16), st_i (p_5) 66 12 (gI p_5 66 17))
set_option maxHeartbeats 4000000 in
set_option maxRecDepth 100000 in
theorem F_135_ok {N d : Nat} {g : Nat} (hg : g = 79 ∨ g = 115) {x : Nat} (hx : x = 67 ∨ x = 69) {σ : st_S} {p : Int32 × st_S} (hr_66_1 : gR σ 66 1 = x) (hr_66_2 : gR σ 66 2 = (136 - x)) (hr_66_9 : gR σ 66 9 = (194 - g)) (hr_66_10 : gR σ 66 10 = g) (H : F_135 N g x σ = some p) : vz_ev P0 (d + 13) 135 0 (lv_args 0 [.ref 66]) [] (hp σ) (.inl (some (.int p.1)), hp p.2) := by
  unfold F_135 at H
  rcases hg with rfl | rfl
  · rcases hx with rfl | rfl
    · refine ev_x (i := .aload_n 0) (len := 1) (p' := 1) (s' := [.ref 66]) rfl rfl rfl ?_
      refine ev_x (i := .iconst 0) (len := 1) (p' := 2) (s' := [.int 0, .ref 66]) rfl rfl rfl ?_
      refine ev_pi (p' := 5) rfl rfl rfl ly_66 rfl rfl rfl rfl ?_
      refine ev_x (i := .aload_n 0) (len := 1) (p' := 6) (s' := [.ref 66]) rfl rfl rfl ?_
      refine ev_gr (p' := 9) (v := 69) rfl rfl rfl ly_66 rfl rfl hr_66_2 ?_
      refine ev_x (i := .astore_n 1) (len := 1) (p' := 10) (s' := []) (l' := [(1, .ref 69), (0, .ref 66)]) rfl rfl rfl ?_
      refine ev_x (i := .aload_n 0) (len := 1) (p' := 11) (s' := [.ref 66]) rfl rfl rfl ?_
      refine ev_x (i := .aload_n 0) (len := 1) (p' := 12) (s' := [.ref 66, .ref 66]) rfl rfl rfl ?_
      refine ev_gr (p' := 15) (v := 67) rfl rfl rfl ly_66 rfl rfl hr_66_1 ?_
      refine ev_pr (p' := 18) rfl rfl rfl ly_66 rfl rfl rfl rfl rfl ?_
      refine ev_x (i := .aload_n 0) (len := 1) (p' := 19) (s' := [.ref 66]) rfl rfl rfl ?_
      refine ev_x (i := .aload_n 1) (len := 1) (p' := 20) (s' := [.ref 69, .ref 66]) rfl rfl rfl ?_
      refine ev_pr (p' := 23) rfl rfl rfl ly_66 rfl rfl rfl rfl rfl ?_
      refine ev_x (i := .aload_n 0) (len := 1) (p' := 24) (s' := [.ref 66]) rfl rfl rfl ?_
      refine ev_gr (p' := 27) (v := 69) rfl rfl rfl ly_66 rfl rfl rfl ?_
      refine ev_x (i := .iconst 0) (len := 1) (p' := 28) (s' := [.int 0, .ref 69]) rfl rfl rfl ?_
      refine ev_pi (p' := 31) rfl rfl rfl ly_69 rfl rfl rfl rfl ?_
      refine ev_x (i := .aload_n 0) (len := 1) (p' := 32) (s' := [.ref 66]) rfl rfl rfl ?_
      obtain ⟨p_1, G_1, H⟩ := F_bd H
      refine ev_cv (d := d + 12) (As := []) (a := 66) (p' := 35) rfl rfl rfl ly_66 rfl rfl rfl rfl rfl rfl rfl (F_136_ok (d := d + 2) (hx := (Or.inl rfl)) (hr_66_2 := rfl) G_1) ?_
      refine ev_st (st' := []) rfl ?_
      have e_1 := F_136_R G_1
      refine ev_x (i := .aload_n 0) (len := 1) (p' := 36) (s' := [.ref 66]) rfl rfl rfl ?_
      obtain ⟨p_2, G_2, H⟩ := F_bd H
      refine ev_cv (d := d + 12) (As := []) (a := 66) (p' := 39) rfl rfl rfl ly_66 rfl rfl rfl rfl rfl rfl rfl (F_147_ok (d := d + 7)   G_2) ?_
      refine ev_st (st' := [.int p_2.1]) rfl ?_
      have e_2 := F_147_R G_2
      refine F_if H (fun c_3 H => ?_) (fun c_3 H => ?_)
      · refine ev_b0 (t := 56) (p' := 42) rfl rfl rfl (if_neg (fun q => q c_3)) ?_
        refine ev_x (i := .aload_n 0) (len := 1) (p' := 43) (s' := [.ref 66]) rfl rfl rfl ?_
        refine ev_x (i := .aload_n 0) (len := 1) (p' := 44) (s' := [.ref 66, .ref 66]) rfl rfl rfl ?_
        refine ev_x (i := .aload_n 0) (len := 1) (p' := 45) (s' := [.ref 66, .ref 66, .ref 66]) rfl rfl rfl ?_
        refine ev_gi (p' := 48) (v := (gI p_2.2 66 8)) rfl rfl rfl ly_66 rfl rfl rfl ?_
        obtain ⟨p_4, G_4, H⟩ := F_bd H
        refine ev_cv (d := d + 12) (As := [.int (gI p_2.2 66 8)]) (a := 66) (p' := 51) rfl rfl rfl ly_66 rfl rfl rfl rfl rfl rfl rfl (F_159_ok (d := d + 10)   G_4) ?_
        refine ev_st (st' := [.int p_4.1, .ref 66]) rfl ?_
        have e_4 := F_159_R G_4
        refine ev_pi (p' := 54) rfl rfl rfl ly_66 rfl rfl rfl rfl ?_
        refine ev_x (i := .iconst 1) (len := 1) (p' := 55) (s' := [.int 1]) rfl rfl rfl ?_
        obtain rfl := Option.some.inj H
        exact ev_iret rfl rfl rfl rfl
      · refine ev_b0 (t := 56) (p' := 56) rfl rfl rfl (if_pos c_3) ?_
        refine ev_x (i := .aload_n 0) (len := 1) (p' := 57) (s' := [.ref 66]) rfl rfl rfl ?_
        obtain ⟨p_5, G_5, H⟩ := F_bd H
        refine ev_cv (d := d + 12) (As := []) (a := 66) (p' := 60) rfl rfl rfl ly_66 rfl rfl rfl rfl rfl rfl rfl (F_160_ok (d := d + 0) (hg := (Or.inl rfl)) (hx := (Or.inl rfl)) (hr_66_2 := ((congrFun (congrFun e_2 66) 2).trans ((congrFun (congrFun e_1 66) 2).trans rfl))) (hr_66_10 := ((congrFun (congrFun e_2 66) 10).trans ((congrFun (congrFun e_1 66) 10).trans hr_66_10))) G_5) ?_
        refine ev_st (st' := []) rfl ?_
        have e_5 := F_160_R G_5
        refine ev_x (i := .aload_n 0) (len := 1) (p' := 61) (s' := [.ref 66]) rfl rfl rfl ?_
        refine ev_gi (p' := 64) (v := (gI p_5 66 16)) rfl rfl rfl ly_66 rfl rfl rfl ?_
        refine F_if H (fun c_6 H => ?_) (fun c_6 H => ?_)
        · refine ev_b0 (t := 80) (p' := 80) rfl rfl rfl (if_pos c_6) ?_
          refine ev_x (i := .aload_n 0) (len := 1) (p' := 81) (s' := [.ref 66]) rfl rfl rfl ?_
          refine ev_gr (p' := 84) (v := 115) rfl rfl rfl ly_66 rfl rfl ((congrFun (congrFun e_5 66) 9).trans ((congrFun (congrFun e_2 66) 9).trans ((congrFun (congrFun e_1 66) 9).trans hr_66_9))) ?_
          refine ev_x (i := .astore_n 2) (len := 1) (p' := 85) (s' := []) (l' := [(2, .ref 115), (1, .ref 69), (0, .ref 66)]) rfl rfl rfl ?_
          refine ev_x (i := .aload_n 0) (len := 1) (p' := 86) (s' := [.ref 66]) rfl rfl rfl ?_
          refine ev_x (i := .aload_n 0) (len := 1) (p' := 87) (s' := [.ref 66, .ref 66]) rfl rfl rfl ?_
          refine ev_gr (p' := 90) (v := 79) rfl rfl rfl ly_66 rfl rfl ((congrFun (congrFun e_5 66) 10).trans ((congrFun (congrFun e_2 66) 10).trans ((congrFun (congrFun e_1 66) 10).trans hr_66_10))) ?_
          refine ev_pr (p' := 93) rfl rfl rfl ly_66 rfl rfl rfl rfl rfl ?_
          refine ev_x (i := .aload_n 0) (len := 1) (p' := 94) (s' := [.ref 66]) rfl rfl rfl ?_
          refine ev_x (i := .aload_n 2) (len := 1) (p' := 95) (s' := [.ref 115, .ref 66]) rfl rfl rfl ?_
          refine ev_pr (p' := 98) rfl rfl rfl ly_66 rfl rfl rfl rfl rfl ?_
          refine ev_x (i := .aload_n 0) (len := 1) (p' := 99) (s' := [.ref 66]) rfl rfl rfl ?_
          refine ev_x (i := .iconst 1) (len := 1) (p' := 100) (s' := [.int 1, .ref 66]) rfl rfl rfl ?_
          refine ev_pi (p' := 103) rfl rfl rfl ly_66 rfl rfl rfl rfl ?_
          refine ev_x (i := .aload_n 0) (len := 1) (p' := 104) (s' := [.ref 66]) rfl rfl rfl ?_
          refine ev_x (i := .iconst 0) (len := 1) (p' := 105) (s' := [.int 0, .ref 66]) rfl rfl rfl ?_
          refine ev_pi (p' := 108) rfl rfl rfl ly_66 rfl rfl rfl rfl ?_
          refine ev_x (i := .aload_n 0) (len := 1) (p' := 109) (s' := [.ref 66]) rfl rfl rfl ?_
          refine ev_x (i := .iconst (-1)) (len := 1) (p' := 110) (s' := [.int (-1), .ref 66]) rfl rfl rfl ?_
          refine ev_pi (p' := 113) rfl rfl rfl ly_66 rfl rfl rfl rfl ?_
          refine ev_x (i := .iconst 0) (len := 1) (p' := 114) (s' := [.int 0]) rfl rfl rfl ?_
          obtain rfl := Option.some.inj H
          exact ev_iret rfl rfl rfl rfl
        · refine ev_b0 (t := 80) (p' := 67) rfl rfl rfl (if_neg c_6) ?_
          refine ev_x (i := .aload_n 0) (len := 1) (p' := 68) (s' := [.ref 66]) rfl rfl rfl ?_
          refine ev_x (i := .aload_n 0) (len := 1) (p' := 69) (s' := [.ref 66, .ref 66]) rfl rfl rfl ?_
          refine ev_gi (p' := 72) (v := (gI p_5 66 17)) rfl rfl rfl ly_66 rfl rfl rfl ?_
          refine ev_pi (p' := 75) rfl rfl rfl ly_66 rfl rfl rfl rfl ?_
          refine ev_x (i := .aload_n 0) (len := 1) (p' := 76) (s' := [.ref 66]) rfl rfl rfl ?_
          refine ev_gi (p' := 79) (v := (gI p_5 66 16)) rfl rfl rfl ly_66 rfl rfl rfl ?_
          obtain rfl := Option.some.inj H
          exact ev_iret rfl rfl rfl rfl
    · refine ev_x (i := .aload_n 0) (len := 1) (p' := 1) (s' := [.ref 66]) rfl rfl rfl ?_
      refine ev_x (i := .iconst 0) (len := 1) (p' := 2) (s' := [.int 0, .ref 66]) rfl rfl rfl ?_
      refine ev_pi (p' := 5) rfl rfl rfl ly_66 rfl rfl rfl rfl ?_
      refine ev_x (i := .aload_n 0) (len := 1) (p' := 6) (s' := [.ref 66]) rfl rfl rfl ?_
      refine ev_gr (p' := 9) (v := 67) rfl rfl rfl ly_66 rfl rfl hr_66_2 ?_
      refine ev_x (i := .astore_n 1) (len := 1) (p' := 10) (s' := []) (l' := [(1, .ref 67), (0, .ref 66)]) rfl rfl rfl ?_
      refine ev_x (i := .aload_n 0) (len := 1) (p' := 11) (s' := [.ref 66]) rfl rfl rfl ?_
      refine ev_x (i := .aload_n 0) (len := 1) (p' := 12) (s' := [.ref 66, .ref 66]) rfl rfl rfl ?_
      refine ev_gr (p' := 15) (v := 69) rfl rfl rfl ly_66 rfl rfl hr_66_1 ?_
      refine ev_pr (p' := 18) rfl rfl rfl ly_66 rfl rfl rfl rfl rfl ?_
      refine ev_x (i := .aload_n 0) (len := 1) (p' := 19) (s' := [.ref 66]) rfl rfl rfl ?_
      refine ev_x (i := .aload_n 1) (len := 1) (p' := 20) (s' := [.ref 67, .ref 66]) rfl rfl rfl ?_
      refine ev_pr (p' := 23) rfl rfl rfl ly_66 rfl rfl rfl rfl rfl ?_
      refine ev_x (i := .aload_n 0) (len := 1) (p' := 24) (s' := [.ref 66]) rfl rfl rfl ?_
      refine ev_gr (p' := 27) (v := 67) rfl rfl rfl ly_66 rfl rfl rfl ?_
      refine ev_x (i := .iconst 0) (len := 1) (p' := 28) (s' := [.int 0, .ref 67]) rfl rfl rfl ?_
      refine ev_pi (p' := 31) rfl rfl rfl ly_67 rfl rfl rfl rfl ?_
      refine ev_x (i := .aload_n 0) (len := 1) (p' := 32) (s' := [.ref 66]) rfl rfl rfl ?_
      obtain ⟨p_1, G_1, H⟩ := F_bd H
      refine ev_cv (d := d + 12) (As := []) (a := 66) (p' := 35) rfl rfl rfl ly_66 rfl rfl rfl rfl rfl rfl rfl (F_136_ok (d := d + 2) (hx := (Or.inr rfl)) (hr_66_2 := rfl) G_1) ?_
      refine ev_st (st' := []) rfl ?_
      have e_1 := F_136_R G_1
      refine ev_x (i := .aload_n 0) (len := 1) (p' := 36) (s' := [.ref 66]) rfl rfl rfl ?_
      obtain ⟨p_2, G_2, H⟩ := F_bd H
      refine ev_cv (d := d + 12) (As := []) (a := 66) (p' := 39) rfl rfl rfl ly_66 rfl rfl rfl rfl rfl rfl rfl (F_147_ok (d := d + 7)   G_2) ?_
      refine ev_st (st' := [.int p_2.1]) rfl ?_
      have e_2 := F_147_R G_2
      refine F_if H (fun c_3 H => ?_) (fun c_3 H => ?_)
      · refine ev_b0 (t := 56) (p' := 42) rfl rfl rfl (if_neg (fun q => q c_3)) ?_
        refine ev_x (i := .aload_n 0) (len := 1) (p' := 43) (s' := [.ref 66]) rfl rfl rfl ?_
        refine ev_x (i := .aload_n 0) (len := 1) (p' := 44) (s' := [.ref 66, .ref 66]) rfl rfl rfl ?_
        refine ev_x (i := .aload_n 0) (len := 1) (p' := 45) (s' := [.ref 66, .ref 66, .ref 66]) rfl rfl rfl ?_
        refine ev_gi (p' := 48) (v := (gI p_2.2 66 8)) rfl rfl rfl ly_66 rfl rfl rfl ?_
        obtain ⟨p_4, G_4, H⟩ := F_bd H
        refine ev_cv (d := d + 12) (As := [.int (gI p_2.2 66 8)]) (a := 66) (p' := 51) rfl rfl rfl ly_66 rfl rfl rfl rfl rfl rfl rfl (F_159_ok (d := d + 10)   G_4) ?_
        refine ev_st (st' := [.int p_4.1, .ref 66]) rfl ?_
        have e_4 := F_159_R G_4
        refine ev_pi (p' := 54) rfl rfl rfl ly_66 rfl rfl rfl rfl ?_
        refine ev_x (i := .iconst 1) (len := 1) (p' := 55) (s' := [.int 1]) rfl rfl rfl ?_
        obtain rfl := Option.some.inj H
        exact ev_iret rfl rfl rfl rfl
      · refine ev_b0 (t := 56) (p' := 56) rfl rfl rfl (if_pos c_3) ?_
        refine ev_x (i := .aload_n 0) (len := 1) (p' := 57) (s' := [.ref 66]) rfl rfl rfl ?_
        obtain ⟨p_5, G_5, H⟩ := F_bd H
        refine ev_cv (d := d + 12) (As := []) (a := 66) (p' := 60) rfl rfl rfl ly_66 rfl rfl rfl rfl rfl rfl rfl (F_160_ok (d := d + 0) (hg := (Or.inl rfl)) (hx := (Or.inr rfl)) (hr_66_2 := ((congrFun (congrFun e_2 66) 2).trans ((congrFun (congrFun e_1 66) 2).trans rfl))) (hr_66_10 := ((congrFun (congrFun e_2 66) 10).trans ((congrFun (congrFun e_1 66) 10).trans hr_66_10))) G_5) ?_
        refine ev_st (st' := []) rfl ?_
        have e_5 := F_160_R G_5
        refine ev_x (i := .aload_n 0) (len := 1) (p' := 61) (s' := [.ref 66]) rfl rfl rfl ?_
        refine ev_gi (p' := 64) (v := (gI p_5 66 16)) rfl rfl rfl ly_66 rfl rfl rfl ?_
        refine F_if H (fun c_6 H => ?_) (fun c_6 H => ?_)
        · refine ev_b0 (t := 80) (p' := 80) rfl rfl rfl (if_pos c_6) ?_
          refine ev_x (i := .aload_n 0) (len := 1) (p' := 81) (s' := [.ref 66]) rfl rfl rfl ?_
          refine ev_gr (p' := 84) (v := 115) rfl rfl rfl ly_66 rfl rfl ((congrFun (congrFun e_5 66) 9).trans ((congrFun (congrFun e_2 66) 9).trans ((congrFun (congrFun e_1 66) 9).trans hr_66_9))) ?_
          refine ev_x (i := .astore_n 2) (len := 1) (p' := 85) (s' := []) (l' := [(2, .ref 115), (1, .ref 67), (0, .ref 66)]) rfl rfl rfl ?_
          refine ev_x (i := .aload_n 0) (len := 1) (p' := 86) (s' := [.ref 66]) rfl rfl rfl ?_
          refine ev_x (i := .aload_n 0) (len := 1) (p' := 87) (s' := [.ref 66, .ref 66]) rfl rfl rfl ?_
          refine ev_gr (p' := 90) (v := 79) rfl rfl rfl ly_66 rfl rfl ((congrFun (congrFun e_5 66) 10).trans ((congrFun (congrFun e_2 66) 10).trans ((congrFun (congrFun e_1 66) 10).trans hr_66_10))) ?_
          refine ev_pr (p' := 93) rfl rfl rfl ly_66 rfl rfl rfl rfl rfl ?_
          refine ev_x (i := .aload_n 0) (len := 1) (p' := 94) (s' := [.ref 66]) rfl rfl rfl ?_
          refine ev_x (i := .aload_n 2) (len := 1) (p' := 95) (s' := [.ref 115, .ref 66]) rfl rfl rfl ?_
          refine ev_pr (p' := 98) rfl rfl rfl ly_66 rfl rfl rfl rfl rfl ?_
          refine ev_x (i := .aload_n 0) (len := 1) (p' := 99) (s' := [.ref 66]) rfl rfl rfl ?_
          refine ev_x (i := .iconst 1) (len := 1) (p' := 100) (s' := [.int 1, .ref 66]) rfl rfl rfl ?_
          refine ev_pi (p' := 103) rfl rfl rfl ly_66 rfl rfl rfl rfl ?_
          refine ev_x (i := .aload_n 0) (len := 1) (p' := 104) (s' := [.ref 66]) rfl rfl rfl ?_
          refine ev_x (i := .iconst 0) (len := 1) (p' := 105) (s' := [.int 0, .ref 66]) rfl rfl rfl ?_
          refine ev_pi (p' := 108) rfl rfl rfl ly_66 rfl rfl rfl rfl ?_
          refine ev_x (i := .aload_n 0) (len := 1) (p' := 109) (s' := [.ref 66]) rfl rfl rfl ?_
          refine ev_x (i := .iconst (-1)) (len := 1) (p' := 110) (s' := [.int (-1), .ref 66]) rfl rfl rfl ?_
          refine ev_pi (p' := 113) rfl rfl rfl ly_66 rfl rfl rfl rfl ?_
          refine ev_x (i := .iconst 0) (len := 1) (p' := 114) (s' := [.int 0]) rfl rfl rfl ?_
          obtain rfl := Option.some.inj H
          exact ev_iret rfl rfl rfl rfl
        · refine ev_b0 (t := 80) (p' := 67) rfl rfl rfl (if_neg c_6) ?_
          refine ev_x (i := .aload_n 0) (len := 1) (p' := 68) (s' := [.ref 66]) rfl rfl rfl ?_
          refine ev_x (i := .aload_n 0) (len := 1) (p' := 69) (s' := [.ref 66, .ref 66]) rfl rfl rfl ?_
          refine ev_gi (p' := 72) (v := (gI p_5 66 17)) rfl rfl rfl ly_66 rfl rfl rfl ?_
          refine ev_pi (p' := 75) rfl rfl rfl ly_66 rfl rfl rfl rfl ?_
          refine ev_x (i := .aload_n 0) (len := 1) (p' := 76) (s' := [.ref 66]) rfl rfl rfl ?_
          refine ev_gi (p' := 79) (v := (gI p_5 66 16)) rfl rfl rfl ly_66 rfl rfl rfl ?_
          obtain rfl := Option.some.inj H
          exact ev_iret rfl rfl rfl rfl
  · rcases hx with rfl | rfl
    · refine ev_x (i := .aload_n 0) (len := 1) (p' := 1) (s' := [.ref 66]) rfl rfl rfl ?_
      refine ev_x (i := .iconst 0) (len := 1) (p' := 2) (s' := [.int 0, .ref 66]) rfl rfl rfl ?_
      refine ev_pi (p' := 5) rfl rfl rfl ly_66 rfl rfl rfl rfl ?_
      refine ev_x (i := .aload_n 0) (len := 1) (p' := 6) (s' := [.ref 66]) rfl rfl rfl ?_
      refine ev_gr (p' := 9) (v := 69) rfl rfl rfl ly_66 rfl rfl hr_66_2 ?_
      refine ev_x (i := .astore_n 1) (len := 1) (p' := 10) (s' := []) (l' := [(1, .ref 69), (0, .ref 66)]) rfl rfl rfl ?_
      refine ev_x (i := .aload_n 0) (len := 1) (p' := 11) (s' := [.ref 66]) rfl rfl rfl ?_
      refine ev_x (i := .aload_n 0) (len := 1) (p' := 12) (s' := [.ref 66, .ref 66]) rfl rfl rfl ?_
      refine ev_gr (p' := 15) (v := 67) rfl rfl rfl ly_66 rfl rfl hr_66_1 ?_
      refine ev_pr (p' := 18) rfl rfl rfl ly_66 rfl rfl rfl rfl rfl ?_
      refine ev_x (i := .aload_n 0) (len := 1) (p' := 19) (s' := [.ref 66]) rfl rfl rfl ?_
      refine ev_x (i := .aload_n 1) (len := 1) (p' := 20) (s' := [.ref 69, .ref 66]) rfl rfl rfl ?_
      refine ev_pr (p' := 23) rfl rfl rfl ly_66 rfl rfl rfl rfl rfl ?_
      refine ev_x (i := .aload_n 0) (len := 1) (p' := 24) (s' := [.ref 66]) rfl rfl rfl ?_
      refine ev_gr (p' := 27) (v := 69) rfl rfl rfl ly_66 rfl rfl rfl ?_
      refine ev_x (i := .iconst 0) (len := 1) (p' := 28) (s' := [.int 0, .ref 69]) rfl rfl rfl ?_
      refine ev_pi (p' := 31) rfl rfl rfl ly_69 rfl rfl rfl rfl ?_
      refine ev_x (i := .aload_n 0) (len := 1) (p' := 32) (s' := [.ref 66]) rfl rfl rfl ?_
      obtain ⟨p_1, G_1, H⟩ := F_bd H
      refine ev_cv (d := d + 12) (As := []) (a := 66) (p' := 35) rfl rfl rfl ly_66 rfl rfl rfl rfl rfl rfl rfl (F_136_ok (d := d + 2) (hx := (Or.inl rfl)) (hr_66_2 := rfl) G_1) ?_
      refine ev_st (st' := []) rfl ?_
      have e_1 := F_136_R G_1
      refine ev_x (i := .aload_n 0) (len := 1) (p' := 36) (s' := [.ref 66]) rfl rfl rfl ?_
      obtain ⟨p_2, G_2, H⟩ := F_bd H
      refine ev_cv (d := d + 12) (As := []) (a := 66) (p' := 39) rfl rfl rfl ly_66 rfl rfl rfl rfl rfl rfl rfl (F_147_ok (d := d + 7)   G_2) ?_
      refine ev_st (st' := [.int p_2.1]) rfl ?_
      have e_2 := F_147_R G_2
      refine F_if H (fun c_3 H => ?_) (fun c_3 H => ?_)
      · refine ev_b0 (t := 56) (p' := 42) rfl rfl rfl (if_neg (fun q => q c_3)) ?_
        refine ev_x (i := .aload_n 0) (len := 1) (p' := 43) (s' := [.ref 66]) rfl rfl rfl ?_
        refine ev_x (i := .aload_n 0) (len := 1) (p' := 44) (s' := [.ref 66, .ref 66]) rfl rfl rfl ?_
        refine ev_x (i := .aload_n 0) (len := 1) (p' := 45) (s' := [.ref 66, .ref 66, .ref 66]) rfl rfl rfl ?_
        refine ev_gi (p' := 48) (v := (gI p_2.2 66 8)) rfl rfl rfl ly_66 rfl rfl rfl ?_
        obtain ⟨p_4, G_4, H⟩ := F_bd H
        refine ev_cv (d := d + 12) (As := [.int (gI p_2.2 66 8)]) (a := 66) (p' := 51) rfl rfl rfl ly_66 rfl rfl rfl rfl rfl rfl rfl (F_159_ok (d := d + 10)   G_4) ?_
        refine ev_st (st' := [.int p_4.1, .ref 66]) rfl ?_
        have e_4 := F_159_R G_4
        refine ev_pi (p' := 54) rfl rfl rfl ly_66 rfl rfl rfl rfl ?_
        refine ev_x (i := .iconst 1) (len := 1) (p' := 55) (s' := [.int 1]) rfl rfl rfl ?_
        obtain rfl := Option.some.inj H
        exact ev_iret rfl rfl rfl rfl
      · refine ev_b0 (t := 56) (p' := 56) rfl rfl rfl (if_pos c_3) ?_
        refine ev_x (i := .aload_n 0) (len := 1) (p' := 57) (s' := [.ref 66]) rfl rfl rfl ?_
        obtain ⟨p_5, G_5, H⟩ := F_bd H
        refine ev_cv (d := d + 12) (As := []) (a := 66) (p' := 60) rfl rfl rfl ly_66 rfl rfl rfl rfl rfl rfl rfl (F_160_ok (d := d + 0) (hg := (Or.inr rfl)) (hx := (Or.inl rfl)) (hr_66_2 := ((congrFun (congrFun e_2 66) 2).trans ((congrFun (congrFun e_1 66) 2).trans rfl))) (hr_66_10 := ((congrFun (congrFun e_2 66) 10).trans ((congrFun (congrFun e_1 66) 10).trans hr_66_10))) G_5) ?_
        refine ev_st (st' := []) rfl ?_
        have e_5 := F_160_R G_5
        refine ev_x (i := .aload_n 0) (len := 1) (p' := 61) (s' := [.ref 66]) rfl rfl rfl ?_
        refine ev_gi (p' := 64) (v := (gI p_5 66 16)) rfl rfl rfl ly_66 rfl rfl rfl ?_
        refine F_if H (fun c_6 H => ?_) (fun c_6 H => ?_)
        · refine ev_b0 (t := 80) (p' := 80) rfl rfl rfl (if_pos c_6) ?_
          refine ev_x (i := .aload_n 0) (len := 1) (p' := 81) (s' := [.ref 66]) rfl rfl rfl ?_
          refine ev_gr (p' := 84) (v := 79) rfl rfl rfl ly_66 rfl rfl ((congrFun (congrFun e_5 66) 9).trans ((congrFun (congrFun e_2 66) 9).trans ((congrFun (congrFun e_1 66) 9).trans hr_66_9))) ?_
          refine ev_x (i := .astore_n 2) (len := 1) (p' := 85) (s' := []) (l' := [(2, .ref 79), (1, .ref 69), (0, .ref 66)]) rfl rfl rfl ?_
          refine ev_x (i := .aload_n 0) (len := 1) (p' := 86) (s' := [.ref 66]) rfl rfl rfl ?_
          refine ev_x (i := .aload_n 0) (len := 1) (p' := 87) (s' := [.ref 66, .ref 66]) rfl rfl rfl ?_
          refine ev_gr (p' := 90) (v := 115) rfl rfl rfl ly_66 rfl rfl ((congrFun (congrFun e_5 66) 10).trans ((congrFun (congrFun e_2 66) 10).trans ((congrFun (congrFun e_1 66) 10).trans hr_66_10))) ?_
          refine ev_pr (p' := 93) rfl rfl rfl ly_66 rfl rfl rfl rfl rfl ?_
          refine ev_x (i := .aload_n 0) (len := 1) (p' := 94) (s' := [.ref 66]) rfl rfl rfl ?_
          refine ev_x (i := .aload_n 2) (len := 1) (p' := 95) (s' := [.ref 79, .ref 66]) rfl rfl rfl ?_
          refine ev_pr (p' := 98) rfl rfl rfl ly_66 rfl rfl rfl rfl rfl ?_
          refine ev_x (i := .aload_n 0) (len := 1) (p' := 99) (s' := [.ref 66]) rfl rfl rfl ?_
          refine ev_x (i := .iconst 1) (len := 1) (p' := 100) (s' := [.int 1, .ref 66]) rfl rfl rfl ?_
          refine ev_pi (p' := 103) rfl rfl rfl ly_66 rfl rfl rfl rfl ?_
          refine ev_x (i := .aload_n 0) (len := 1) (p' := 104) (s' := [.ref 66]) rfl rfl rfl ?_
          refine ev_x (i := .iconst 0) (len := 1) (p' := 105) (s' := [.int 0, .ref 66]) rfl rfl rfl ?_
          refine ev_pi (p' := 108) rfl rfl rfl ly_66 rfl rfl rfl rfl ?_
          refine ev_x (i := .aload_n 0) (len := 1) (p' := 109) (s' := [.ref 66]) rfl rfl rfl ?_
          refine ev_x (i := .iconst (-1)) (len := 1) (p' := 110) (s' := [.int (-1), .ref 66]) rfl rfl rfl ?_
          refine ev_pi (p' := 113) rfl rfl rfl ly_66 rfl rfl rfl rfl ?_
          refine ev_x (i := .iconst 0) (len := 1) (p' := 114) (s' := [.int 0]) rfl rfl rfl ?_
          obtain rfl := Option.some.inj H
          exact ev_iret rfl rfl rfl rfl
        · refine ev_b0 (t := 80) (p' := 67) rfl rfl rfl (if_neg c_6) ?_
          refine ev_x (i := .aload_n 0) (len := 1) (p' := 68) (s' := [.ref 66]) rfl rfl rfl ?_
          refine ev_x (i := .aload_n 0) (len := 1) (p' := 69) (s' := [.ref 66, .ref 66]) rfl rfl rfl ?_
          refine ev_gi (p' := 72) (v := (gI p_5 66 17)) rfl rfl rfl ly_66 rfl rfl rfl ?_
          refine ev_pi (p' := 75) rfl rfl rfl ly_66 rfl rfl rfl rfl ?_
          refine ev_x (i := .aload_n 0) (len := 1) (p' := 76) (s' := [.ref 66]) rfl rfl rfl ?_
          refine ev_gi (p' := 79) (v := (gI p_5 66 16)) rfl rfl rfl ly_66 rfl rfl rfl ?_
          obtain rfl := Option.some.inj H
          exact ev_iret rfl rfl rfl rfl
    · refine ev_x (i := .aload_n 0) (len := 1) (p' := 1) (s' := [.ref 66]) rfl rfl rfl ?_
      refine ev_x (i := .iconst 0) (len := 1) (p' := 2) (s' := [.int 0, .ref 66]) rfl rfl rfl ?_
      refine ev_pi (p' := 5) rfl rfl rfl ly_66 rfl rfl rfl rfl ?_
      refine ev_x (i := .aload_n 0) (len := 1) (p' := 6) (s' := [.ref 66]) rfl rfl rfl ?_
      refine ev_gr (p' := 9) (v := 67) rfl rfl rfl ly_66 rfl rfl hr_66_2 ?_
      refine ev_x (i := .astore_n 1) (len := 1) (p' := 10) (s' := []) (l' := [(1, .ref 67), (0, .ref 66)]) rfl rfl rfl ?_
      refine ev_x (i := .aload_n 0) (len := 1) (p' := 11) (s' := [.ref 66]) rfl rfl rfl ?_
      refine ev_x (i := .aload_n 0) (len := 1) (p' := 12) (s' := [.ref 66, .ref 66]) rfl rfl rfl ?_
      refine ev_gr (p' := 15) (v := 69) rfl rfl rfl ly_66 rfl rfl hr_66_1 ?_
      refine ev_pr (p' := 18) rfl rfl rfl ly_66 rfl rfl rfl rfl rfl ?_
      refine ev_x (i := .aload_n 0) (len := 1) (p' := 19) (s' := [.ref 66]) rfl rfl rfl ?_
      refine ev_x (i := .aload_n 1) (len := 1) (p' := 20) (s' := [.ref 67, .ref 66]) rfl rfl rfl ?_
      refine ev_pr (p' := 23) rfl rfl rfl ly_66 rfl rfl rfl rfl rfl ?_
      refine ev_x (i := .aload_n 0) (len := 1) (p' := 24) (s' := [.ref 66]) rfl rfl rfl ?_
      refine ev_gr (p' := 27) (v := 67) rfl rfl rfl ly_66 rfl rfl rfl ?_
      refine ev_x (i := .iconst 0) (len := 1) (p' := 28) (s' := [.int 0, .ref 67]) rfl rfl rfl ?_
      refine ev_pi (p' := 31) rfl rfl rfl ly_67 rfl rfl rfl rfl ?_
      refine ev_x (i := .aload_n 0) (len := 1) (p' := 32) (s' := [.ref 66]) rfl rfl rfl ?_
      obtain ⟨p_1, G_1, H⟩ := F_bd H
      refine ev_cv (d := d + 12) (As := []) (a := 66) (p' := 35) rfl rfl rfl ly_66 rfl rfl rfl rfl rfl rfl rfl (F_136_ok (d := d + 2) (hx := (Or.inr rfl)) (hr_66_2 := rfl) G_1) ?_
      refine ev_st (st' := []) rfl ?_
      have e_1 := F_136_R G_1
      refine ev_x (i := .aload_n 0) (len := 1) (p' := 36) (s' := [.ref 66]) rfl rfl rfl ?_
      obtain ⟨p_2, G_2, H⟩ := F_bd H
      refine ev_cv (d := d + 12) (As := []) (a := 66) (p' := 39) rfl rfl rfl ly_66 rfl rfl rfl rfl rfl rfl rfl (F_147_ok (d := d + 7)   G_2) ?_
      refine ev_st (st' := [.int p_2.1]) rfl ?_
      have e_2 := F_147_R G_2
      refine F_if H (fun c_3 H => ?_) (fun c_3 H => ?_)
      · refine ev_b0 (t := 56) (p' := 42) rfl rfl rfl (if_neg (fun q => q c_3)) ?_
        refine ev_x (i := .aload_n 0) (len := 1) (p' := 43) (s' := [.ref 66]) rfl rfl rfl ?_
        refine ev_x (i := .aload_n 0) (len := 1) (p' := 44) (s' := [.ref 66, .ref 66]) rfl rfl rfl ?_
        refine ev_x (i := .aload_n 0) (len := 1) (p' := 45) (s' := [.ref 66, .ref 66, .ref 66]) rfl rfl rfl ?_
        refine ev_gi (p' := 48) (v := (gI p_2.2 66 8)) rfl rfl rfl ly_66 rfl rfl rfl ?_
        obtain ⟨p_4, G_4, H⟩ := F_bd H
        refine ev_cv (d := d + 12) (As := [.int (gI p_2.2 66 8)]) (a := 66) (p' := 51) rfl rfl rfl ly_66 rfl rfl rfl rfl rfl rfl rfl (F_159_ok (d := d + 10)   G_4) ?_
        refine ev_st (st' := [.int p_4.1, .ref 66]) rfl ?_
        have e_4 := F_159_R G_4
        refine ev_pi (p' := 54) rfl rfl rfl ly_66 rfl rfl rfl rfl ?_
        refine ev_x (i := .iconst 1) (len := 1) (p' := 55) (s' := [.int 1]) rfl rfl rfl ?_
        obtain rfl := Option.some.inj H
        exact ev_iret rfl rfl rfl rfl
      · refine ev_b0 (t := 56) (p' := 56) rfl rfl rfl (if_pos c_3) ?_
        refine ev_x (i := .aload_n 0) (len := 1) (p' := 57) (s' := [.ref 66]) rfl rfl rfl ?_
        obtain ⟨p_5, G_5, H⟩ := F_bd H
        refine ev_cv (d := d + 12) (As := []) (a := 66) (p' := 60) rfl rfl rfl ly_66 rfl rfl rfl rfl rfl rfl rfl (F_160_ok (d := d + 0) (hg := (Or.inr rfl)) (hx := (Or.inr rfl)) (hr_66_2 := ((congrFun (congrFun e_2 66) 2).trans ((congrFun (congrFun e_1 66) 2).trans rfl))) (hr_66_10 := ((congrFun (congrFun e_2 66) 10).trans ((congrFun (congrFun e_1 66) 10).trans hr_66_10))) G_5) ?_
        refine ev_st (st' := []) rfl ?_
        have e_5 := F_160_R G_5
        refine ev_x (i := .aload_n 0) (len := 1) (p' := 61) (s' := [.ref 66]) rfl rfl rfl ?_
        refine ev_gi (p' := 64) (v := (gI p_5 66 16)) rfl rfl rfl ly_66 rfl rfl rfl ?_
        refine F_if H (fun c_6 H => ?_) (fun c_6 H => ?_)
        · refine ev_b0 (t := 80) (p' := 80) rfl rfl rfl (if_pos c_6) ?_
          refine ev_x (i := .aload_n 0) (len := 1) (p' := 81) (s' := [.ref 66]) rfl rfl rfl ?_
          refine ev_gr (p' := 84) (v := 79) rfl rfl rfl ly_66 rfl rfl ((congrFun (congrFun e_5 66) 9).trans ((congrFun (congrFun e_2 66) 9).trans ((congrFun (congrFun e_1 66) 9).trans hr_66_9))) ?_
          refine ev_x (i := .astore_n 2) (len := 1) (p' := 85) (s' := []) (l' := [(2, .ref 79), (1, .ref 67), (0, .ref 66)]) rfl rfl rfl ?_
          refine ev_x (i := .aload_n 0) (len := 1) (p' := 86) (s' := [.ref 66]) rfl rfl rfl ?_
          refine ev_x (i := .aload_n 0) (len := 1) (p' := 87) (s' := [.ref 66, .ref 66]) rfl rfl rfl ?_
          refine ev_gr (p' := 90) (v := 115) rfl rfl rfl ly_66 rfl rfl ((congrFun (congrFun e_5 66) 10).trans ((congrFun (congrFun e_2 66) 10).trans ((congrFun (congrFun e_1 66) 10).trans hr_66_10))) ?_
          refine ev_pr (p' := 93) rfl rfl rfl ly_66 rfl rfl rfl rfl rfl ?_
          refine ev_x (i := .aload_n 0) (len := 1) (p' := 94) (s' := [.ref 66]) rfl rfl rfl ?_
          refine ev_x (i := .aload_n 2) (len := 1) (p' := 95) (s' := [.ref 79, .ref 66]) rfl rfl rfl ?_
          refine ev_pr (p' := 98) rfl rfl rfl ly_66 rfl rfl rfl rfl rfl ?_
          refine ev_x (i := .aload_n 0) (len := 1) (p' := 99) (s' := [.ref 66]) rfl rfl rfl ?_
          refine ev_x (i := .iconst 1) (len := 1) (p' := 100) (s' := [.int 1, .ref 66]) rfl rfl rfl ?_
          refine ev_pi (p' := 103) rfl rfl rfl ly_66 rfl rfl rfl rfl ?_
          refine ev_x (i := .aload_n 0) (len := 1) (p' := 104) (s' := [.ref 66]) rfl rfl rfl ?_
          refine ev_x (i := .iconst 0) (len := 1) (p' := 105) (s' := [.int 0, .ref 66]) rfl rfl rfl ?_
          refine ev_pi (p' := 108) rfl rfl rfl ly_66 rfl rfl rfl rfl ?_
          refine ev_x (i := .aload_n 0) (len := 1) (p' := 109) (s' := [.ref 66]) rfl rfl rfl ?_
          refine ev_x (i := .iconst (-1)) (len := 1) (p' := 110) (s' := [.int (-1), .ref 66]) rfl rfl rfl ?_
          refine ev_pi (p' := 113) rfl rfl rfl ly_66 rfl rfl rfl rfl ?_
          refine ev_x (i := .iconst 0) (len := 1) (p' := 114) (s' := [.int 0]) rfl rfl rfl ?_
          obtain rfl := Option.some.inj H
          exact ev_iret rfl rfl rfl rfl
        · refine ev_b0 (t := 80) (p' := 67) rfl rfl rfl (if_neg c_6) ?_
          refine ev_x (i := .aload_n 0) (len := 1) (p' := 68) (s' := [.ref 66]) rfl rfl rfl ?_
          refine ev_x (i := .aload_n 0) (len := 1) (p' := 69) (s' := [.ref 66, .ref 66]) rfl rfl rfl ?_
          refine ev_gi (p' := 72) (v := (gI p_5 66 17)) rfl rfl rfl ly_66 rfl rfl rfl ?_
          refine ev_pi (p' := 75) rfl rfl rfl ly_66 rfl rfl rfl rfl ?_
          refine ev_x (i := .aload_n 0) (len := 1) (p' := 76) (s' := [.ref 66]) rfl rfl rfl ?_
          refine ev_gi (p' := 79) (v := (gI p_5 66 16)) rfl rfl rfl ly_66 rfl rfl rfl ?_
          obtain rfl := Option.some.inj H
          exact ev_iret rfl rfl rfl rfl
