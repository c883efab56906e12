/-! methods as functions of the store. Written by wip/prog/dec2.py, gen_all.py -/
/-- GameTextModel.parts(I)I, its loops -/
def L_181 (N : Nat) (g : Nat) : Nat → Int32 → Int32 → st_S → Option (Int32 × st_S)
  | 0, _, _, _ => none
  | k + 1, l_2, l_3, σ =>
      if l_3 < 0 then
        some (l_2, σ)
      else
        (N_139 N (g + 11) l_3 (σ)).bind fun p_3 =>
        L_181 N g k (l_2 + 1) p_3.1 (p_3.2)
set_option maxRecDepth 100000 in
theorem L_181_R {N : Nat} {g : Nat} : ∀ (k : Nat) (l_2 : Int32) (l_3 : Int32) (σ : st_S) (p : Int32 × st_S), L_181 N g k l_2 l_3 σ = some p → gR p.2 = gR σ := by
  intro k
  induction k with
  | zero => intro l_2 l_3 σ p H; unfold L_181 at H; cases H
  | succ k ih =>
    intro l_2 l_3 σ p H
    unfold L_181 at H
    refine F_if H (fun _ H => ?_) (fun _ H => ?_)
    · obtain rfl := Option.some.inj H
      exact rfl
    · obtain ⟨p_3, G_3, H⟩ := F_bd H
      exact (((ih _ _ _ _ H)).trans ((N_139_R G_3).trans rfl))
set_option maxHeartbeats 4000000 in
set_option maxRecDepth 100000 in
theorem L_181_ok {N d : Nat} {g : Nat} (hg : g = 79 ∨ g = 115) : ∀ k : Nat, ∀ (l_2 : Int32) (l_3 : Int32) (σ : st_S) (lv : vz_L) (p : Int32 × st_S), vz_g lv 0 = some (.ref 66) → vz_g lv 2 = some (.int l_2) → vz_g lv 3 = some (.int l_3) → vz_nbL (vz_gr P0) lv = true → gR σ 66 10 = g → L_181 N g k l_2 l_3 σ = some p → vz_ev P0 (d + 2) 181 14 lv [] (hp σ) (.inl (some (.int p.1)), hp p.2) := by
  rcases hg with rfl | rfl
  · intro k
    induction k with
    | zero => intro l_2 l_3 σ lv p g_0 g_2 g_3 hnb hr_66_10 H; unfold L_181 at H; cases H
    | succ k ih =>
      intro l_2 l_3 σ lv p g_0 g_2 g_3 hnb hr_66_10 H
      unfold L_181 at H
      refine ev_x (i := .iload_n 3) (len := 1) (p' := 15) (s' := [.int l_3]) rfl rfl (ld_i g_3) ?_
      refine F_if H (fun c_2 H => ?_) (fun c_2 H => ?_)
      · refine ev_b0 (t := 36) (p' := 36) rfl rfl rfl (if_pos c_2) ?_
        refine ev_x (i := .iload_n 2) (len := 1) (p' := 37) (s' := [.int l_2]) rfl rfl (ld_i g_2) ?_
        obtain rfl := Option.some.inj H
        exact ev_iret rfl rfl rfl rfl
      · refine ev_b0 (t := 36) (p' := 18) rfl rfl rfl (if_neg c_2) ?_
        refine ev_x (i := .iinc 2 1) (len := 3) (p' := 21) (s' := []) (l' := vz_s1 (lv) 2 (.int (l_2 + 1))) rfl rfl (ld_inc g_2 rfl) ?_
        refine ev_x (i := .aload_n 0) (len := 1) (p' := 22) (s' := [.ref 66]) rfl rfl (ld_a (vg_o (i := 2) (v := .int (l_2 + 1)) g_0 (by decide) (Or.inl rfl))) ?_
        refine ev_gr (p' := 25) (v := 79) rfl rfl rfl ly_66 rfl rfl hr_66_10 ?_
        refine ev_gc (p' := 28) (v := 90) rfl rfl rfl ly_79 rfl rfl ?_
        refine ev_x (i := .iload_n 3) (len := 1) (p' := 29) (s' := [.int l_3, .ref 90]) rfl rfl (ld_i (vg_o (i := 2) (v := .int (l_2 + 1)) g_3 (by decide) (Or.inl rfl))) ?_
        obtain ⟨p_3, G_3, H⟩ := F_bd H
        refine ev_cv (d := d + 1) (As := [.int l_3]) (a := 90) (p' := 32) rfl rfl rfl ly_90 rfl rfl rfl rfl rfl (nb_s1 hnb rfl) rfl (N_139_ok (d := d + 0) nm_90 G_3) ?_
        refine ev_st (st' := [.int p_3.1]) rfl ?_
        have e_3 := N_139_R G_3
        refine ev_x (i := .istore_n 3) (len := 1) (p' := 33) (s' := []) (l' := vz_s1 (vz_s1 (lv) 2 (.int (l_2 + 1))) 3 (.int p_3.1)) rfl rfl rfl ?_
        refine ev_x (i := .goto (-19)) (len := 3) (p' := 14) (s' := []) rfl rfl rfl ?_
        exact ih _ _ _ _ _ (vg_o (i := 3) (v := .int p_3.1) (vg_o (i := 2) (v := .int (l_2 + 1)) g_0 (by decide) (Or.inl rfl)) (by decide) (Or.inl rfl)) (vg_o (i := 3) (v := .int p_3.1) (vg_s (lv) 2 (.int (l_2 + 1))) (by decide) (Or.inl rfl)) (vg_s (vz_s1 (lv) 2 (.int (l_2 + 1))) 3 (.int p_3.1)) (nb_s1 (nb_s1 hnb rfl) rfl) ((congrFun (congrFun e_3 66) 10).trans hr_66_10) H
  · intro k
    induction k with
    | zero => intro l_2 l_3 σ lv p g_0 g_2 g_3 hnb hr_66_10 H; unfold L_181 at H; cases H
    | succ k ih =>
      intro l_2 l_3 σ lv p g_0 g_2 g_3 hnb hr_66_10 H
      unfold L_181 at H
      refine ev_x (i := .iload_n 3) (len := 1) (p' := 15) (s' := [.int l_3]) rfl rfl (ld_i g_3) ?_
      refine F_if H (fun c_2 H => ?_) (fun c_2 H => ?_)
      · refine ev_b0 (t := 36) (p' := 36) rfl rfl rfl (if_pos c_2) ?_
        refine ev_x (i := .iload_n 2) (len := 1) (p' := 37) (s' := [.int l_2]) rfl rfl (ld_i g_2) ?_
        obtain rfl := Option.some.inj H
        exact ev_iret rfl rfl rfl rfl
      · refine ev_b0 (t := 36) (p' := 18) rfl rfl rfl (if_neg c_2) ?_
        refine ev_x (i := .iinc 2 1) (len := 3) (p' := 21) (s' := []) (l' := vz_s1 (lv) 2 (.int (l_2 + 1))) rfl rfl (ld_inc g_2 rfl) ?_
        refine ev_x (i := .aload_n 0) (len := 1) (p' := 22) (s' := [.ref 66]) rfl rfl (ld_a (vg_o (i := 2) (v := .int (l_2 + 1)) g_0 (by decide) (Or.inl rfl))) ?_
        refine ev_gr (p' := 25) (v := 115) rfl rfl rfl ly_66 rfl rfl hr_66_10 ?_
        refine ev_gc (p' := 28) (v := 126) rfl rfl rfl ly_115 rfl rfl ?_
        refine ev_x (i := .iload_n 3) (len := 1) (p' := 29) (s' := [.int l_3, .ref 126]) rfl rfl (ld_i (vg_o (i := 2) (v := .int (l_2 + 1)) g_3 (by decide) (Or.inl rfl))) ?_
        obtain ⟨p_3, G_3, H⟩ := F_bd H
        refine ev_cv (d := d + 1) (As := [.int l_3]) (a := 126) (p' := 32) rfl rfl rfl ly_126 rfl rfl rfl rfl rfl (nb_s1 hnb rfl) rfl (N_139_ok (d := d + 0) nm_126 G_3) ?_
        refine ev_st (st' := [.int p_3.1]) rfl ?_
        have e_3 := N_139_R G_3
        refine ev_x (i := .istore_n 3) (len := 1) (p' := 33) (s' := []) (l' := vz_s1 (vz_s1 (lv) 2 (.int (l_2 + 1))) 3 (.int p_3.1)) rfl rfl rfl ?_
        refine ev_x (i := .goto (-19)) (len := 3) (p' := 14) (s' := []) rfl rfl rfl ?_
        exact ih _ _ _ _ _ (vg_o (i := 3) (v := .int p_3.1) (vg_o (i := 2) (v := .int (l_2 + 1)) g_0 (by decide) (Or.inl rfl)) (by decide) (Or.inl rfl)) (vg_o (i := 3) (v := .int p_3.1) (vg_s (lv) 2 (.int (l_2 + 1))) (by decide) (Or.inl rfl)) (vg_s (vz_s1 (lv) 2 (.int (l_2 + 1))) 3 (.int p_3.1)) (nb_s1 (nb_s1 hnb rfl) rfl) ((congrFun (congrFun e_3 66) 10).trans hr_66_10) H
/-- GameTextModel.parts(I)I -/
def F_181 (N : Nat) (g : Nat) (x_1 : Int32) (σ : st_S) : Option (Int32 × st_S) :=
  (N_139 N (g + 9) x_1 (σ)).bind fun p_1 =>
  L_181 N g N 0 p_1.1 (p_1.2)
set_option maxRecDepth 100000 in
theorem F_181_R {N : Nat} {g : Nat} {x_1 : Int32} {σ : st_S} {p : Int32 × st_S} (H : F_181 N g x_1 σ = some p) : gR p.2 = gR σ := by
  unfold F_181 at H
  obtain ⟨p_1, G_1, H⟩ := F_bd H
  exact (((L_181_R _ _ _ _ _ H)).trans ((N_139_R G_1).trans rfl))
set_option maxHeartbeats 4000000 in
set_option maxRecDepth 100000 in
theorem F_181_ok {N d : Nat} {g : Nat} (hg : g = 79 ∨ g = 115) {x_1 : Int32} {σ : st_S} {p : Int32 × st_S} (hr_66_10 : gR σ 66 10 = g) (H : F_181 N g x_1 σ = some p) : vz_ev P0 (d + 2) 181 0 (lv_args 0 [.ref 66, .int x_1]) [] (hp σ) (.inl (some (.int p.1)), hp p.2) := by
  unfold F_181 at H
  rcases hg with rfl | rfl
  · refine ev_x (i := .iconst 0) (len := 1) (p' := 1) (s' := [.int 0]) rfl rfl rfl ?_
    refine ev_x (i := .istore_n 2) (len := 1) (p' := 2) (s' := []) (l' := [(2, .int 0), (0, .ref 66), (1, .int x_1)]) rfl rfl rfl ?_
    refine ev_x (i := .aload_n 0) (len := 1) (p' := 3) (s' := [.ref 66]) rfl rfl rfl ?_
    refine ev_gr (p' := 6) (v := 79) rfl rfl rfl ly_66 rfl rfl hr_66_10 ?_
    refine ev_gc (p' := 9) (v := 88) rfl rfl rfl ly_79 rfl rfl ?_
    refine ev_x (i := .iload_n 1) (len := 1) (p' := 10) (s' := [.int x_1, .ref 88]) rfl rfl rfl ?_
    obtain ⟨p_1, G_1, H⟩ := F_bd H
    refine ev_cv (d := d + 1) (As := [.int x_1]) (a := 88) (p' := 13) rfl rfl rfl ly_88 rfl rfl rfl rfl rfl rfl rfl (N_139_ok (d := d + 0) nm_88 G_1) ?_
    refine ev_st (st' := [.int p_1.1]) rfl ?_
    have e_1 := N_139_R G_1
    refine ev_x (i := .istore_n 3) (len := 1) (p' := 14) (s' := []) (l' := [(3, .int p_1.1), (2, .int 0), (0, .ref 66), (1, .int x_1)]) rfl rfl rfl ?_
    exact (L_181_ok (d := d) (Or.inl rfl) N) _ _ _ _ _ rfl rfl rfl rfl ((congrFun (congrFun e_1 66) 10).trans hr_66_10) H
  · refine ev_x (i := .iconst 0) (len := 1) (p' := 1) (s' := [.int 0]) rfl rfl rfl ?_
    refine ev_x (i := .istore_n 2) (len := 1) (p' := 2) (s' := []) (l' := [(2, .int 0), (0, .ref 66), (1, .int x_1)]) rfl rfl rfl ?_
    refine ev_x (i := .aload_n 0) (len := 1) (p' := 3) (s' := [.ref 66]) rfl rfl rfl ?_
    refine ev_gr (p' := 6) (v := 115) rfl rfl rfl ly_66 rfl rfl hr_66_10 ?_
    refine ev_gc (p' := 9) (v := 124) rfl rfl rfl ly_115 rfl rfl ?_
    refine ev_x (i := .iload_n 1) (len := 1) (p' := 10) (s' := [.int x_1, .ref 124]) rfl rfl rfl ?_
    obtain ⟨p_1, G_1, H⟩ := F_bd H
    refine ev_cv (d := d + 1) (As := [.int x_1]) (a := 124) (p' := 13) rfl rfl rfl ly_124 rfl rfl rfl rfl rfl rfl rfl (N_139_ok (d := d + 0) nm_124 G_1) ?_
    refine ev_st (st' := [.int p_1.1]) rfl ?_
    have e_1 := N_139_R G_1
    refine ev_x (i := .istore_n 3) (len := 1) (p' := 14) (s' := []) (l' := [(3, .int p_1.1), (2, .int 0), (0, .ref 66), (1, .int x_1)]) rfl rfl rfl ?_
    exact (L_181_ok (d := d) (Or.inr rfl) N) _ _ _ _ _ rfl rfl rfl rfl ((congrFun (congrFun e_1 66) 10).trans hr_66_10) H
/-- GameTextModel.lookUp(IZ)I, from 54 -/
def J_182_54 (N : Nat) (g : Nat) (x : Nat) (l_1 : Int32) (l_3 : Int32) (σ : st_S) : Option (Int32 × st_S) :=
  (N_139 N 155 l_3 (σ)).bind fun p_9 =>
  (N_139 N 153 l_3 (p_9.2)).bind fun p_10 =>
  if aB l_1 (gN p_10.2 (g + 8)) then
  (N_139 N 153 l_3 (st_e (p_10.2) (g + 8) ((l_1 : Int32).toNatClampNeg) (if p_10.1 = 3 then (100 + p_9.1) else p_9.1 : Int32))).bind fun p_13 =>
  if p_13.1 = 3 then
    if aB p_9.1 (gN p_13.2 (g + 18)) then
    some ((if (gE (p_13.2) (g + 18) (p_9.1 : Int32).toNatClampNeg) = 0 then 0 else 1 : Int32), p_13.2)
    else none
  else
    if aB p_9.1 (gN p_13.2 (g + 14)) then
    some ((if (gE (p_13.2) (g + 14) (p_9.1 : Int32).toNatClampNeg) = 0 then 0 else 1 : Int32), p_13.2)
    else none
  else none
set_option maxRecDepth 100000 in
theorem J_182_54_R {N : Nat} {g : Nat} {x : Nat} {l_1 : Int32} {l_3 : Int32} {σ : st_S} {p : Int32 × st_S} (H : J_182_54 N g x l_1 l_3 σ = some p) : gR p.2 = gR σ := by
  unfold J_182_54 at H
  obtain ⟨p_9, G_9, H⟩ := F_bd H
  obtain ⟨p_10, G_10, H⟩ := F_bd H
  obtain ⟨_, H⟩ := F_gd H
  obtain ⟨p_13, G_13, H⟩ := F_bd H
  refine F_if H (fun _ H => ?_) (fun _ H => ?_)
  · obtain ⟨_, H⟩ := F_gd H
    obtain rfl := Option.some.inj H
    exact ((N_139_R G_13).trans ((N_139_R G_10).trans ((N_139_R G_9).trans rfl)))
  · obtain ⟨_, H⟩ := F_gd H
    obtain rfl := Option.some.inj H
    exact ((N_139_R G_13).trans ((N_139_R G_10).trans ((N_139_R G_9).trans rfl)))
set_option maxHeartbeats 4000000 in
set_option maxRecDepth 100000 in
theorem J_182_54_ok {N d : Nat} {g : Nat} (hg : g = 79 ∨ g = 115) {x : Nat} (hx : x = 67 ∨ x = 69) {l_1 : Int32} {l_3 : Int32} {σ : st_S} {lv : vz_L} {p : Int32 × st_S} (g_0 : vz_g lv 0 = some (.ref 66)) (g_1 : vz_g lv 1 = some (.int l_1)) (g_3 : vz_g lv 3 = some (.int l_3)) (hnb : vz_nbL (vz_gr P0) lv = true) (hr_66_2 : gR σ 66 2 = x) (hr_66_10 : gR σ 66 10 = g) (H : J_182_54 N g x l_1 l_3 σ = some p) : vz_ev P0 (d + 5) 182 54 lv [] (hp σ) (.inl (some (.int p.1)), hp p.2) := by
  unfold J_182_54 at H
  rcases hg with rfl | rfl
  · refine ev_x (i := .aload_n 0) (len := 1) (p' := 55) (s' := [.ref 66]) rfl rfl (ld_a g_0) ?_
    refine ev_gc (p' := 58) (v := 155) rfl rfl rfl ly_66 rfl rfl ?_
    refine ev_x (i := .iload_n 3) (len := 1) (p' := 59) (s' := [.int l_3, .ref 155]) rfl rfl (ld_i g_3) ?_
    obtain ⟨p_9, G_9, H⟩ := F_bd H
    refine ev_cv (d := d + 4) (As := [.int l_3]) (a := 155) (p' := 62) rfl rfl rfl ly_155 rfl rfl rfl rfl rfl hnb rfl (N_139_ok (d := d + 3) nm_155 G_9) ?_
    refine ev_st (st' := [.int p_9.1]) rfl ?_
    have e_9 := N_139_R G_9
    refine ev_x (i := .istore 4) (len := 2) (p' := 64) (s' := []) (l' := vz_s1 (lv) 4 (.int p_9.1)) rfl rfl rfl ?_
    refine ev_x (i := .aload_n 0) (len := 1) (p' := 65) (s' := [.ref 66]) rfl rfl (ld_a (vg_o (i := 4) (v := .int p_9.1) g_0 (by decide) (Or.inl rfl))) ?_
    refine ev_gr (p' := 68) (v := 79) rfl rfl rfl ly_66 rfl rfl ((congrFun (congrFun e_9 66) 10).trans hr_66_10) ?_
    refine ev_gc (p' := 71) (v := 86) rfl rfl rfl ly_79 rfl rfl ?_
    refine ev_gc (p' := 74) (v := 87) rfl rfl rfl ly_86 rfl rfl ?_
    refine ev_x (i := .iload_n 1) (len := 1) (p' := 75) (s' := [.int l_1, .ref 87]) rfl rfl (ld_i (vg_o (i := 4) (v := .int p_9.1) g_1 (by decide) (Or.inl rfl))) ?_
    refine ev_x (i := .aload_n 0) (len := 1) (p' := 76) (s' := [.ref 66, .int l_1, .ref 87]) rfl rfl (ld_a (vg_o (i := 4) (v := .int p_9.1) g_0 (by decide) (Or.inl rfl))) ?_
    refine ev_gc (p' := 79) (v := 153) rfl rfl rfl ly_66 rfl rfl ?_
    refine ev_x (i := .iload_n 3) (len := 1) (p' := 80) (s' := [.int l_3, .ref 153, .int l_1, .ref 87]) rfl rfl (ld_i (vg_o (i := 4) (v := .int p_9.1) g_3 (by decide) (Or.inl rfl))) ?_
    obtain ⟨p_10, G_10, H⟩ := F_bd H
    refine ev_cv (d := d + 4) (As := [.int l_3]) (a := 153) (p' := 83) rfl rfl rfl ly_153 rfl rfl rfl rfl rfl (nb_s1 hnb rfl) rfl (N_139_ok (d := d + 3) nm_153 G_10) ?_
    refine ev_st (st' := [.int p_10.1, .int l_1, .ref 87]) rfl ?_
    have e_10 := N_139_R G_10
    refine ev_x (i := .iconst 3) (len := 1) (p' := 84) (s' := [.int 3, .int p_10.1, .int l_1, .ref 87]) rfl rfl rfl ?_
    refine F_jn (A := vz_ev P0 (d + 5) 182 97 (vz_s1 (lv) 4 (.int p_9.1)) [.int (if p_10.1 = 3 then (100 + p_9.1) else p_9.1 : Int32), .int l_1, .ref 87] (hp (p_10.2)) (.inl (some (.int p.1)), hp p.2)) ?_ (fun J => ?_)
    · obtain ⟨b_12, H⟩ := F_gd H
      refine ev_pa (j := (l_1 : Int32).toNatClampNeg) (p' := 98) rfl rfl ly_87 rfl (gd_in b_12) rfl ?_
      refine ev_x (i := .aload_n 0) (len := 1) (p' := 99) (s' := [.ref 66]) rfl rfl (ld_a (vg_o (i := 4) (v := .int p_9.1) g_0 (by decide) (Or.inl rfl))) ?_
      refine ev_gc (p' := 102) (v := 153) rfl rfl rfl ly_66 rfl rfl ?_
      refine ev_x (i := .iload_n 3) (len := 1) (p' := 103) (s' := [.int l_3, .ref 153]) rfl rfl (ld_i (vg_o (i := 4) (v := .int p_9.1) g_3 (by decide) (Or.inl rfl))) ?_
      obtain ⟨p_13, G_13, H⟩ := F_bd H
      refine ev_cv (d := d + 4) (As := [.int l_3]) (a := 153) (p' := 106) rfl rfl rfl ly_153 rfl rfl rfl rfl rfl (nb_s1 hnb rfl) rfl (N_139_ok (d := d + 3) nm_153 G_13) ?_
      refine ev_st (st' := [.int p_13.1]) rfl ?_
      have e_13 := N_139_R G_13
      refine ev_x (i := .iconst 3) (len := 1) (p' := 107) (s' := [.int 3, .int p_13.1]) rfl rfl rfl ?_
      refine F_if H (fun c_14 H => ?_) (fun c_14 H => ?_)
      · refine ev_b2 (t := 123) (p' := 110) rfl rfl rfl (if_neg (fun q => q c_14)) ?_
        refine ev_x (i := .aload_n 0) (len := 1) (p' := 111) (s' := [.ref 66]) rfl rfl (ld_a (vg_o (i := 4) (v := .int p_9.1) g_0 (by decide) (Or.inl rfl))) ?_
        refine ev_gr (p' := 114) (v := 79) rfl rfl rfl ly_66 rfl rfl ((congrFun (congrFun e_13 66) 10).trans ((congrFun (congrFun e_10 66) 10).trans ((congrFun (congrFun e_9 66) 10).trans hr_66_10))) ?_
        refine ev_gc (p' := 117) (v := 97) rfl rfl rfl ly_79 rfl rfl ?_
        refine ev_x (i := .iload 4) (len := 2) (p' := 119) (s' := [.int p_9.1, .ref 97]) rfl rfl (ld_i (vg_s (lv) 4 (.int p_9.1))) ?_
        obtain ⟨b_15, H⟩ := F_gd H
        refine ev_gb (p' := 120) (v := (gE (p_13.2) 97 (p_9.1 : Int32).toNatClampNeg)) rfl rfl ly_97 rfl (gd_in b_15) rfl ?_
        refine ev_x (i := .goto 13) (len := 3) (p' := 133) (s' := [.int (gE (p_13.2) 97 (p_9.1 : Int32).toNatClampNeg)]) rfl rfl rfl ?_
        refine ev_x (i := .istore 5) (len := 2) (p' := 135) (s' := []) (l' := vz_s1 (vz_s1 (lv) 4 (.int p_9.1)) 5 (.int (gE (p_13.2) 97 (p_9.1 : Int32).toNatClampNeg))) rfl rfl rfl ?_
        refine ev_x (i := .iload 5) (len := 2) (p' := 137) (s' := [.int (gE (p_13.2) 97 (p_9.1 : Int32).toNatClampNeg)]) rfl rfl (ld_i (vg_s (vz_s1 (lv) 4 (.int p_9.1)) 5 (.int (gE (p_13.2) 97 (p_9.1 : Int32).toNatClampNeg)))) ?_
        refine F_jn (A := vz_ev P0 (d + 5) 182 145 (vz_s1 (vz_s1 (lv) 4 (.int p_9.1)) 5 (.int (gE (p_13.2) 97 (p_9.1 : Int32).toNatClampNeg))) [.int (if (gE (p_13.2) 97 (p_9.1 : Int32).toNatClampNeg) = 0 then 0 else 1 : Int32)] (hp (p_13.2)) (.inl (some (.int p.1)), hp p.2)) ?_ (fun J => ?_)
        · obtain rfl := Option.some.inj H
          exact ev_iret rfl rfl rfl rfl
        · by_cases c_16 : (gE (p_13.2) 97 (p_9.1 : Int32).toNatClampNeg) = 0
          · refine ev_b0 (t := 144) (p' := 144) rfl rfl rfl (if_pos c_16) ?_
            refine ev_x (i := .iconst 0) (len := 1) (p' := 145) (s' := [.int 0]) rfl rfl rfl ?_
            exact ev_st (congrArg (fun z => Value.int z :: []) (by rw [if_pos c_16])) J
          · refine ev_b0 (t := 144) (p' := 140) rfl rfl rfl (if_neg c_16) ?_
            refine ev_x (i := .iconst 1) (len := 1) (p' := 141) (s' := [.int 1]) rfl rfl rfl ?_
            refine ev_x (i := .goto 4) (len := 3) (p' := 145) (s' := [.int 1]) rfl rfl rfl ?_
            exact ev_st (congrArg (fun z => Value.int z :: []) (by rw [if_neg c_16])) J
      · refine ev_b2 (t := 123) (p' := 123) rfl rfl rfl (if_pos c_14) ?_
        refine ev_x (i := .aload_n 0) (len := 1) (p' := 124) (s' := [.ref 66]) rfl rfl (ld_a (vg_o (i := 4) (v := .int p_9.1) g_0 (by decide) (Or.inl rfl))) ?_
        refine ev_gr (p' := 127) (v := 79) rfl rfl rfl ly_66 rfl rfl ((congrFun (congrFun e_13 66) 10).trans ((congrFun (congrFun e_10 66) 10).trans ((congrFun (congrFun e_9 66) 10).trans hr_66_10))) ?_
        refine ev_gc (p' := 130) (v := 93) rfl rfl rfl ly_79 rfl rfl ?_
        refine ev_x (i := .iload 4) (len := 2) (p' := 132) (s' := [.int p_9.1, .ref 93]) rfl rfl (ld_i (vg_s (lv) 4 (.int p_9.1))) ?_
        obtain ⟨b_17, H⟩ := F_gd H
        refine ev_gb (p' := 133) (v := (gE (p_13.2) 93 (p_9.1 : Int32).toNatClampNeg)) rfl rfl ly_93 rfl (gd_in b_17) rfl ?_
        refine ev_x (i := .istore 5) (len := 2) (p' := 135) (s' := []) (l' := vz_s1 (vz_s1 (lv) 4 (.int p_9.1)) 5 (.int (gE (p_13.2) 93 (p_9.1 : Int32).toNatClampNeg))) rfl rfl rfl ?_
        refine ev_x (i := .iload 5) (len := 2) (p' := 137) (s' := [.int (gE (p_13.2) 93 (p_9.1 : Int32).toNatClampNeg)]) rfl rfl (ld_i (vg_s (vz_s1 (lv) 4 (.int p_9.1)) 5 (.int (gE (p_13.2) 93 (p_9.1 : Int32).toNatClampNeg)))) ?_
        refine F_jn (A := vz_ev P0 (d + 5) 182 145 (vz_s1 (vz_s1 (lv) 4 (.int p_9.1)) 5 (.int (gE (p_13.2) 93 (p_9.1 : Int32).toNatClampNeg))) [.int (if (gE (p_13.2) 93 (p_9.1 : Int32).toNatClampNeg) = 0 then 0 else 1 : Int32)] (hp (p_13.2)) (.inl (some (.int p.1)), hp p.2)) ?_ (fun J => ?_)
        · obtain rfl := Option.some.inj H
          exact ev_iret rfl rfl rfl rfl
        · by_cases c_18 : (gE (p_13.2) 93 (p_9.1 : Int32).toNatClampNeg) = 0
          · refine ev_b0 (t := 144) (p' := 144) rfl rfl rfl (if_pos c_18) ?_
            refine ev_x (i := .iconst 0) (len := 1) (p' := 145) (s' := [.int 0]) rfl rfl rfl ?_
            exact ev_st (congrArg (fun z => Value.int z :: []) (by rw [if_pos c_18])) J
          · refine ev_b0 (t := 144) (p' := 140) rfl rfl rfl (if_neg c_18) ?_
            refine ev_x (i := .iconst 1) (len := 1) (p' := 141) (s' := [.int 1]) rfl rfl rfl ?_
            refine ev_x (i := .goto 4) (len := 3) (p' := 145) (s' := [.int 1]) rfl rfl rfl ?_
            exact ev_st (congrArg (fun z => Value.int z :: []) (by rw [if_neg c_18])) J
    · by_cases c_11 : p_10.1 = 3
      · refine ev_b2 (t := 95) (p' := 87) rfl rfl rfl (if_neg (fun q => q c_11)) ?_
        refine ev_x (i := .bipush 100) (len := 2) (p' := 89) (s' := [.int 100, .int l_1, .ref 87]) rfl rfl rfl ?_
        refine ev_x (i := .iload 4) (len := 2) (p' := 91) (s' := [.int p_9.1, .int 100, .int l_1, .ref 87]) rfl rfl (ld_i (vg_s (lv) 4 (.int p_9.1))) ?_
        refine ev_x (i := .iadd) (len := 1) (p' := 92) (s' := [.int (100 + p_9.1), .int l_1, .ref 87]) rfl rfl rfl ?_
        refine ev_x (i := .goto 5) (len := 3) (p' := 97) (s' := [.int (100 + p_9.1), .int l_1, .ref 87]) rfl rfl rfl ?_
        exact ev_st (congrArg (fun z => Value.int z :: [.int l_1, .ref 87]) (by rw [if_pos c_11])) J
      · refine ev_b2 (t := 95) (p' := 95) rfl rfl rfl (if_pos c_11) ?_
        refine ev_x (i := .iload 4) (len := 2) (p' := 97) (s' := [.int p_9.1, .int l_1, .ref 87]) rfl rfl (ld_i (vg_s (lv) 4 (.int p_9.1))) ?_
        exact ev_st (congrArg (fun z => Value.int z :: [.int l_1, .ref 87]) (by rw [if_neg c_11])) J
  · refine ev_x (i := .aload_n 0) (len := 1) (p' := 55) (s' := [.ref 66]) rfl rfl (ld_a g_0) ?_
    refine ev_gc (p' := 58) (v := 155) rfl rfl rfl ly_66 rfl rfl ?_
    refine ev_x (i := .iload_n 3) (len := 1) (p' := 59) (s' := [.int l_3, .ref 155]) rfl rfl (ld_i g_3) ?_
    obtain ⟨p_9, G_9, H⟩ := F_bd H
    refine ev_cv (d := d + 4) (As := [.int l_3]) (a := 155) (p' := 62) rfl rfl rfl ly_155 rfl rfl rfl rfl rfl hnb rfl (N_139_ok (d := d + 3) nm_155 G_9) ?_
    refine ev_st (st' := [.int p_9.1]) rfl ?_
    have e_9 := N_139_R G_9
    refine ev_x (i := .istore 4) (len := 2) (p' := 64) (s' := []) (l' := vz_s1 (lv) 4 (.int p_9.1)) rfl rfl rfl ?_
    refine ev_x (i := .aload_n 0) (len := 1) (p' := 65) (s' := [.ref 66]) rfl rfl (ld_a (vg_o (i := 4) (v := .int p_9.1) g_0 (by decide) (Or.inl rfl))) ?_
    refine ev_gr (p' := 68) (v := 115) rfl rfl rfl ly_66 rfl rfl ((congrFun (congrFun e_9 66) 10).trans hr_66_10) ?_
    refine ev_gc (p' := 71) (v := 122) rfl rfl rfl ly_115 rfl rfl ?_
    refine ev_gc (p' := 74) (v := 123) rfl rfl rfl ly_122 rfl rfl ?_
    refine ev_x (i := .iload_n 1) (len := 1) (p' := 75) (s' := [.int l_1, .ref 123]) rfl rfl (ld_i (vg_o (i := 4) (v := .int p_9.1) g_1 (by decide) (Or.inl rfl))) ?_
    refine ev_x (i := .aload_n 0) (len := 1) (p' := 76) (s' := [.ref 66, .int l_1, .ref 123]) rfl rfl (ld_a (vg_o (i := 4) (v := .int p_9.1) g_0 (by decide) (Or.inl rfl))) ?_
    refine ev_gc (p' := 79) (v := 153) rfl rfl rfl ly_66 rfl rfl ?_
    refine ev_x (i := .iload_n 3) (len := 1) (p' := 80) (s' := [.int l_3, .ref 153, .int l_1, .ref 123]) rfl rfl (ld_i (vg_o (i := 4) (v := .int p_9.1) g_3 (by decide) (Or.inl rfl))) ?_
    obtain ⟨p_10, G_10, H⟩ := F_bd H
    refine ev_cv (d := d + 4) (As := [.int l_3]) (a := 153) (p' := 83) rfl rfl rfl ly_153 rfl rfl rfl rfl rfl (nb_s1 hnb rfl) rfl (N_139_ok (d := d + 3) nm_153 G_10) ?_
    refine ev_st (st' := [.int p_10.1, .int l_1, .ref 123]) rfl ?_
    have e_10 := N_139_R G_10
    refine ev_x (i := .iconst 3) (len := 1) (p' := 84) (s' := [.int 3, .int p_10.1, .int l_1, .ref 123]) rfl rfl rfl ?_
    refine F_jn (A := vz_ev P0 (d + 5) 182 97 (vz_s1 (lv) 4 (.int p_9.1)) [.int (if p_10.1 = 3 then (100 + p_9.1) else p_9.1 : Int32), .int l_1, .ref 123] (hp (p_10.2)) (.inl (some (.int p.1)), hp p.2)) ?_ (fun J => ?_)
    · obtain ⟨b_12, H⟩ := F_gd H
      refine ev_pa (j := (l_1 : Int32).toNatClampNeg) (p' := 98) rfl rfl ly_123 rfl (gd_in b_12) rfl ?_
      refine ev_x (i := .aload_n 0) (len := 1) (p' := 99) (s' := [.ref 66]) rfl rfl (ld_a (vg_o (i := 4) (v := .int p_9.1) g_0 (by decide) (Or.inl rfl))) ?_
      refine ev_gc (p' := 102) (v := 153) rfl rfl rfl ly_66 rfl rfl ?_
      refine ev_x (i := .iload_n 3) (len := 1) (p' := 103) (s' := [.int l_3, .ref 153]) rfl rfl (ld_i (vg_o (i := 4) (v := .int p_9.1) g_3 (by decide) (Or.inl rfl))) ?_
      obtain ⟨p_13, G_13, H⟩ := F_bd H
      refine ev_cv (d := d + 4) (As := [.int l_3]) (a := 153) (p' := 106) rfl rfl rfl ly_153 rfl rfl rfl rfl rfl (nb_s1 hnb rfl) rfl (N_139_ok (d := d + 3) nm_153 G_13) ?_
      refine ev_st (st' := [.int p_13.1]) rfl ?_
      have e_13 := N_139_R G_13
      refine ev_x (i := .iconst 3) (len := 1) (p' := 107) (s' := [.int 3, .int p_13.1]) rfl rfl rfl ?_
      refine F_if H (fun c_14 H => ?_) (fun c_14 H => ?_)
      · refine ev_b2 (t := 123) (p' := 110) rfl rfl rfl (if_neg (fun q => q c_14)) ?_
        refine ev_x (i := .aload_n 0) (len := 1) (p' := 111) (s' := [.ref 66]) rfl rfl (ld_a (vg_o (i := 4) (v := .int p_9.1) g_0 (by decide) (Or.inl rfl))) ?_
        refine ev_gr (p' := 114) (v := 115) rfl rfl rfl ly_66 rfl rfl ((congrFun (congrFun e_13 66) 10).trans ((congrFun (congrFun e_10 66) 10).trans ((congrFun (congrFun e_9 66) 10).trans hr_66_10))) ?_
        refine ev_gc (p' := 117) (v := 133) rfl rfl rfl ly_115 rfl rfl ?_
        refine ev_x (i := .iload 4) (len := 2) (p' := 119) (s' := [.int p_9.1, .ref 133]) rfl rfl (ld_i (vg_s (lv) 4 (.int p_9.1))) ?_
        obtain ⟨b_15, H⟩ := F_gd H
        refine ev_gb (p' := 120) (v := (gE (p_13.2) 133 (p_9.1 : Int32).toNatClampNeg)) rfl rfl ly_133 rfl (gd_in b_15) rfl ?_
        refine ev_x (i := .goto 13) (len := 3) (p' := 133) (s' := [.int (gE (p_13.2) 133 (p_9.1 : Int32).toNatClampNeg)]) rfl rfl rfl ?_
        refine ev_x (i := .istore 5) (len := 2) (p' := 135) (s' := []) (l' := vz_s1 (vz_s1 (lv) 4 (.int p_9.1)) 5 (.int (gE (p_13.2) 133 (p_9.1 : Int32).toNatClampNeg))) rfl rfl rfl ?_
        refine ev_x (i := .iload 5) (len := 2) (p' := 137) (s' := [.int (gE (p_13.2) 133 (p_9.1 : Int32).toNatClampNeg)]) rfl rfl (ld_i (vg_s (vz_s1 (lv) 4 (.int p_9.1)) 5 (.int (gE (p_13.2) 133 (p_9.1 : Int32).toNatClampNeg)))) ?_
        refine F_jn (A := vz_ev P0 (d + 5) 182 145 (vz_s1 (vz_s1 (lv) 4 (.int p_9.1)) 5 (.int (gE (p_13.2) 133 (p_9.1 : Int32).toNatClampNeg))) [.int (if (gE (p_13.2) 133 (p_9.1 : Int32).toNatClampNeg) = 0 then 0 else 1 : Int32)] (hp (p_13.2)) (.inl (some (.int p.1)), hp p.2)) ?_ (fun J => ?_)
        · obtain rfl := Option.some.inj H
          exact ev_iret rfl rfl rfl rfl
        · by_cases c_16 : (gE (p_13.2) 133 (p_9.1 : Int32).toNatClampNeg) = 0
          · refine ev_b0 (t := 144) (p' := 144) rfl rfl rfl (if_pos c_16) ?_
            refine ev_x (i := .iconst 0) (len := 1) (p' := 145) (s' := [.int 0]) rfl rfl rfl ?_
            exact ev_st (congrArg (fun z => Value.int z :: []) (by rw [if_pos c_16])) J
          · refine ev_b0 (t := 144) (p' := 140) rfl rfl rfl (if_neg c_16) ?_
            refine ev_x (i := .iconst 1) (len := 1) (p' := 141) (s' := [.int 1]) rfl rfl rfl ?_
            refine ev_x (i := .goto 4) (len := 3) (p' := 145) (s' := [.int 1]) rfl rfl rfl ?_
            exact ev_st (congrArg (fun z => Value.int z :: []) (by rw [if_neg c_16])) J
      · refine ev_b2 (t := 123) (p' := 123) rfl rfl rfl (if_pos c_14) ?_
        refine ev_x (i := .aload_n 0) (len := 1) (p' := 124) (s' := [.ref 66]) rfl rfl (ld_a (vg_o (i := 4) (v := .int p_9.1) g_0 (by decide) (Or.inl rfl))) ?_
        refine ev_gr (p' := 127) (v := 115) rfl rfl rfl ly_66 rfl rfl ((congrFun (congrFun e_13 66) 10).trans ((congrFun (congrFun e_10 66) 10).trans ((congrFun (congrFun e_9 66) 10).trans hr_66_10))) ?_
        refine ev_gc (p' := 130) (v := 129) rfl rfl rfl ly_115 rfl rfl ?_
        refine ev_x (i := .iload 4) (len := 2) (p' := 132) (s' := [.int p_9.1, .ref 129]) rfl rfl (ld_i (vg_s (lv) 4 (.int p_9.1))) ?_
        obtain ⟨b_17, H⟩ := F_gd H
        refine ev_gb (p' := 133) (v := (gE (p_13.2) 129 (p_9.1 : Int32).toNatClampNeg)) rfl rfl ly_129 rfl (gd_in b_17) rfl ?_
        refine ev_x (i := .istore 5) (len := 2) (p' := 135) (s' := []) (l' := vz_s1 (vz_s1 (lv) 4 (.int p_9.1)) 5 (.int (gE (p_13.2) 129 (p_9.1 : Int32).toNatClampNeg))) rfl rfl rfl ?_
        refine ev_x (i := .iload 5) (len := 2) (p' := 137) (s' := [.int (gE (p_13.2) 129 (p_9.1 : Int32).toNatClampNeg)]) rfl rfl (ld_i (vg_s (vz_s1 (lv) 4 (.int p_9.1)) 5 (.int (gE (p_13.2) 129 (p_9.1 : Int32).toNatClampNeg)))) ?_
        refine F_jn (A := vz_ev P0 (d + 5) 182 145 (vz_s1 (vz_s1 (lv) 4 (.int p_9.1)) 5 (.int (gE (p_13.2) 129 (p_9.1 : Int32).toNatClampNeg))) [.int (if (gE (p_13.2) 129 (p_9.1 : Int32).toNatClampNeg) = 0 then 0 else 1 : Int32)] (hp (p_13.2)) (.inl (some (.int p.1)), hp p.2)) ?_ (fun J => ?_)
        · obtain rfl := Option.some.inj H
          exact ev_iret rfl rfl rfl rfl
        · by_cases c_18 : (gE (p_13.2) 129 (p_9.1 : Int32).toNatClampNeg) = 0
          · refine ev_b0 (t := 144) (p' := 144) rfl rfl rfl (if_pos c_18) ?_
            refine ev_x (i := .iconst 0) (len := 1) (p' := 145) (s' := [.int 0]) rfl rfl rfl ?_
            exact ev_st (congrArg (fun z => Value.int z :: []) (by rw [if_pos c_18])) J
          · refine ev_b0 (t := 144) (p' := 140) rfl rfl rfl (if_neg c_18) ?_
            refine ev_x (i := .iconst 1) (len := 1) (p' := 141) (s' := [.int 1]) rfl rfl rfl ?_
            refine ev_x (i := .goto 4) (len := 3) (p' := 145) (s' := [.int 1]) rfl rfl rfl ?_
            exact ev_st (congrArg (fun z => Value.int z :: []) (by rw [if_neg c_18])) J
    · by_cases c_11 : p_10.1 = 3
      · refine ev_b2 (t := 95) (p' := 87) rfl rfl rfl (if_neg (fun q => q c_11)) ?_
        refine ev_x (i := .bipush 100) (len := 2) (p' := 89) (s' := [.int 100, .int l_1, .ref 123]) rfl rfl rfl ?_
        refine ev_x (i := .iload 4) (len := 2) (p' := 91) (s' := [.int p_9.1, .int 100, .int l_1, .ref 123]) rfl rfl (ld_i (vg_s (lv) 4 (.int p_9.1))) ?_
        refine ev_x (i := .iadd) (len := 1) (p' := 92) (s' := [.int (100 + p_9.1), .int l_1, .ref 123]) rfl rfl rfl ?_
        refine ev_x (i := .goto 5) (len := 3) (p' := 97) (s' := [.int (100 + p_9.1), .int l_1, .ref 123]) rfl rfl rfl ?_
        exact ev_st (congrArg (fun z => Value.int z :: [.int l_1, .ref 123]) (by rw [if_pos c_11])) J
      · refine ev_b2 (t := 95) (p' := 95) rfl rfl rfl (if_pos c_11) ?_
        refine ev_x (i := .iload 4) (len := 2) (p' := 97) (s' := [.int p_9.1, .int l_1, .ref 123]) rfl rfl (ld_i (vg_s (lv) 4 (.int p_9.1))) ?_
        exact ev_st (congrArg (fun z => Value.int z :: [.int l_1, .ref 123]) (by rw [if_neg c_11])) J
/-- GameTextModel.lookUp(IZ)I, from 36 -/
def J_182_36 (N : Nat) (g : Nat) (x : Nat) (l_1 : Int32) (σ : st_S) : Option (Int32 × st_S) :=
  (N_139 N (g + 3) l_1 (σ)).bind fun p_7 =>
  (F_165 N 2 p_7.1 (p_7.2)).bind fun p_8 =>
  some (0, p_8)
set_option maxRecDepth 100000 in
theorem J_182_36_R {N : Nat} {g : Nat} {x : Nat} {l_1 : Int32} {σ : st_S} {p : Int32 × st_S} (H : J_182_36 N g x l_1 σ = some p) : gR p.2 = gR σ := by
  unfold J_182_36 at H
  obtain ⟨p_7, G_7, H⟩ := F_bd H
  obtain ⟨p_8, G_8, H⟩ := F_bd H
  obtain rfl := Option.some.inj H
  exact ((F_165_R G_8).trans ((N_139_R G_7).trans rfl))
set_option maxHeartbeats 4000000 in
set_option maxRecDepth 100000 in
theorem J_182_36_ok {N d : Nat} {g : Nat} (hg : g = 79 ∨ g = 115) {x : Nat} (hx : x = 67 ∨ x = 69) {l_1 : Int32} {σ : st_S} {lv : vz_L} {p : Int32 × st_S} (g_0 : vz_g lv 0 = some (.ref 66)) (g_1 : vz_g lv 1 = some (.int l_1)) (hnb : vz_nbL (vz_gr P0) lv = true) (hr_66_2 : gR σ 66 2 = x) (hr_66_10 : gR σ 66 10 = g) (H : J_182_36 N g x l_1 σ = some p) : vz_ev P0 (d + 5) 182 36 lv [] (hp σ) (.inl (some (.int p.1)), hp p.2) := by
  unfold J_182_36 at H
  rcases hg with rfl | rfl
  · refine ev_x (i := .aload_n 0) (len := 1) (p' := 37) (s' := [.ref 66]) rfl rfl (ld_a g_0) ?_
    refine ev_x (i := .iconst 2) (len := 1) (p' := 38) (s' := [.int 2, .ref 66]) rfl rfl rfl ?_
    refine ev_x (i := .aload_n 0) (len := 1) (p' := 39) (s' := [.ref 66, .int 2, .ref 66]) rfl rfl (ld_a g_0) ?_
    refine ev_gr (p' := 42) (v := 79) rfl rfl rfl ly_66 rfl rfl hr_66_10 ?_
    refine ev_gc (p' := 45) (v := 82) rfl rfl rfl ly_79 rfl rfl ?_
    refine ev_x (i := .iload_n 1) (len := 1) (p' := 46) (s' := [.int l_1, .ref 82, .int 2, .ref 66]) rfl rfl (ld_i g_1) ?_
    obtain ⟨p_7, G_7, H⟩ := F_bd H
    refine ev_cv (d := d + 4) (As := [.int l_1]) (a := 82) (p' := 49) rfl rfl rfl ly_82 rfl rfl rfl rfl rfl hnb rfl (N_139_ok (d := d + 3) nm_82 G_7) ?_
    refine ev_st (st' := [.int p_7.1, .int 2, .ref 66]) rfl ?_
    have e_7 := N_139_R G_7
    obtain ⟨p_8, G_8, H⟩ := F_bd H
    refine ev_cv (d := d + 4) (As := [.int 2, .int p_7.1]) (a := 66) (p' := 52) rfl rfl rfl ly_66 rfl rfl rfl rfl rfl hnb rfl (F_165_ok (d := d + 3)   G_8) ?_
    refine ev_st (st' := []) rfl ?_
    have e_8 := F_165_R G_8
    refine ev_x (i := .iconst 0) (len := 1) (p' := 53) (s' := [.int 0]) rfl rfl rfl ?_
    obtain rfl := Option.some.inj H
    exact ev_iret rfl rfl rfl rfl
  · refine ev_x (i := .aload_n 0) (len := 1) (p' := 37) (s' := [.ref 66]) rfl rfl (ld_a g_0) ?_
    refine ev_x (i := .iconst 2) (len := 1) (p' := 38) (s' := [.int 2, .ref 66]) rfl rfl rfl ?_
    refine ev_x (i := .aload_n 0) (len := 1) (p' := 39) (s' := [.ref 66, .int 2, .ref 66]) rfl rfl (ld_a g_0) ?_
    refine ev_gr (p' := 42) (v := 115) rfl rfl rfl ly_66 rfl rfl hr_66_10 ?_
    refine ev_gc (p' := 45) (v := 118) rfl rfl rfl ly_115 rfl rfl ?_
    refine ev_x (i := .iload_n 1) (len := 1) (p' := 46) (s' := [.int l_1, .ref 118, .int 2, .ref 66]) rfl rfl (ld_i g_1) ?_
    obtain ⟨p_7, G_7, H⟩ := F_bd H
    refine ev_cv (d := d + 4) (As := [.int l_1]) (a := 118) (p' := 49) rfl rfl rfl ly_118 rfl rfl rfl rfl rfl hnb rfl (N_139_ok (d := d + 3) nm_118 G_7) ?_
    refine ev_st (st' := [.int p_7.1, .int 2, .ref 66]) rfl ?_
    have e_7 := N_139_R G_7
    obtain ⟨p_8, G_8, H⟩ := F_bd H
    refine ev_cv (d := d + 4) (As := [.int 2, .int p_7.1]) (a := 66) (p' := 52) rfl rfl rfl ly_66 rfl rfl rfl rfl rfl hnb rfl (F_165_ok (d := d + 3)   G_8) ?_
    refine ev_st (st' := []) rfl ?_
    have e_8 := F_165_R G_8
    refine ev_x (i := .iconst 0) (len := 1) (p' := 53) (s' := [.int 0]) rfl rfl rfl ?_
    obtain rfl := Option.some.inj H
    exact ev_iret rfl rfl rfl rfl
/-- GameTextModel.lookUp(IZ)I -/
def F_182 (N : Nat) (g : Nat) (x : Nat) (x_1 : Int32) (x_2 : Int32) (σ : st_S) : Option (Int32 × st_S) :=
  (N_139 N (g + 7) x_1 (σ)).bind fun p_1 =>
  (F_166 N x p_1.1 (p_1.2)).bind fun p_2 =>
  if p_2.1 < 0 then
    J_182_36 N g x x_1 (p_2.2)
  else
    if x_2 = 0 then
      J_182_54 N g x x_1 p_2.1 (p_2.2)
    else
      (N_139 N 153 p_2.1 (p_2.2)).bind fun p_5 =>
      if p_5.1 = 1 then
        J_182_54 N g x x_1 p_2.1 (p_5.2)
      else
        J_182_36 N g x x_1 (p_5.2)
set_option maxRecDepth 100000 in
theorem F_182_R {N : Nat} {g : Nat} {x : Nat} {x_1 : Int32} {x_2 : Int32} {σ : st_S} {p : Int32 × st_S} (H : F_182 N g x x_1 x_2 σ = some p) : gR p.2 = gR σ := by
  unfold F_182 at H
  obtain ⟨p_1, G_1, H⟩ := F_bd H
  obtain ⟨p_2, G_2, H⟩ := F_bd H
  refine F_if H (fun _ H => ?_) (fun _ H => ?_)
  · exact (((J_182_36_R H)).trans ((F_166_R G_2).trans ((N_139_R G_1).trans rfl)))
  · refine F_if H (fun _ H => ?_) (fun _ H => ?_)
    · exact (((J_182_54_R H)).trans ((F_166_R G_2).trans ((N_139_R G_1).trans rfl)))
    · obtain ⟨p_5, G_5, H⟩ := F_bd H
      refine F_if H (fun _ H => ?_) (fun _ H => ?_)
      · exact (((J_182_54_R H)).trans ((N_139_R G_5).trans ((F_166_R G_2).trans ((N_139_R G_1).trans rfl))))
      · exact (((J_182_36_R H)).trans ((N_139_R G_5).trans ((F_166_R G_2).trans ((N_139_R G_1).trans rfl))))
set_option maxHeartbeats 4000000 in
set_option maxRecDepth 100000 in
theorem F_182_ok {N d : Nat} {g : Nat} (hg : g = 79 ∨ g = 115) {x : Nat} (hx : x = 67 ∨ x = 69) {x_1 : Int32} {x_2 : Int32} {σ : st_S} {p : Int32 × st_S} (hr_66_2 : gR σ 66 2 = x) (hr_66_10 : gR σ 66 10 = g) (H : F_182 N g x x_1 x_2 σ = some p) : vz_ev P0 (d + 5) 182 0 (lv_args 0 [.ref 66, .int x_1, .int x_2]) [] (hp σ) (.inl (some (.int p.1)), hp p.2) := by
  unfold F_182 at H
  rcases hg with rfl | rfl
  · refine ev_x (i := .aload_n 0) (len := 1) (p' := 1) (s' := [.ref 66]) rfl rfl rfl ?_
    refine ev_x (i := .aload_n 0) (len := 1) (p' := 2) (s' := [.ref 66, .ref 66]) rfl rfl rfl ?_
    refine ev_gr (p' := 5) (v := 79) rfl rfl rfl ly_66 rfl rfl hr_66_10 ?_
    refine ev_gc (p' := 8) (v := 86) rfl rfl rfl ly_79 rfl rfl ?_
    refine ev_x (i := .iload_n 1) (len := 1) (p' := 9) (s' := [.int x_1, .ref 86, .ref 66]) rfl rfl rfl ?_
    obtain ⟨p_1, G_1, H⟩ := F_bd H
    refine ev_cv (d := d + 4) (As := [.int x_1]) (a := 86) (p' := 12) rfl rfl rfl ly_86 rfl rfl rfl rfl rfl rfl rfl (N_139_ok (d := d + 3) nm_86 G_1) ?_
    refine ev_st (st' := [.int p_1.1, .ref 66]) rfl ?_
    have e_1 := N_139_R G_1
    obtain ⟨p_2, G_2, H⟩ := F_bd H
    refine ev_cv (d := d + 4) (As := [.int p_1.1]) (a := 66) (p' := 15) rfl rfl rfl ly_66 rfl rfl rfl rfl rfl rfl rfl (F_166_ok (d := d + 0) (hx := hx) (hr_66_2 := ((congrFun (congrFun e_1 66) 2).trans hr_66_2)) G_2) ?_
    refine ev_st (st' := [.int p_2.1]) rfl ?_
    have e_2 := F_166_R G_2
    refine ev_x (i := .istore_n 3) (len := 1) (p' := 16) (s' := []) (l' := [(3, .int p_2.1), (0, .ref 66), (1, .int x_1), (2, .int x_2)]) rfl rfl rfl ?_
    refine ev_x (i := .iload_n 3) (len := 1) (p' := 17) (s' := [.int p_2.1]) rfl rfl rfl ?_
    refine F_if H (fun c_3 H => ?_) (fun c_3 H => ?_)
    · refine ev_b0 (t := 36) (p' := 36) rfl rfl rfl (if_pos c_3) ?_
      exact J_182_36_ok (d := d) (Or.inl rfl) hx rfl rfl rfl ((congrFun (congrFun e_2 66) 2).trans ((congrFun (congrFun e_1 66) 2).trans hr_66_2)) ((congrFun (congrFun e_2 66) 10).trans ((congrFun (congrFun e_1 66) 10).trans hr_66_10)) H
    · refine ev_b0 (t := 36) (p' := 20) rfl rfl rfl (if_neg c_3) ?_
      refine ev_x (i := .iload_n 2) (len := 1) (p' := 21) (s' := [.int x_2]) rfl rfl rfl ?_
      refine F_if H (fun c_4 H => ?_) (fun c_4 H => ?_)
      · refine ev_b0 (t := 54) (p' := 54) rfl rfl rfl (if_pos c_4) ?_
        exact J_182_54_ok (d := d) (Or.inl rfl) hx rfl rfl rfl rfl ((congrFun (congrFun e_2 66) 2).trans ((congrFun (congrFun e_1 66) 2).trans hr_66_2)) ((congrFun (congrFun e_2 66) 10).trans ((congrFun (congrFun e_1 66) 10).trans hr_66_10)) H
      · refine ev_b0 (t := 54) (p' := 24) rfl rfl rfl (if_neg c_4) ?_
        refine ev_x (i := .aload_n 0) (len := 1) (p' := 25) (s' := [.ref 66]) rfl rfl rfl ?_
        refine ev_gc (p' := 28) (v := 153) rfl rfl rfl ly_66 rfl rfl ?_
        refine ev_x (i := .iload_n 3) (len := 1) (p' := 29) (s' := [.int p_2.1, .ref 153]) rfl rfl rfl ?_
        obtain ⟨p_5, G_5, H⟩ := F_bd H
        refine ev_cv (d := d + 4) (As := [.int p_2.1]) (a := 153) (p' := 32) rfl rfl rfl ly_153 rfl rfl rfl rfl rfl rfl rfl (N_139_ok (d := d + 3) nm_153 G_5) ?_
        refine ev_st (st' := [.int p_5.1]) rfl ?_
        have e_5 := N_139_R G_5
        refine ev_x (i := .iconst 1) (len := 1) (p' := 33) (s' := [.int 1, .int p_5.1]) rfl rfl rfl ?_
        refine F_if H (fun c_6 H => ?_) (fun c_6 H => ?_)
        · refine ev_b2 (t := 54) (p' := 54) rfl rfl rfl (if_pos c_6) ?_
          exact J_182_54_ok (d := d) (Or.inl rfl) hx rfl rfl rfl rfl ((congrFun (congrFun e_5 66) 2).trans ((congrFun (congrFun e_2 66) 2).trans ((congrFun (congrFun e_1 66) 2).trans hr_66_2))) ((congrFun (congrFun e_5 66) 10).trans ((congrFun (congrFun e_2 66) 10).trans ((congrFun (congrFun e_1 66) 10).trans hr_66_10))) H
        · refine ev_b2 (t := 54) (p' := 36) rfl rfl rfl (if_neg c_6) ?_
          exact J_182_36_ok (d := d) (Or.inl rfl) hx rfl rfl rfl ((congrFun (congrFun e_5 66) 2).trans ((congrFun (congrFun e_2 66) 2).trans ((congrFun (congrFun e_1 66) 2).trans hr_66_2))) ((congrFun (congrFun e_5 66) 10).trans ((congrFun (congrFun e_2 66) 10).trans ((congrFun (congrFun e_1 66) 10).trans hr_66_10))) H
  · refine ev_x (i := .aload_n 0) (len := 1) (p' := 1) (s' := [.ref 66]) rfl rfl rfl ?_
    refine ev_x (i := .aload_n 0) (len := 1) (p' := 2) (s' := [.ref 66, .ref 66]) rfl rfl rfl ?_
    refine ev_gr (p' := 5) (v := 115) rfl rfl rfl ly_66 rfl rfl hr_66_10 ?_
    refine ev_gc (p' := 8) (v := 122) rfl rfl rfl ly_115 rfl rfl ?_
    refine ev_x (i := .iload_n 1) (len := 1) (p' := 9) (s' := [.int x_1, .ref 122, .ref 66]) rfl rfl rfl ?_
    obtain ⟨p_1, G_1, H⟩ := F_bd H
    refine ev_cv (d := d + 4) (As := [.int x_1]) (a := 122) (p' := 12) rfl rfl rfl ly_122 rfl rfl rfl rfl rfl rfl rfl (N_139_ok (d := d + 3) nm_122 G_1) ?_
    refine ev_st (st' := [.int p_1.1, .ref 66]) rfl ?_
    have e_1 := N_139_R G_1
    obtain ⟨p_2, G_2, H⟩ := F_bd H
    refine ev_cv (d := d + 4) (As := [.int p_1.1]) (a := 66) (p' := 15) rfl rfl rfl ly_66 rfl rfl rfl rfl rfl rfl rfl (F_166_ok (d := d + 0) (hx := hx) (hr_66_2 := ((congrFun (congrFun e_1 66) 2).trans hr_66_2)) G_2) ?_
    refine ev_st (st' := [.int p_2.1]) rfl ?_
    have e_2 := F_166_R G_2
    refine ev_x (i := .istore_n 3) (len := 1) (p' := 16) (s' := []) (l' := [(3, .int p_2.1), (0, .ref 66), (1, .int x_1), (2, .int x_2)]) rfl rfl rfl ?_
    refine ev_x (i := .iload_n 3) (len := 1) (p' := 17) (s' := [.int p_2.1]) rfl rfl rfl ?_
    refine F_if H (fun c_3 H => ?_) (fun c_3 H => ?_)
    · refine ev_b0 (t := 36) (p' := 36) rfl rfl rfl (if_pos c_3) ?_
      exact J_182_36_ok (d := d) (Or.inr rfl) hx rfl rfl rfl ((congrFun (congrFun e_2 66) 2).trans ((congrFun (congrFun e_1 66) 2).trans hr_66_2)) ((congrFun (congrFun e_2 66) 10).trans ((congrFun (congrFun e_1 66) 10).trans hr_66_10)) H
    · refine ev_b0 (t := 36) (p' := 20) rfl rfl rfl (if_neg c_3) ?_
      refine ev_x (i := .iload_n 2) (len := 1) (p' := 21) (s' := [.int x_2]) rfl rfl rfl ?_
      refine F_if H (fun c_4 H => ?_) (fun c_4 H => ?_)
      · refine ev_b0 (t := 54) (p' := 54) rfl rfl rfl (if_pos c_4) ?_
        exact J_182_54_ok (d := d) (Or.inr rfl) hx rfl rfl rfl rfl ((congrFun (congrFun e_2 66) 2).trans ((congrFun (congrFun e_1 66) 2).trans hr_66_2)) ((congrFun (congrFun e_2 66) 10).trans ((congrFun (congrFun e_1 66) 10).trans hr_66_10)) H
      · refine ev_b0 (t := 54) (p' := 24) rfl rfl rfl (if_neg c_4) ?_
        refine ev_x (i := .aload_n 0) (len := 1) (p' := 25) (s' := [.ref 66]) rfl rfl rfl ?_
        refine ev_gc (p' := 28) (v := 153) rfl rfl rfl ly_66 rfl rfl ?_
        refine ev_x (i := .iload_n 3) (len := 1) (p' := 29) (s' := [.int p_2.1, .ref 153]) rfl rfl rfl ?_
        obtain ⟨p_5, G_5, H⟩ := F_bd H
        refine ev_cv (d := d + 4) (As := [.int p_2.1]) (a := 153) (p' := 32) rfl rfl rfl ly_153 rfl rfl rfl rfl rfl rfl rfl (N_139_ok (d := d + 3) nm_153 G_5) ?_
        refine ev_st (st' := [.int p_5.1]) rfl ?_
        have e_5 := N_139_R G_5
        refine ev_x (i := .iconst 1) (len := 1) (p' := 33) (s' := [.int 1, .int p_5.1]) rfl rfl rfl ?_
        refine F_if H (fun c_6 H => ?_) (fun c_6 H => ?_)
        · refine ev_b2 (t := 54) (p' := 54) rfl rfl rfl (if_pos c_6) ?_
          exact J_182_54_ok (d := d) (Or.inr rfl) hx rfl rfl rfl rfl ((congrFun (congrFun e_5 66) 2).trans ((congrFun (congrFun e_2 66) 2).trans ((congrFun (congrFun e_1 66) 2).trans hr_66_2))) ((congrFun (congrFun e_5 66) 10).trans ((congrFun (congrFun e_2 66) 10).trans ((congrFun (congrFun e_1 66) 10).trans hr_66_10))) H
        · refine ev_b2 (t := 54) (p' := 36) rfl rfl rfl (if_neg c_6) ?_
          exact J_182_36_ok (d := d) (Or.inr rfl) hx rfl rfl rfl ((congrFun (congrFun e_5 66) 2).trans ((congrFun (congrFun e_2 66) 2).trans ((congrFun (congrFun e_1 66) 2).trans hr_66_2))) ((congrFun (congrFun e_5 66) 10).trans ((congrFun (congrFun e_2 66) 10).trans ((congrFun (congrFun e_1 66) 10).trans hr_66_10))) H
/-- GameTextModel.lookAt(IZ)V, from 386 -/
def J_180_386 (N : Nat) (g : Nat) (x : Nat) (l_6 : Int32) (l_9 : Int32) (σ : st_S) : Option (st_S) :=
  (N_133 N 159 l_9 (st_i (σ) 159 1 l_6)).bind fun p_34 =>
  some (p_34)
set_option maxRecDepth 100000 in
theorem J_180_386_R {N : Nat} {g : Nat} {x : Nat} {l_6 : Int32} {l_9 : Int32} {σ : st_S} {p : st_S} (H : J_180_386 N g x l_6 l_9 σ = some p) : gR p = gR σ := by
  unfold J_180_386 at H
  obtain ⟨p_34, G_34, H⟩ := F_bd H
  obtain rfl := Option.some.inj H
  exact ((N_133_R G_34).trans rfl)
set_option maxHeartbeats 4000000 in
set_option maxRecDepth 100000 in
theorem J_180_386_ok {N d : Nat} {g : Nat} (hg : g = 79 ∨ g = 115) {x : Nat} (hx : x = 67 ∨ x = 69) {l_6 : Int32} {l_9 : Int32} {σ : st_S} {lv : vz_L} {p : st_S} (g_0 : vz_g lv 0 = some (.ref 66)) (g_6 : vz_g lv 6 = some (.int l_6)) (g_9 : vz_g lv 9 = some (.int l_9)) (hnb : vz_nbL (vz_gr P0) lv = true) (hr_66_2 : gR σ 66 2 = x) (hr_66_10 : gR σ 66 10 = g) (H : J_180_386 N g x l_6 l_9 σ = some p) : vz_ev P0 (d + 6) 180 386 lv [] (hp σ) (.inl none, hp p) := by
  unfold J_180_386 at H
  refine ev_x (i := .aload_n 0) (len := 1) (p' := 387) (s' := [.ref 66]) rfl rfl (ld_a g_0) ?_
  refine ev_gc (p' := 390) (v := 159) rfl rfl rfl ly_66 rfl rfl ?_
  refine ev_x (i := .iload 6) (len := 2) (p' := 392) (s' := [.int l_6, .ref 159]) rfl rfl (ld_i g_6) ?_
  refine ev_pi (p' := 395) rfl rfl rfl ly_159 rfl rfl rfl rfl ?_
  refine ev_x (i := .aload_n 0) (len := 1) (p' := 396) (s' := [.ref 66]) rfl rfl (ld_a g_0) ?_
  refine ev_gc (p' := 399) (v := 159) rfl rfl rfl ly_66 rfl rfl ?_
  refine ev_x (i := .iload 9) (len := 2) (p' := 401) (s' := [.int l_9, .ref 159]) rfl rfl (ld_i g_9) ?_
  obtain ⟨p_34, G_34, H⟩ := F_bd H
  refine ev_cv (d := d + 5) (As := [.int l_9]) (a := 159) (p' := 404) rfl rfl rfl ly_159 rfl rfl rfl rfl rfl hnb rfl (N_133_ok (d := d + 4) nm_159 G_34) ?_
  refine ev_st (st' := []) rfl ?_
  have e_34 := N_133_R G_34
  obtain rfl := Option.some.inj H
  exact ev_vret rfl rfl rfl
/-- GameTextModel.lookAt(IZ)V, from 374 -/
def J_180_374 (N : Nat) (g : Nat) (x : Nat) (l_4 : Int32) (l_6 : Int32) (l_8 : Int32) (l_9 : Int32) (σ : st_S) : Option (st_S) :=
  if l_8 = 0 then
    (F_165 N 3 l_4 (σ)).bind fun p_33 =>
    J_180_386 N g x l_6 l_9 (p_33)
  else
    J_180_386 N g x l_6 l_9 (σ)
set_option maxRecDepth 100000 in
theorem J_180_374_R {N : Nat} {g : Nat} {x : Nat} {l_4 : Int32} {l_6 : Int32} {l_8 : Int32} {l_9 : Int32} {σ : st_S} {p : st_S} (H : J_180_374 N g x l_4 l_6 l_8 l_9 σ = some p) : gR p = gR σ := by
  unfold J_180_374 at H
  refine F_if H (fun _ H => ?_) (fun _ H => ?_)
  · obtain ⟨p_33, G_33, H⟩ := F_bd H
    exact (((J_180_386_R H)).trans ((F_165_R G_33).trans rfl))
  · exact (((J_180_386_R H)).trans rfl)
set_option maxHeartbeats 4000000 in
set_option maxRecDepth 100000 in
theorem J_180_374_ok {N d : Nat} {g : Nat} (hg : g = 79 ∨ g = 115) {x : Nat} (hx : x = 67 ∨ x = 69) {l_4 : Int32} {l_6 : Int32} {l_8 : Int32} {l_9 : Int32} {σ : st_S} {lv : vz_L} {p : st_S} (g_0 : vz_g lv 0 = some (.ref 66)) (g_4 : vz_g lv 4 = some (.int l_4)) (g_6 : vz_g lv 6 = some (.int l_6)) (g_8 : vz_g lv 8 = some (.int l_8)) (g_9 : vz_g lv 9 = some (.int l_9)) (hnb : vz_nbL (vz_gr P0) lv = true) (hr_66_2 : gR σ 66 2 = x) (hr_66_10 : gR σ 66 10 = g) (H : J_180_374 N g x l_4 l_6 l_8 l_9 σ = some p) : vz_ev P0 (d + 6) 180 374 lv [] (hp σ) (.inl none, hp p) := by
  unfold J_180_374 at H
  refine ev_x (i := .iload 8) (len := 2) (p' := 376) (s' := [.int l_8]) rfl rfl (ld_i g_8) ?_
  refine F_if H (fun c_32 H => ?_) (fun c_32 H => ?_)
  · refine ev_b0 (t := 386) (p' := 379) rfl rfl rfl (if_neg (fun q => q c_32)) ?_
    refine ev_x (i := .aload_n 0) (len := 1) (p' := 380) (s' := [.ref 66]) rfl rfl (ld_a g_0) ?_
    refine ev_x (i := .iconst 3) (len := 1) (p' := 381) (s' := [.int 3, .ref 66]) rfl rfl rfl ?_
    refine ev_x (i := .iload 4) (len := 2) (p' := 383) (s' := [.int l_4, .int 3, .ref 66]) rfl rfl (ld_i g_4) ?_
    obtain ⟨p_33, G_33, H⟩ := F_bd H
    refine ev_cv (d := d + 5) (As := [.int 3, .int l_4]) (a := 66) (p' := 386) rfl rfl rfl ly_66 rfl rfl rfl rfl rfl hnb rfl (F_165_ok (d := d + 4)   G_33) ?_
    refine ev_st (st' := []) rfl ?_
    have e_33 := F_165_R G_33
    exact J_180_386_ok (d := d) hg hx g_0 g_6 g_9 hnb ((congrFun (congrFun e_33 66) 2).trans hr_66_2) ((congrFun (congrFun e_33 66) 10).trans hr_66_10) H
  · refine ev_b0 (t := 386) (p' := 386) rfl rfl rfl (if_pos c_32) ?_
    exact J_180_386_ok (d := d) hg hx g_0 g_6 g_9 hnb hr_66_2 hr_66_10 H
/-- GameTextModel.lookAt(IZ)V, from 333 -/
def J_180_333 (N : Nat) (g : Nat) (x : Nat) (l_4 : Int32) (l_6 : Int32) (σ : st_S) : Option (st_S) :=
  (N_183 N 159 (σ)).bind fun p_31 =>
  J_180_374 N g x l_4 l_6 0 p_31.1 (p_31.2)
set_option maxRecDepth 100000 in
theorem J_180_333_R {N : Nat} {g : Nat} {x : Nat} {l_4 : Int32} {l_6 : Int32} {σ : st_S} {p : st_S} (H : J_180_333 N g x l_4 l_6 σ = some p) : gR p = gR σ := by
  unfold J_180_333 at H
  obtain ⟨p_31, G_31, H⟩ := F_bd H
  exact (((J_180_374_R H)).trans ((N_183_R G_31).trans rfl))
set_option maxHeartbeats 4000000 in
set_option maxRecDepth 100000 in
theorem J_180_333_ok {N d : Nat} {g : Nat} (hg : g = 79 ∨ g = 115) {x : Nat} (hx : x = 67 ∨ x = 69) {l_4 : Int32} {l_6 : Int32} {σ : st_S} {lv : vz_L} {p : st_S} (g_0 : vz_g lv 0 = some (.ref 66)) (g_4 : vz_g lv 4 = some (.int l_4)) (g_6 : vz_g lv 6 = some (.int l_6)) (hnb : vz_nbL (vz_gr P0) lv = true) (hr_66_2 : gR σ 66 2 = x) (hr_66_10 : gR σ 66 10 = g) (H : J_180_333 N g x l_4 l_6 σ = some p) : vz_ev P0 (d + 6) 180 333 lv [] (hp σ) (.inl none, hp p) := by
  unfold J_180_333 at H
  refine ev_x (i := .iconst 0) (len := 1) (p' := 334) (s' := [.int 0]) rfl rfl rfl ?_
  refine ev_x (i := .istore 8) (len := 2) (p' := 336) (s' := []) (l' := vz_s1 (lv) 8 (.int 0)) rfl rfl rfl ?_
  refine ev_x (i := .aload_n 0) (len := 1) (p' := 337) (s' := [.ref 66]) rfl rfl (ld_a (vg_o (i := 8) (v := .int 0) g_0 (by decide) (Or.inl rfl))) ?_
  refine ev_gc (p' := 340) (v := 159) rfl rfl rfl ly_66 rfl rfl ?_
  obtain ⟨p_31, G_31, H⟩ := F_bd H
  refine ev_cv (d := d + 5) (As := []) (a := 159) (p' := 343) rfl rfl rfl ly_159 rfl rfl rfl rfl rfl (nb_s1 hnb rfl) rfl (N_183_ok (d := d + 4) nm_159 G_31) ?_
  refine ev_st (st' := [.int p_31.1]) rfl ?_
  have e_31 := N_183_R G_31
  refine ev_x (i := .istore 9) (len := 2) (p' := 345) (s' := []) (l' := vz_s1 (vz_s1 (lv) 8 (.int 0)) 9 (.int p_31.1)) rfl rfl rfl ?_
  refine ev_x (i := .goto 29) (len := 3) (p' := 374) (s' := []) rfl rfl rfl ?_
  exact J_180_374_ok (d := d) hg hx (vg_o (i := 9) (v := .int p_31.1) (vg_o (i := 8) (v := .int 0) g_0 (by decide) (Or.inl rfl)) (by decide) (Or.inl rfl)) (vg_o (i := 9) (v := .int p_31.1) (vg_o (i := 8) (v := .int 0) g_4 (by decide) (Or.inl rfl)) (by decide) (Or.inl rfl)) (vg_o (i := 9) (v := .int p_31.1) (vg_o (i := 8) (v := .int 0) g_6 (by decide) (Or.inl rfl)) (by decide) (Or.inl rfl)) (vg_o (i := 9) (v := .int p_31.1) (vg_s (lv) 8 (.int 0)) (by decide) (Or.inl rfl)) (vg_s (vz_s1 (lv) 8 (.int 0)) 9 (.int p_31.1)) (nb_s1 (nb_s1 hnb rfl) rfl) ((congrFun (congrFun e_31 66) 2).trans hr_66_2) ((congrFun (congrFun e_31 66) 10).trans hr_66_10) H
/-- GameTextModel.lookAt(IZ)V, its loops -/
def L_180 (N : Nat) (g : Nat) (x : Nat) : Nat → Int32 → Int32 → Int32 → Int32 → Int32 → Int32 → Int32 → Int32 → st_S → Option (st_S)
  | 0, _, _, _, _, _, _, _, _, _ => none
  | k + 1, l_1, l_2, l_3, l_4, l_5, l_6, l_7, l_8, σ =>
      if (gI σ 159 1) ≤ l_8 then
        if l_3 = 1 then
          (F_182 N g x l_1 l_2 (σ)).bind fun p_6 =>
          J_180_374 N g x l_4 l_6 1 p_6.1 (p_6.2)
        else
        if l_3 = 2 then
          J_180_374 N g x l_4 l_6 1 0 (σ)
        else
        if l_3 = 12 then
          J_180_374 N g x l_4 l_6 1 1 (σ)
        else
        if l_3 = 13 then
          J_180_374 N g x l_4 l_6 1 1 (σ)
        else
        if l_3 = 18 then
          J_180_374 N g x l_4 l_6 (if l_7 = 1 then 0 else 1 : Int32) 1 (σ)
        else
        if l_3 = 23 then
          J_180_374 N g x l_4 l_6 (if l_7 = 1 then 0 else 1 : Int32) 1 (σ)
        else
        if l_3 = 29 then
          J_180_374 N g x l_4 l_6 (if l_7 = l_5 then 1 else 0 : Int32) 1 (σ)
        else
        if l_3 = 30 then
          J_180_374 N g x l_4 l_6 (if l_7 = l_5 then 1 else 0 : Int32) 1 (σ)
        else
        if l_3 = 31 then
          J_180_374 N g x l_4 l_6 (if l_7 = l_5 then 1 else 0 : Int32) 1 (σ)
        else
        if l_3 = 32 then
          (N_139 N 159 l_6 (σ)).bind fun p_21 =>
          if p_21.1 = 1 then
            (N_139 N 159 (l_6 + 1) (p_21.2)).bind fun p_23 =>
            (N_139 N 159 (l_6 + 2) (p_23.2)).bind fun p_24 =>
            if p_23.1 = p_24.1 then
              (N_183 N 159 (p_24.2)).bind fun p_26 =>
              J_180_374 N g x l_4 l_6 1 p_26.1 (p_26.2)
            else
              J_180_333 N g x l_4 l_6 (p_24.2)
          else
            J_180_333 N g x l_4 l_6 (p_21.2)
        else
          (F_157 N l_3 (σ)).bind fun p_28 =>
          J_180_374 N g x l_4 l_6 (if l_7 = 0 then 1 else 0 : Int32) (if p_28.1 = 0 then 0 else 1 : Int32) (p_28.2)
      else
        (N_139 N 159 l_8 (σ)).bind fun p_30 =>
        L_180 N g x k l_1 l_2 l_3 l_4 l_5 l_6 (l_7 + p_30.1) (l_8 + 1) (p_30.2)
set_option maxRecDepth 100000 in
theorem L_180_R {N : Nat} {g : Nat} {x : Nat} : ∀ (k : Nat) (l_1 : Int32) (l_2 : Int32) (l_3 : Int32) (l_4 : Int32) (l_5 : Int32) (l_6 : Int32) (l_7 : Int32) (l_8 : Int32) (σ : st_S) (p : st_S), L_180 N g x k l_1 l_2 l_3 l_4 l_5 l_6 l_7 l_8 σ = some p → gR p = gR σ := by
  intro k
  induction k with
  | zero => intro l_1 l_2 l_3 l_4 l_5 l_6 l_7 l_8 σ p H; unfold L_180 at H; cases H
  | succ k ih =>
    intro l_1 l_2 l_3 l_4 l_5 l_6 l_7 l_8 σ p H
    unfold L_180 at H
    refine F_if H (fun _ H => ?_) (fun _ H => ?_)
    · refine F_if H (fun _ H => ?_) (fun _ H => ?_)
      · obtain ⟨p_6, G_6, H⟩ := F_bd H
        exact (((J_180_374_R H)).trans ((F_182_R G_6).trans rfl))
      · refine F_if H (fun _ H => ?_) (fun _ H => ?_)
        · exact (((J_180_374_R H)).trans rfl)
        · refine F_if H (fun _ H => ?_) (fun _ H => ?_)
          · exact (((J_180_374_R H)).trans rfl)
          · refine F_if H (fun _ H => ?_) (fun _ H => ?_)
            · exact (((J_180_374_R H)).trans rfl)
            · refine F_if H (fun _ H => ?_) (fun _ H => ?_)
              · exact (((J_180_374_R H)).trans rfl)
              · refine F_if H (fun _ H => ?_) (fun _ H => ?_)
                · exact (((J_180_374_R H)).trans rfl)
                · refine F_if H (fun _ H => ?_) (fun _ H => ?_)
                  · exact (((J_180_374_R H)).trans rfl)
                  · refine F_if H (fun _ H => ?_) (fun _ H => ?_)
                    · exact (((J_180_374_R H)).trans rfl)
                    · refine F_if H (fun _ H => ?_) (fun _ H => ?_)
                      · exact (((J_180_374_R H)).trans rfl)
                      · refine F_if H (fun _ H => ?_) (fun _ H => ?_)
                        · obtain ⟨p_21, G_21, H⟩ := F_bd H
                          refine F_if H (fun _ H => ?_) (fun _ H => ?_)
                          · obtain ⟨p_23, G_23, H⟩ := F_bd H
                            obtain ⟨p_24, G_24, H⟩ := F_bd H
                            refine F_if H (fun _ H => ?_) (fun _ H => ?_)
                            · obtain ⟨p_26, G_26, H⟩ := F_bd H
                              exact (((J_180_374_R H)).trans ((N_183_R G_26).trans ((N_139_R G_24).trans ((N_139_R G_23).trans ((N_139_R G_21).trans rfl)))))
                            · exact (((J_180_333_R H)).trans ((N_139_R G_24).trans ((N_139_R G_23).trans ((N_139_R G_21).trans rfl))))
                          · exact (((J_180_333_R H)).trans ((N_139_R G_21).trans rfl))
                        · obtain ⟨p_28, G_28, H⟩ := F_bd H
                          exact (((J_180_374_R H)).trans ((F_157_R G_28).trans rfl))
    · obtain ⟨p_30, G_30, H⟩ := F_bd H
      exact (((ih _ _ _ _ _ _ _ _ _ _ H)).trans ((N_139_R G_30).trans rfl))
set_option maxHeartbeats 4000000 in
set_option maxRecDepth 100000 in
theorem L_180_ok {N d : Nat} {g : Nat} (hg : g = 79 ∨ g = 115) {x : Nat} (hx : x = 67 ∨ x = 69) : ∀ k : Nat, ∀ (l_1 : Int32) (l_2 : Int32) (l_3 : Int32) (l_4 : Int32) (l_5 : Int32) (l_6 : Int32) (l_7 : Int32) (l_8 : Int32) (σ : st_S) (lv : vz_L) (p : st_S), vz_g lv 0 = some (.ref 66) → vz_g lv 1 = some (.int l_1) → vz_g lv 2 = some (.int l_2) → vz_g lv 3 = some (.int l_3) → vz_g lv 4 = some (.int l_4) → vz_g lv 5 = some (.int l_5) → vz_g lv 6 = some (.int l_6) → vz_g lv 7 = some (.int l_7) → vz_g lv 8 = some (.int l_8) → vz_nbL (vz_gr P0) lv = true → gR σ 66 2 = x → gR σ 66 10 = g → L_180 N g x k l_1 l_2 l_3 l_4 l_5 l_6 l_7 l_8 σ = some p → vz_ev P0 (d + 6) 180 51 lv [] (hp σ) (.inl none, hp p) := by
  intro k
  induction k with
  | zero => intro l_1 l_2 l_3 l_4 l_5 l_6 l_7 l_8 σ lv p g_0 g_1 g_2 g_3 g_4 g_5 g_6 g_7 g_8 hnb hr_66_2 hr_66_10 H; unfold L_180 at H; cases H
  | succ k ih =>
    intro l_1 l_2 l_3 l_4 l_5 l_6 l_7 l_8 σ lv p g_0 g_1 g_2 g_3 g_4 g_5 g_6 g_7 g_8 hnb hr_66_2 hr_66_10 H
    unfold L_180 at H
    refine ev_x (i := .iload 8) (len := 2) (p' := 53) (s' := [.int l_8]) rfl rfl (ld_i g_8) ?_
    refine ev_x (i := .aload_n 0) (len := 1) (p' := 54) (s' := [.ref 66, .int l_8]) rfl rfl (ld_a g_0) ?_
    refine ev_gc (p' := 57) (v := 159) rfl rfl rfl ly_66 rfl rfl ?_
    refine ev_gi (p' := 60) (v := (gI σ 159 1)) rfl rfl rfl ly_159 rfl rfl rfl ?_
    refine F_if H (fun c_4 H => ?_) (fun c_4 H => ?_)
    · refine ev_b2 (t := 83) (p' := 83) rfl rfl rfl (if_pos c_4) ?_
      refine ev_x (i := .iconst 1) (len := 1) (p' := 84) (s' := [.int 1]) rfl rfl rfl ?_
      refine ev_x (i := .istore 8) (len := 2) (p' := 86) (s' := []) (l' := vz_s1 (lv) 8 (.int 1)) rfl rfl rfl ?_
      refine ev_x (i := .iconst 0) (len := 1) (p' := 87) (s' := [.int 0]) rfl rfl rfl ?_
      refine ev_x (i := .istore 9) (len := 2) (p' := 89) (s' := []) (l' := vz_s1 (vz_s1 (lv) 8 (.int 1)) 9 (.int 0)) rfl rfl rfl ?_
      refine ev_x (i := .iload_n 3) (len := 1) (p' := 90) (s' := [.int l_3]) rfl rfl (ld_i (vg_o (i := 9) (v := .int 0) (vg_o (i := 8) (v := .int 1) g_3 (by decide) (Or.inl rfl)) (by decide) (Or.inl rfl))) ?_
      refine F_if H (fun c_5 H => ?_) (fun c_5 H => ?_)
      · refine ev_st (st' := [.int 1]) (congrArg (fun z => Value.int z :: []) c_5) ?_
        refine ev_ts (off := 151) (t := 241) rfl rfl (by decide) rfl ?_
        refine ev_x (i := .aload_n 0) (len := 1) (p' := 242) (s' := [.ref 66]) rfl rfl (ld_a (vg_o (i := 9) (v := .int 0) (vg_o (i := 8) (v := .int 1) g_0 (by decide) (Or.inl rfl)) (by decide) (Or.inl rfl))) ?_
        refine ev_x (i := .iload_n 1) (len := 1) (p' := 243) (s' := [.int l_1, .ref 66]) rfl rfl (ld_i (vg_o (i := 9) (v := .int 0) (vg_o (i := 8) (v := .int 1) g_1 (by decide) (Or.inl rfl)) (by decide) (Or.inl rfl))) ?_
        refine ev_x (i := .iload_n 2) (len := 1) (p' := 244) (s' := [.int l_2, .int l_1, .ref 66]) rfl rfl (ld_i (vg_o (i := 9) (v := .int 0) (vg_o (i := 8) (v := .int 1) g_2 (by decide) (Or.inl rfl)) (by decide) (Or.inl rfl))) ?_
        obtain ⟨p_6, G_6, H⟩ := F_bd H
        refine ev_cv (d := d + 5) (As := [.int l_1, .int l_2]) (a := 66) (p' := 247) rfl rfl rfl ly_66 rfl rfl rfl rfl rfl (nb_s1 (nb_s1 hnb rfl) rfl) rfl (F_182_ok (d := d + 0) (hg := hg) (hx := hx) (hr_66_2 := hr_66_2) (hr_66_10 := hr_66_10) G_6) ?_
        refine ev_st (st' := [.int p_6.1]) rfl ?_
        have e_6 := F_182_R G_6
        refine ev_x (i := .istore 9) (len := 2) (p' := 249) (s' := []) (l' := vz_s1 (vz_s1 (vz_s1 (lv) 8 (.int 1)) 9 (.int 0)) 9 (.int p_6.1)) rfl rfl rfl ?_
        refine ev_x (i := .goto 125) (len := 3) (p' := 374) (s' := []) rfl rfl rfl ?_
        exact J_180_374_ok (d := d) hg hx (vg_o (i := 9) (v := .int p_6.1) (vg_o (i := 9) (v := .int 0) (vg_o (i := 8) (v := .int 1) g_0 (by decide) (Or.inl rfl)) (by decide) (Or.inl rfl)) (by decide) (Or.inl rfl)) (vg_o (i := 9) (v := .int p_6.1) (vg_o (i := 9) (v := .int 0) (vg_o (i := 8) (v := .int 1) g_4 (by decide) (Or.inl rfl)) (by decide) (Or.inl rfl)) (by decide) (Or.inl rfl)) (vg_o (i := 9) (v := .int p_6.1) (vg_o (i := 9) (v := .int 0) (vg_o (i := 8) (v := .int 1) g_6 (by decide) (Or.inl rfl)) (by decide) (Or.inl rfl)) (by decide) (Or.inl rfl)) (vg_o (i := 9) (v := .int p_6.1) (vg_o (i := 9) (v := .int 0) (vg_s (lv) 8 (.int 1)) (by decide) (Or.inl rfl)) (by decide) (Or.inl rfl)) (vg_s (vz_s1 (vz_s1 (lv) 8 (.int 1)) 9 (.int 0)) 9 (.int p_6.1)) (nb_s1 (nb_s1 (nb_s1 hnb rfl) rfl) rfl) ((congrFun (congrFun e_6 66) 2).trans hr_66_2) ((congrFun (congrFun e_6 66) 10).trans hr_66_10) H
      · refine F_if H (fun c_7 H => ?_) (fun c_7 H => ?_)
        · refine ev_st (st' := [.int 2]) (congrArg (fun z => Value.int z :: []) c_7) ?_
          refine ev_ts (off := 142) (t := 232) rfl rfl (by decide) rfl ?_
          refine ev_x (i := .goto 142) (len := 3) (p' := 374) (s' := []) rfl rfl rfl ?_
          exact J_180_374_ok (d := d) hg hx (vg_o (i := 9) (v := .int 0) (vg_o (i := 8) (v := .int 1) g_0 (by decide) (Or.inl rfl)) (by decide) (Or.inl rfl)) (vg_o (i := 9) (v := .int 0) (vg_o (i := 8) (v := .int 1) g_4 (by decide) (Or.inl rfl)) (by decide) (Or.inl rfl)) (vg_o (i := 9) (v := .int 0) (vg_o (i := 8) (v := .int 1) g_6 (by decide) (Or.inl rfl)) (by decide) (Or.inl rfl)) (vg_o (i := 9) (v := .int 0) (vg_s (lv) 8 (.int 1)) (by decide) (Or.inl rfl)) (vg_s (vz_s1 (lv) 8 (.int 1)) 9 (.int 0)) (nb_s1 (nb_s1 hnb rfl) rfl) hr_66_2 hr_66_10 H
        · refine F_if H (fun c_8 H => ?_) (fun c_8 H => ?_)
          · refine ev_st (st' := [.int 12]) (congrArg (fun z => Value.int z :: []) c_8) ?_
            refine ev_ts (off := 145) (t := 235) rfl rfl (by decide) rfl ?_
            refine ev_x (i := .iconst 1) (len := 1) (p' := 236) (s' := [.int 1]) rfl rfl rfl ?_
            refine ev_x (i := .istore 9) (len := 2) (p' := 238) (s' := []) (l' := vz_s1 (vz_s1 (vz_s1 (lv) 8 (.int 1)) 9 (.int 0)) 9 (.int 1)) rfl rfl rfl ?_
            refine ev_x (i := .goto 136) (len := 3) (p' := 374) (s' := []) rfl rfl rfl ?_
            exact J_180_374_ok (d := d) hg hx (vg_o (i := 9) (v := .int 1) (vg_o (i := 9) (v := .int 0) (vg_o (i := 8) (v := .int 1) g_0 (by decide) (Or.inl rfl)) (by decide) (Or.inl rfl)) (by decide) (Or.inl rfl)) (vg_o (i := 9) (v := .int 1) (vg_o (i := 9) (v := .int 0) (vg_o (i := 8) (v := .int 1) g_4 (by decide) (Or.inl rfl)) (by decide) (Or.inl rfl)) (by decide) (Or.inl rfl)) (vg_o (i := 9) (v := .int 1) (vg_o (i := 9) (v := .int 0) (vg_o (i := 8) (v := .int 1) g_6 (by decide) (Or.inl rfl)) (by decide) (Or.inl rfl)) (by decide) (Or.inl rfl)) (vg_o (i := 9) (v := .int 1) (vg_o (i := 9) (v := .int 0) (vg_s (lv) 8 (.int 1)) (by decide) (Or.inl rfl)) (by decide) (Or.inl rfl)) (vg_s (vz_s1 (vz_s1 (lv) 8 (.int 1)) 9 (.int 0)) 9 (.int 1)) (nb_s1 (nb_s1 (nb_s1 hnb rfl) rfl) rfl) hr_66_2 hr_66_10 H
          · refine F_if H (fun c_9 H => ?_) (fun c_9 H => ?_)
            · refine ev_st (st' := [.int 13]) (congrArg (fun z => Value.int z :: []) c_9) ?_
              refine ev_ts (off := 145) (t := 235) rfl rfl (by decide) rfl ?_
              refine ev_x (i := .iconst 1) (len := 1) (p' := 236) (s' := [.int 1]) rfl rfl rfl ?_
              refine ev_x (i := .istore 9) (len := 2) (p' := 238) (s' := []) (l' := vz_s1 (vz_s1 (vz_s1 (lv) 8 (.int 1)) 9 (.int 0)) 9 (.int 1)) rfl rfl rfl ?_
              refine ev_x (i := .goto 136) (len := 3) (p' := 374) (s' := []) rfl rfl rfl ?_
              exact J_180_374_ok (d := d) hg hx (vg_o (i := 9) (v := .int 1) (vg_o (i := 9) (v := .int 0) (vg_o (i := 8) (v := .int 1) g_0 (by decide) (Or.inl rfl)) (by decide) (Or.inl rfl)) (by decide) (Or.inl rfl)) (vg_o (i := 9) (v := .int 1) (vg_o (i := 9) (v := .int 0) (vg_o (i := 8) (v := .int 1) g_4 (by decide) (Or.inl rfl)) (by decide) (Or.inl rfl)) (by decide) (Or.inl rfl)) (vg_o (i := 9) (v := .int 1) (vg_o (i := 9) (v := .int 0) (vg_o (i := 8) (v := .int 1) g_6 (by decide) (Or.inl rfl)) (by decide) (Or.inl rfl)) (by decide) (Or.inl rfl)) (vg_o (i := 9) (v := .int 1) (vg_o (i := 9) (v := .int 0) (vg_s (lv) 8 (.int 1)) (by decide) (Or.inl rfl)) (by decide) (Or.inl rfl)) (vg_s (vz_s1 (vz_s1 (lv) 8 (.int 1)) 9 (.int 0)) 9 (.int 1)) (nb_s1 (nb_s1 (nb_s1 hnb rfl) rfl) rfl) hr_66_2 hr_66_10 H
            · refine F_if H (fun c_10 H => ?_) (fun c_10 H => ?_)
              · refine ev_st (st' := [.int 18]) (congrArg (fun z => Value.int z :: []) c_10) ?_
                refine ev_ts (off := 182) (t := 272) rfl rfl (by decide) rfl ?_
                refine ev_x (i := .iload 7) (len := 2) (p' := 274) (s' := [.int l_7]) rfl rfl (ld_i (vg_o (i := 9) (v := .int 0) (vg_o (i := 8) (v := .int 1) g_7 (by decide) (Or.inl rfl)) (by decide) (Or.inl rfl))) ?_
                refine ev_x (i := .iconst 1) (len := 1) (p' := 275) (s' := [.int 1, .int l_7]) rfl rfl rfl ?_
                refine F_jn (A := vz_ev P0 (d + 6) 180 283 (vz_s1 (vz_s1 (lv) 8 (.int 1)) 9 (.int 0)) [.int (if l_7 = 1 then 0 else 1 : Int32)] (hp (σ)) (.inl none, hp p)) ?_ (fun J => ?_)
                · refine ev_x (i := .istore 8) (len := 2) (p' := 285) (s' := []) (l' := vz_s1 (vz_s1 (vz_s1 (lv) 8 (.int 1)) 9 (.int 0)) 8 (.int (if l_7 = 1 then 0 else 1 : Int32))) rfl rfl rfl ?_
                  refine ev_x (i := .iconst 1) (len := 1) (p' := 286) (s' := [.int 1]) rfl rfl rfl ?_
                  refine ev_x (i := .istore 9) (len := 2) (p' := 288) (s' := []) (l' := vz_s1 (vz_s1 (vz_s1 (vz_s1 (lv) 8 (.int 1)) 9 (.int 0)) 8 (.int (if l_7 = 1 then 0 else 1 : Int32))) 9 (.int 1)) rfl rfl rfl ?_
                  refine ev_x (i := .goto 86) (len := 3) (p' := 374) (s' := []) rfl rfl rfl ?_
                  exact J_180_374_ok (d := d) hg hx (vg_o (i := 9) (v := .int 1) (vg_o (i := 8) (v := .int (if l_7 = 1 then 0 else 1 : Int32)) (vg_o (i := 9) (v := .int 0) (vg_o (i := 8) (v := .int 1) g_0 (by decide) (Or.inl rfl)) (by decide) (Or.inl rfl)) (by decide) (Or.inl rfl)) (by decide) (Or.inl rfl)) (vg_o (i := 9) (v := .int 1) (vg_o (i := 8) (v := .int (if l_7 = 1 then 0 else 1 : Int32)) (vg_o (i := 9) (v := .int 0) (vg_o (i := 8) (v := .int 1) g_4 (by decide) (Or.inl rfl)) (by decide) (Or.inl rfl)) (by decide) (Or.inl rfl)) (by decide) (Or.inl rfl)) (vg_o (i := 9) (v := .int 1) (vg_o (i := 8) (v := .int (if l_7 = 1 then 0 else 1 : Int32)) (vg_o (i := 9) (v := .int 0) (vg_o (i := 8) (v := .int 1) g_6 (by decide) (Or.inl rfl)) (by decide) (Or.inl rfl)) (by decide) (Or.inl rfl)) (by decide) (Or.inl rfl)) (vg_o (i := 9) (v := .int 1) (vg_s (vz_s1 (vz_s1 (lv) 8 (.int 1)) 9 (.int 0)) 8 (.int (if l_7 = 1 then 0 else 1 : Int32))) (by decide) (Or.inl rfl)) (vg_s (vz_s1 (vz_s1 (vz_s1 (lv) 8 (.int 1)) 9 (.int 0)) 8 (.int (if l_7 = 1 then 0 else 1 : Int32))) 9 (.int 1)) (nb_s1 (nb_s1 (nb_s1 (nb_s1 hnb rfl) rfl) rfl) rfl) hr_66_2 hr_66_10 H
                · by_cases c_11 : l_7 = 1
                  · refine ev_b2 (t := 282) (p' := 282) rfl rfl rfl (if_pos c_11) ?_
                    refine ev_x (i := .iconst 0) (len := 1) (p' := 283) (s' := [.int 0]) rfl rfl rfl ?_
                    exact ev_st (congrArg (fun z => Value.int z :: []) (by rw [if_pos c_11])) J
                  · refine ev_b2 (t := 282) (p' := 278) rfl rfl rfl (if_neg c_11) ?_
                    refine ev_x (i := .iconst 1) (len := 1) (p' := 279) (s' := [.int 1]) rfl rfl rfl ?_
                    refine ev_x (i := .goto 4) (len := 3) (p' := 283) (s' := [.int 1]) rfl rfl rfl ?_
                    exact ev_st (congrArg (fun z => Value.int z :: []) (by rw [if_neg c_11])) J
              · refine F_if H (fun c_12 H => ?_) (fun c_12 H => ?_)
                · refine ev_st (st' := [.int 23]) (congrArg (fun z => Value.int z :: []) c_12) ?_
                  refine ev_ts (off := 182) (t := 272) rfl rfl (by decide) rfl ?_
                  refine ev_x (i := .iload 7) (len := 2) (p' := 274) (s' := [.int l_7]) rfl rfl (ld_i (vg_o (i := 9) (v := .int 0) (vg_o (i := 8) (v := .int 1) g_7 (by decide) (Or.inl rfl)) (by decide) (Or.inl rfl))) ?_
                  refine ev_x (i := .iconst 1) (len := 1) (p' := 275) (s' := [.int 1, .int l_7]) rfl rfl rfl ?_
                  refine F_jn (A := vz_ev P0 (d + 6) 180 283 (vz_s1 (vz_s1 (lv) 8 (.int 1)) 9 (.int 0)) [.int (if l_7 = 1 then 0 else 1 : Int32)] (hp (σ)) (.inl none, hp p)) ?_ (fun J => ?_)
                  · refine ev_x (i := .istore 8) (len := 2) (p' := 285) (s' := []) (l' := vz_s1 (vz_s1 (vz_s1 (lv) 8 (.int 1)) 9 (.int 0)) 8 (.int (if l_7 = 1 then 0 else 1 : Int32))) rfl rfl rfl ?_
                    refine ev_x (i := .iconst 1) (len := 1) (p' := 286) (s' := [.int 1]) rfl rfl rfl ?_
                    refine ev_x (i := .istore 9) (len := 2) (p' := 288) (s' := []) (l' := vz_s1 (vz_s1 (vz_s1 (vz_s1 (lv) 8 (.int 1)) 9 (.int 0)) 8 (.int (if l_7 = 1 then 0 else 1 : Int32))) 9 (.int 1)) rfl rfl rfl ?_
                    refine ev_x (i := .goto 86) (len := 3) (p' := 374) (s' := []) rfl rfl rfl ?_
                    exact J_180_374_ok (d := d) hg hx (vg_o (i := 9) (v := .int 1) (vg_o (i := 8) (v := .int (if l_7 = 1 then 0 else 1 : Int32)) (vg_o (i := 9) (v := .int 0) (vg_o (i := 8) (v := .int 1) g_0 (by decide) (Or.inl rfl)) (by decide) (Or.inl rfl)) (by decide) (Or.inl rfl)) (by decide) (Or.inl rfl)) (vg_o (i := 9) (v := .int 1) (vg_o (i := 8) (v := .int (if l_7 = 1 then 0 else 1 : Int32)) (vg_o (i := 9) (v := .int 0) (vg_o (i := 8) (v := .int 1) g_4 (by decide) (Or.inl rfl)) (by decide) (Or.inl rfl)) (by decide) (Or.inl rfl)) (by decide) (Or.inl rfl)) (vg_o (i := 9) (v := .int 1) (vg_o (i := 8) (v := .int (if l_7 = 1 then 0 else 1 : Int32)) (vg_o (i := 9) (v := .int 0) (vg_o (i := 8) (v := .int 1) g_6 (by decide) (Or.inl rfl)) (by decide) (Or.inl rfl)) (by decide) (Or.inl rfl)) (by decide) (Or.inl rfl)) (vg_o (i := 9) (v := .int 1) (vg_s (vz_s1 (vz_s1 (lv) 8 (.int 1)) 9 (.int 0)) 8 (.int (if l_7 = 1 then 0 else 1 : Int32))) (by decide) (Or.inl rfl)) (vg_s (vz_s1 (vz_s1 (vz_s1 (lv) 8 (.int 1)) 9 (.int 0)) 8 (.int (if l_7 = 1 then 0 else 1 : Int32))) 9 (.int 1)) (nb_s1 (nb_s1 (nb_s1 (nb_s1 hnb rfl) rfl) rfl) rfl) hr_66_2 hr_66_10 H
                  · by_cases c_13 : l_7 = 1
                    · refine ev_b2 (t := 282) (p' := 282) rfl rfl rfl (if_pos c_13) ?_
                      refine ev_x (i := .iconst 0) (len := 1) (p' := 283) (s' := [.int 0]) rfl rfl rfl ?_
                      exact ev_st (congrArg (fun z => Value.int z :: []) (by rw [if_pos c_13])) J
                    · refine ev_b2 (t := 282) (p' := 278) rfl rfl rfl (if_neg c_13) ?_
                      refine ev_x (i := .iconst 1) (len := 1) (p' := 279) (s' := [.int 1]) rfl rfl rfl ?_
                      refine ev_x (i := .goto 4) (len := 3) (p' := 283) (s' := [.int 1]) rfl rfl rfl ?_
                      exact ev_st (congrArg (fun z => Value.int z :: []) (by rw [if_neg c_13])) J
                · refine F_if H (fun c_14 H => ?_) (fun c_14 H => ?_)
                  · refine ev_st (st' := [.int 29]) (congrArg (fun z => Value.int z :: []) c_14) ?_
                    refine ev_ts (off := 162) (t := 252) rfl rfl (by decide) rfl ?_
                    refine ev_x (i := .iload 7) (len := 2) (p' := 254) (s' := [.int l_7]) rfl rfl (ld_i (vg_o (i := 9) (v := .int 0) (vg_o (i := 8) (v := .int 1) g_7 (by decide) (Or.inl rfl)) (by decide) (Or.inl rfl))) ?_
                    refine ev_x (i := .iload 5) (len := 2) (p' := 256) (s' := [.int l_5, .int l_7]) rfl rfl (ld_i (vg_o (i := 9) (v := .int 0) (vg_o (i := 8) (v := .int 1) g_5 (by decide) (Or.inl rfl)) (by decide) (Or.inl rfl))) ?_
                    refine F_jn (A := vz_ev P0 (d + 6) 180 264 (vz_s1 (vz_s1 (lv) 8 (.int 1)) 9 (.int 0)) [.int (if l_7 = l_5 then 1 else 0 : Int32)] (hp (σ)) (.inl none, hp p)) ?_ (fun J => ?_)
                    · refine ev_x (i := .istore 8) (len := 2) (p' := 266) (s' := []) (l' := vz_s1 (vz_s1 (vz_s1 (lv) 8 (.int 1)) 9 (.int 0)) 8 (.int (if l_7 = l_5 then 1 else 0 : Int32))) rfl rfl rfl ?_
                      refine ev_x (i := .iconst 1) (len := 1) (p' := 267) (s' := [.int 1]) rfl rfl rfl ?_
                      refine ev_x (i := .istore 9) (len := 2) (p' := 269) (s' := []) (l' := vz_s1 (vz_s1 (vz_s1 (vz_s1 (lv) 8 (.int 1)) 9 (.int 0)) 8 (.int (if l_7 = l_5 then 1 else 0 : Int32))) 9 (.int 1)) rfl rfl rfl ?_
                      refine ev_x (i := .goto 105) (len := 3) (p' := 374) (s' := []) rfl rfl rfl ?_
                      exact J_180_374_ok (d := d) hg hx (vg_o (i := 9) (v := .int 1) (vg_o (i := 8) (v := .int (if l_7 = l_5 then 1 else 0 : Int32)) (vg_o (i := 9) (v := .int 0) (vg_o (i := 8) (v := .int 1) g_0 (by decide) (Or.inl rfl)) (by decide) (Or.inl rfl)) (by decide) (Or.inl rfl)) (by decide) (Or.inl rfl)) (vg_o (i := 9) (v := .int 1) (vg_o (i := 8) (v := .int (if l_7 = l_5 then 1 else 0 : Int32)) (vg_o (i := 9) (v := .int 0) (vg_o (i := 8) (v := .int 1) g_4 (by decide) (Or.inl rfl)) (by decide) (Or.inl rfl)) (by decide) (Or.inl rfl)) (by decide) (Or.inl rfl)) (vg_o (i := 9) (v := .int 1) (vg_o (i := 8) (v := .int (if l_7 = l_5 then 1 else 0 : Int32)) (vg_o (i := 9) (v := .int 0) (vg_o (i := 8) (v := .int 1) g_6 (by decide) (Or.inl rfl)) (by decide) (Or.inl rfl)) (by decide) (Or.inl rfl)) (by decide) (Or.inl rfl)) (vg_o (i := 9) (v := .int 1) (vg_s (vz_s1 (vz_s1 (lv) 8 (.int 1)) 9 (.int 0)) 8 (.int (if l_7 = l_5 then 1 else 0 : Int32))) (by decide) (Or.inl rfl)) (vg_s (vz_s1 (vz_s1 (vz_s1 (lv) 8 (.int 1)) 9 (.int 0)) 8 (.int (if l_7 = l_5 then 1 else 0 : Int32))) 9 (.int 1)) (nb_s1 (nb_s1 (nb_s1 (nb_s1 hnb rfl) rfl) rfl) rfl) hr_66_2 hr_66_10 H
                    · by_cases c_15 : l_7 = l_5
                      · refine ev_b2 (t := 263) (p' := 259) rfl rfl rfl (if_neg (fun q => q c_15)) ?_
                        refine ev_x (i := .iconst 1) (len := 1) (p' := 260) (s' := [.int 1]) rfl rfl rfl ?_
                        refine ev_x (i := .goto 4) (len := 3) (p' := 264) (s' := [.int 1]) rfl rfl rfl ?_
                        exact ev_st (congrArg (fun z => Value.int z :: []) (by rw [if_pos c_15])) J
                      · refine ev_b2 (t := 263) (p' := 263) rfl rfl rfl (if_pos c_15) ?_
                        refine ev_x (i := .iconst 0) (len := 1) (p' := 264) (s' := [.int 0]) rfl rfl rfl ?_
                        exact ev_st (congrArg (fun z => Value.int z :: []) (by rw [if_neg c_15])) J
                  · refine F_if H (fun c_16 H => ?_) (fun c_16 H => ?_)
                    · refine ev_st (st' := [.int 30]) (congrArg (fun z => Value.int z :: []) c_16) ?_
                      refine ev_ts (off := 162) (t := 252) rfl rfl (by decide) rfl ?_
                      refine ev_x (i := .iload 7) (len := 2) (p' := 254) (s' := [.int l_7]) rfl rfl (ld_i (vg_o (i := 9) (v := .int 0) (vg_o (i := 8) (v := .int 1) g_7 (by decide) (Or.inl rfl)) (by decide) (Or.inl rfl))) ?_
                      refine ev_x (i := .iload 5) (len := 2) (p' := 256) (s' := [.int l_5, .int l_7]) rfl rfl (ld_i (vg_o (i := 9) (v := .int 0) (vg_o (i := 8) (v := .int 1) g_5 (by decide) (Or.inl rfl)) (by decide) (Or.inl rfl))) ?_
                      refine F_jn (A := vz_ev P0 (d + 6) 180 264 (vz_s1 (vz_s1 (lv) 8 (.int 1)) 9 (.int 0)) [.int (if l_7 = l_5 then 1 else 0 : Int32)] (hp (σ)) (.inl none, hp p)) ?_ (fun J => ?_)
                      · refine ev_x (i := .istore 8) (len := 2) (p' := 266) (s' := []) (l' := vz_s1 (vz_s1 (vz_s1 (lv) 8 (.int 1)) 9 (.int 0)) 8 (.int (if l_7 = l_5 then 1 else 0 : Int32))) rfl rfl rfl ?_
                        refine ev_x (i := .iconst 1) (len := 1) (p' := 267) (s' := [.int 1]) rfl rfl rfl ?_
                        refine ev_x (i := .istore 9) (len := 2) (p' := 269) (s' := []) (l' := vz_s1 (vz_s1 (vz_s1 (vz_s1 (lv) 8 (.int 1)) 9 (.int 0)) 8 (.int (if l_7 = l_5 then 1 else 0 : Int32))) 9 (.int 1)) rfl rfl rfl ?_
                        refine ev_x (i := .goto 105) (len := 3) (p' := 374) (s' := []) rfl rfl rfl ?_
                        exact J_180_374_ok (d := d) hg hx (vg_o (i := 9) (v := .int 1) (vg_o (i := 8) (v := .int (if l_7 = l_5 then 1 else 0 : Int32)) (vg_o (i := 9) (v := .int 0) (vg_o (i := 8) (v := .int 1) g_0 (by decide) (Or.inl rfl)) (by decide) (Or.inl rfl)) (by decide) (Or.inl rfl)) (by decide) (Or.inl rfl)) (vg_o (i := 9) (v := .int 1) (vg_o (i := 8) (v := .int (if l_7 = l_5 then 1 else 0 : Int32)) (vg_o (i := 9) (v := .int 0) (vg_o (i := 8) (v := .int 1) g_4 (by decide) (Or.inl rfl)) (by decide) (Or.inl rfl)) (by decide) (Or.inl rfl)) (by decide) (Or.inl rfl)) (vg_o (i := 9) (v := .int 1) (vg_o (i := 8) (v := .int (if l_7 = l_5 then 1 else 0 : Int32)) (vg_o (i := 9) (v := .int 0) (vg_o (i := 8) (v := .int 1) g_6 (by decide) (Or.inl rfl)) (by decide) (Or.inl rfl)) (by decide) (Or.inl rfl)) (by decide) (Or.inl rfl)) (vg_o (i := 9) (v := .int 1) (vg_s (vz_s1 (vz_s1 (lv) 8 (.int 1)) 9 (.int 0)) 8 (.int (if l_7 = l_5 then 1 else 0 : Int32))) (by decide) (Or.inl rfl)) (vg_s (vz_s1 (vz_s1 (vz_s1 (lv) 8 (.int 1)) 9 (.int 0)) 8 (.int (if l_7 = l_5 then 1 else 0 : Int32))) 9 (.int 1)) (nb_s1 (nb_s1 (nb_s1 (nb_s1 hnb rfl) rfl) rfl) rfl) hr_66_2 hr_66_10 H
                      · by_cases c_17 : l_7 = l_5
                        · refine ev_b2 (t := 263) (p' := 259) rfl rfl rfl (if_neg (fun q => q c_17)) ?_
                          refine ev_x (i := .iconst 1) (len := 1) (p' := 260) (s' := [.int 1]) rfl rfl rfl ?_
                          refine ev_x (i := .goto 4) (len := 3) (p' := 264) (s' := [.int 1]) rfl rfl rfl ?_
                          exact ev_st (congrArg (fun z => Value.int z :: []) (by rw [if_pos c_17])) J
                        · refine ev_b2 (t := 263) (p' := 263) rfl rfl rfl (if_pos c_17) ?_
                          refine ev_x (i := .iconst 0) (len := 1) (p' := 264) (s' := [.int 0]) rfl rfl rfl ?_
                          exact ev_st (congrArg (fun z => Value.int z :: []) (by rw [if_neg c_17])) J
                    · refine F_if H (fun c_18 H => ?_) (fun c_18 H => ?_)
                      · refine ev_st (st' := [.int 31]) (congrArg (fun z => Value.int z :: []) c_18) ?_
                        refine ev_ts (off := 162) (t := 252) rfl rfl (by decide) rfl ?_
                        refine ev_x (i := .iload 7) (len := 2) (p' := 254) (s' := [.int l_7]) rfl rfl (ld_i (vg_o (i := 9) (v := .int 0) (vg_o (i := 8) (v := .int 1) g_7 (by decide) (Or.inl rfl)) (by decide) (Or.inl rfl))) ?_
                        refine ev_x (i := .iload 5) (len := 2) (p' := 256) (s' := [.int l_5, .int l_7]) rfl rfl (ld_i (vg_o (i := 9) (v := .int 0) (vg_o (i := 8) (v := .int 1) g_5 (by decide) (Or.inl rfl)) (by decide) (Or.inl rfl))) ?_
                        refine F_jn (A := vz_ev P0 (d + 6) 180 264 (vz_s1 (vz_s1 (lv) 8 (.int 1)) 9 (.int 0)) [.int (if l_7 = l_5 then 1 else 0 : Int32)] (hp (σ)) (.inl none, hp p)) ?_ (fun J => ?_)
                        · refine ev_x (i := .istore 8) (len := 2) (p' := 266) (s' := []) (l' := vz_s1 (vz_s1 (vz_s1 (lv) 8 (.int 1)) 9 (.int 0)) 8 (.int (if l_7 = l_5 then 1 else 0 : Int32))) rfl rfl rfl ?_
                          refine ev_x (i := .iconst 1) (len := 1) (p' := 267) (s' := [.int 1]) rfl rfl rfl ?_
                          refine ev_x (i := .istore 9) (len := 2) (p' := 269) (s' := []) (l' := vz_s1 (vz_s1 (vz_s1 (vz_s1 (lv) 8 (.int 1)) 9 (.int 0)) 8 (.int (if l_7 = l_5 then 1 else 0 : Int32))) 9 (.int 1)) rfl rfl rfl ?_
                          refine ev_x (i := .goto 105) (len := 3) (p' := 374) (s' := []) rfl rfl rfl ?_
                          exact J_180_374_ok (d := d) hg hx (vg_o (i := 9) (v := .int 1) (vg_o (i := 8) (v := .int (if l_7 = l_5 then 1 else 0 : Int32)) (vg_o (i := 9) (v := .int 0) (vg_o (i := 8) (v := .int 1) g_0 (by decide) (Or.inl rfl)) (by decide) (Or.inl rfl)) (by decide) (Or.inl rfl)) (by decide) (Or.inl rfl)) (vg_o (i := 9) (v := .int 1) (vg_o (i := 8) (v := .int (if l_7 = l_5 then 1 else 0 : Int32)) (vg_o (i := 9) (v := .int 0) (vg_o (i := 8) (v := .int 1) g_4 (by decide) (Or.inl rfl)) (by decide) (Or.inl rfl)) (by decide) (Or.inl rfl)) (by decide) (Or.inl rfl)) (vg_o (i := 9) (v := .int 1) (vg_o (i := 8) (v := .int (if l_7 = l_5 then 1 else 0 : Int32)) (vg_o (i := 9) (v := .int 0) (vg_o (i := 8) (v := .int 1) g_6 (by decide) (Or.inl rfl)) (by decide) (Or.inl rfl)) (by decide) (Or.inl rfl)) (by decide) (Or.inl rfl)) (vg_o (i := 9) (v := .int 1) (vg_s (vz_s1 (vz_s1 (lv) 8 (.int 1)) 9 (.int 0)) 8 (.int (if l_7 = l_5 then 1 else 0 : Int32))) (by decide) (Or.inl rfl)) (vg_s (vz_s1 (vz_s1 (vz_s1 (lv) 8 (.int 1)) 9 (.int 0)) 8 (.int (if l_7 = l_5 then 1 else 0 : Int32))) 9 (.int 1)) (nb_s1 (nb_s1 (nb_s1 (nb_s1 hnb rfl) rfl) rfl) rfl) hr_66_2 hr_66_10 H
                        · by_cases c_19 : l_7 = l_5
                          · refine ev_b2 (t := 263) (p' := 259) rfl rfl rfl (if_neg (fun q => q c_19)) ?_
                            refine ev_x (i := .iconst 1) (len := 1) (p' := 260) (s' := [.int 1]) rfl rfl rfl ?_
                            refine ev_x (i := .goto 4) (len := 3) (p' := 264) (s' := [.int 1]) rfl rfl rfl ?_
                            exact ev_st (congrArg (fun z => Value.int z :: []) (by rw [if_pos c_19])) J
                          · refine ev_b2 (t := 263) (p' := 263) rfl rfl rfl (if_pos c_19) ?_
                            refine ev_x (i := .iconst 0) (len := 1) (p' := 264) (s' := [.int 0]) rfl rfl rfl ?_
                            exact ev_st (congrArg (fun z => Value.int z :: []) (by rw [if_neg c_19])) J
                      · refine F_if H (fun c_20 H => ?_) (fun c_20 H => ?_)
                        · refine ev_st (st' := [.int 32]) (congrArg (fun z => Value.int z :: []) c_20) ?_
                          refine ev_ts (off := 201) (t := 291) rfl rfl (by decide) rfl ?_
                          refine ev_x (i := .aload_n 0) (len := 1) (p' := 292) (s' := [.ref 66]) rfl rfl (ld_a (vg_o (i := 9) (v := .int 0) (vg_o (i := 8) (v := .int 1) g_0 (by decide) (Or.inl rfl)) (by decide) (Or.inl rfl))) ?_
                          refine ev_gc (p' := 295) (v := 159) rfl rfl rfl ly_66 rfl rfl ?_
                          refine ev_x (i := .iload 6) (len := 2) (p' := 297) (s' := [.int l_6, .ref 159]) rfl rfl (ld_i (vg_o (i := 9) (v := .int 0) (vg_o (i := 8) (v := .int 1) g_6 (by decide) (Or.inl rfl)) (by decide) (Or.inl rfl))) ?_
                          obtain ⟨p_21, G_21, H⟩ := F_bd H
                          refine ev_cv (d := d + 5) (As := [.int l_6]) (a := 159) (p' := 300) rfl rfl rfl ly_159 rfl rfl rfl rfl rfl (nb_s1 (nb_s1 hnb rfl) rfl) rfl (N_139_ok (d := d + 4) nm_159 G_21) ?_
                          refine ev_st (st' := [.int p_21.1]) rfl ?_
                          have e_21 := N_139_R G_21
                          refine ev_x (i := .iconst 1) (len := 1) (p' := 301) (s' := [.int 1, .int p_21.1]) rfl rfl rfl ?_
                          refine F_if H (fun c_22 H => ?_) (fun c_22 H => ?_)
                          · refine ev_b2 (t := 333) (p' := 304) rfl rfl rfl (if_neg (fun q => q c_22)) ?_
                            refine ev_x (i := .aload_n 0) (len := 1) (p' := 305) (s' := [.ref 66]) rfl rfl (ld_a (vg_o (i := 9) (v := .int 0) (vg_o (i := 8) (v := .int 1) g_0 (by decide) (Or.inl rfl)) (by decide) (Or.inl rfl))) ?_
                            refine ev_gc (p' := 308) (v := 159) rfl rfl rfl ly_66 rfl rfl ?_
                            refine ev_x (i := .iload 6) (len := 2) (p' := 310) (s' := [.int l_6, .ref 159]) rfl rfl (ld_i (vg_o (i := 9) (v := .int 0) (vg_o (i := 8) (v := .int 1) g_6 (by decide) (Or.inl rfl)) (by decide) (Or.inl rfl))) ?_
                            refine ev_x (i := .iconst 1) (len := 1) (p' := 311) (s' := [.int 1, .int l_6, .ref 159]) rfl rfl rfl ?_
                            refine ev_x (i := .iadd) (len := 1) (p' := 312) (s' := [.int (l_6 + 1), .ref 159]) rfl rfl rfl ?_
                            obtain ⟨p_23, G_23, H⟩ := F_bd H
                            refine ev_cv (d := d + 5) (As := [.int (l_6 + 1)]) (a := 159) (p' := 315) rfl rfl rfl ly_159 rfl rfl rfl rfl rfl (nb_s1 (nb_s1 hnb rfl) rfl) rfl (N_139_ok (d := d + 4) nm_159 G_23) ?_
                            refine ev_st (st' := [.int p_23.1]) rfl ?_
                            have e_23 := N_139_R G_23
                            refine ev_x (i := .aload_n 0) (len := 1) (p' := 316) (s' := [.ref 66, .int p_23.1]) rfl rfl (ld_a (vg_o (i := 9) (v := .int 0) (vg_o (i := 8) (v := .int 1) g_0 (by decide) (Or.inl rfl)) (by decide) (Or.inl rfl))) ?_
                            refine ev_gc (p' := 319) (v := 159) rfl rfl rfl ly_66 rfl rfl ?_
                            refine ev_x (i := .iload 6) (len := 2) (p' := 321) (s' := [.int l_6, .ref 159, .int p_23.1]) rfl rfl (ld_i (vg_o (i := 9) (v := .int 0) (vg_o (i := 8) (v := .int 1) g_6 (by decide) (Or.inl rfl)) (by decide) (Or.inl rfl))) ?_
                            refine ev_x (i := .iconst 2) (len := 1) (p' := 322) (s' := [.int 2, .int l_6, .ref 159, .int p_23.1]) rfl rfl rfl ?_
                            refine ev_x (i := .iadd) (len := 1) (p' := 323) (s' := [.int (l_6 + 2), .ref 159, .int p_23.1]) rfl rfl rfl ?_
                            obtain ⟨p_24, G_24, H⟩ := F_bd H
                            refine ev_cv (d := d + 5) (As := [.int (l_6 + 2)]) (a := 159) (p' := 326) rfl rfl rfl ly_159 rfl rfl rfl rfl rfl (nb_s1 (nb_s1 hnb rfl) rfl) rfl (N_139_ok (d := d + 4) nm_159 G_24) ?_
                            refine ev_st (st' := [.int p_24.1, .int p_23.1]) rfl ?_
                            have e_24 := N_139_R G_24
                            refine F_if H (fun c_25 H => ?_) (fun c_25 H => ?_)
                            · refine ev_b2 (t := 333) (p' := 329) rfl rfl rfl (if_neg (fun q => q c_25)) ?_
                              refine ev_x (i := .iconst 1) (len := 1) (p' := 330) (s' := [.int 1]) rfl rfl rfl ?_
                              refine ev_x (i := .goto 4) (len := 3) (p' := 334) (s' := [.int 1]) rfl rfl rfl ?_
                              refine ev_x (i := .istore 8) (len := 2) (p' := 336) (s' := []) (l' := vz_s1 (vz_s1 (vz_s1 (lv) 8 (.int 1)) 9 (.int 0)) 8 (.int 1)) rfl rfl rfl ?_
                              refine ev_x (i := .aload_n 0) (len := 1) (p' := 337) (s' := [.ref 66]) rfl rfl (ld_a (vg_o (i := 8) (v := .int 1) (vg_o (i := 9) (v := .int 0) (vg_o (i := 8) (v := .int 1) g_0 (by decide) (Or.inl rfl)) (by decide) (Or.inl rfl)) (by decide) (Or.inl rfl))) ?_
                              refine ev_gc (p' := 340) (v := 159) rfl rfl rfl ly_66 rfl rfl ?_
                              obtain ⟨p_26, G_26, H⟩ := F_bd H
                              refine ev_cv (d := d + 5) (As := []) (a := 159) (p' := 343) rfl rfl rfl ly_159 rfl rfl rfl rfl rfl (nb_s1 (nb_s1 (nb_s1 hnb rfl) rfl) rfl) rfl (N_183_ok (d := d + 4) nm_159 G_26) ?_
                              refine ev_st (st' := [.int p_26.1]) rfl ?_
                              have e_26 := N_183_R G_26
                              refine ev_x (i := .istore 9) (len := 2) (p' := 345) (s' := []) (l' := vz_s1 (vz_s1 (vz_s1 (vz_s1 (lv) 8 (.int 1)) 9 (.int 0)) 8 (.int 1)) 9 (.int p_26.1)) rfl rfl rfl ?_
                              refine ev_x (i := .goto 29) (len := 3) (p' := 374) (s' := []) rfl rfl rfl ?_
                              exact J_180_374_ok (d := d) hg hx (vg_o (i := 9) (v := .int p_26.1) (vg_o (i := 8) (v := .int 1) (vg_o (i := 9) (v := .int 0) (vg_o (i := 8) (v := .int 1) g_0 (by decide) (Or.inl rfl)) (by decide) (Or.inl rfl)) (by decide) (Or.inl rfl)) (by decide) (Or.inl rfl)) (vg_o (i := 9) (v := .int p_26.1) (vg_o (i := 8) (v := .int 1) (vg_o (i := 9) (v := .int 0) (vg_o (i := 8) (v := .int 1) g_4 (by decide) (Or.inl rfl)) (by decide) (Or.inl rfl)) (by decide) (Or.inl rfl)) (by decide) (Or.inl rfl)) (vg_o (i := 9) (v := .int p_26.1) (vg_o (i := 8) (v := .int 1) (vg_o (i := 9) (v := .int 0) (vg_o (i := 8) (v := .int 1) g_6 (by decide) (Or.inl rfl)) (by decide) (Or.inl rfl)) (by decide) (Or.inl rfl)) (by decide) (Or.inl rfl)) (vg_o (i := 9) (v := .int p_26.1) (vg_s (vz_s1 (vz_s1 (lv) 8 (.int 1)) 9 (.int 0)) 8 (.int 1)) (by decide) (Or.inl rfl)) (vg_s (vz_s1 (vz_s1 (vz_s1 (lv) 8 (.int 1)) 9 (.int 0)) 8 (.int 1)) 9 (.int p_26.1)) (nb_s1 (nb_s1 (nb_s1 (nb_s1 hnb rfl) rfl) rfl) rfl) ((congrFun (congrFun e_26 66) 2).trans ((congrFun (congrFun e_24 66) 2).trans ((congrFun (congrFun e_23 66) 2).trans ((congrFun (congrFun e_21 66) 2).trans hr_66_2)))) ((congrFun (congrFun e_26 66) 10).trans ((congrFun (congrFun e_24 66) 10).trans ((congrFun (congrFun e_23 66) 10).trans ((congrFun (congrFun e_21 66) 10).trans hr_66_10)))) H
                            · refine ev_b2 (t := 333) (p' := 333) rfl rfl rfl (if_pos c_25) ?_
                              exact J_180_333_ok (d := d) hg hx (vg_o (i := 9) (v := .int 0) (vg_o (i := 8) (v := .int 1) g_0 (by decide) (Or.inl rfl)) (by decide) (Or.inl rfl)) (vg_o (i := 9) (v := .int 0) (vg_o (i := 8) (v := .int 1) g_4 (by decide) (Or.inl rfl)) (by decide) (Or.inl rfl)) (vg_o (i := 9) (v := .int 0) (vg_o (i := 8) (v := .int 1) g_6 (by decide) (Or.inl rfl)) (by decide) (Or.inl rfl)) (nb_s1 (nb_s1 hnb rfl) rfl) ((congrFun (congrFun e_24 66) 2).trans ((congrFun (congrFun e_23 66) 2).trans ((congrFun (congrFun e_21 66) 2).trans hr_66_2))) ((congrFun (congrFun e_24 66) 10).trans ((congrFun (congrFun e_23 66) 10).trans ((congrFun (congrFun e_21 66) 10).trans hr_66_10))) H
                          · refine ev_b2 (t := 333) (p' := 333) rfl rfl rfl (if_pos c_22) ?_
                            exact J_180_333_ok (d := d) hg hx (vg_o (i := 9) (v := .int 0) (vg_o (i := 8) (v := .int 1) g_0 (by decide) (Or.inl rfl)) (by decide) (Or.inl rfl)) (vg_o (i := 9) (v := .int 0) (vg_o (i := 8) (v := .int 1) g_4 (by decide) (Or.inl rfl)) (by decide) (Or.inl rfl)) (vg_o (i := 9) (v := .int 0) (vg_o (i := 8) (v := .int 1) g_6 (by decide) (Or.inl rfl)) (by decide) (Or.inl rfl)) (nb_s1 (nb_s1 hnb rfl) rfl) ((congrFun (congrFun e_21 66) 2).trans hr_66_2) ((congrFun (congrFun e_21 66) 10).trans hr_66_10) H
                        · have n_1 : (1 : Int) ≠ (l_3 : Int32).toInt := i32_ne (k := 1) (by decide) c_5
                          have n_2 : (2 : Int) ≠ (l_3 : Int32).toInt := i32_ne (k := 2) (by decide) c_7
                          have n_12 : (12 : Int) ≠ (l_3 : Int32).toInt := i32_ne (k := 12) (by decide) c_8
                          have n_13 : (13 : Int) ≠ (l_3 : Int32).toInt := i32_ne (k := 13) (by decide) c_9
                          have n_18 : (18 : Int) ≠ (l_3 : Int32).toInt := i32_ne (k := 18) (by decide) c_10
                          have n_23 : (23 : Int) ≠ (l_3 : Int32).toInt := i32_ne (k := 23) (by decide) c_12
                          have n_29 : (29 : Int) ≠ (l_3 : Int32).toInt := i32_ne (k := 29) (by decide) c_14
                          have n_30 : (30 : Int) ≠ (l_3 : Int32).toInt := i32_ne (k := 30) (by decide) c_16
                          have n_31 : (31 : Int) ≠ (l_3 : Int32).toInt := i32_ne (k := 31) (by decide) c_18
                          have n_32 : (32 : Int) ≠ (l_3 : Int32).toInt := i32_ne (k := 32) (by decide) c_20
                          refine ev_ts (off := 258) (t := 348) rfl rfl ?hsw rfl ?_
                          case hsw =>
                            by_cases hq : (l_3 : Int32).toInt < 1 ∨ 32 < (l_3 : Int32).toInt
                            · exact if_pos hq
                            · rw [if_neg hq]
                              have hw : (l_3 : Int32).toInt = 3 ∨ (l_3 : Int32).toInt = 4 ∨ (l_3 : Int32).toInt = 5 ∨ (l_3 : Int32).toInt = 6 ∨ (l_3 : Int32).toInt = 7 ∨ (l_3 : Int32).toInt = 8 ∨ (l_3 : Int32).toInt = 9 ∨ (l_3 : Int32).toInt = 10 ∨ (l_3 : Int32).toInt = 11 ∨ (l_3 : Int32).toInt = 14 ∨ (l_3 : Int32).toInt = 15 ∨ (l_3 : Int32).toInt = 16 ∨ (l_3 : Int32).toInt = 17 ∨ (l_3 : Int32).toInt = 19 ∨ (l_3 : Int32).toInt = 20 ∨ (l_3 : Int32).toInt = 21 ∨ (l_3 : Int32).toInt = 22 ∨ (l_3 : Int32).toInt = 24 ∨ (l_3 : Int32).toInt = 25 ∨ (l_3 : Int32).toInt = 26 ∨ (l_3 : Int32).toInt = 27 ∨ (l_3 : Int32).toInt = 28 := by omega
                              rcases hw with hw | hw | hw | hw | hw | hw | hw | hw | hw | hw | hw | hw | hw | hw | hw | hw | hw | hw | hw | hw | hw | hw <;> rw [hw] <;> rfl
                          refine ev_x (i := .iload 7) (len := 2) (p' := 350) (s' := [.int l_7]) rfl rfl (ld_i (vg_o (i := 9) (v := .int 0) (vg_o (i := 8) (v := .int 1) g_7 (by decide) (Or.inl rfl)) (by decide) (Or.inl rfl))) ?_
                          refine F_jn (A := vz_ev P0 (d + 6) 180 358 (vz_s1 (vz_s1 (lv) 8 (.int 1)) 9 (.int 0)) [.int (if l_7 = 0 then 1 else 0 : Int32)] (hp (σ)) (.inl none, hp p)) ?_ (fun J => ?_)
                          · refine ev_x (i := .istore 8) (len := 2) (p' := 360) (s' := []) (l' := vz_s1 (vz_s1 (vz_s1 (lv) 8 (.int 1)) 9 (.int 0)) 8 (.int (if l_7 = 0 then 1 else 0 : Int32))) rfl rfl rfl ?_
                            refine ev_x (i := .iload_n 3) (len := 1) (p' := 361) (s' := [.int l_3]) rfl rfl (ld_i (vg_o (i := 8) (v := .int (if l_7 = 0 then 1 else 0 : Int32)) (vg_o (i := 9) (v := .int 0) (vg_o (i := 8) (v := .int 1) g_3 (by decide) (Or.inl rfl)) (by decide) (Or.inl rfl)) (by decide) (Or.inl rfl))) ?_
                            obtain ⟨p_28, G_28, H⟩ := F_bd H
                            refine ev_callS (d := d + 5) (As := [.int l_3]) rfl rfl rfl (by decide) rfl rfl rfl rfl (nb_s1 (nb_s1 (nb_s1 hnb rfl) rfl) rfl) (F_157_ok (d := d + 4)   G_28) ?_
                            refine ev_st (st' := [.int p_28.1]) rfl ?_
                            refine ev_pc (pc' := 364) rfl ?_
                            have e_28 := F_157_R G_28
                            refine F_jn (A := vz_ev P0 (d + 6) 180 372 (vz_s1 (vz_s1 (vz_s1 (lv) 8 (.int 1)) 9 (.int 0)) 8 (.int (if l_7 = 0 then 1 else 0 : Int32))) [.int (if p_28.1 = 0 then 0 else 1 : Int32)] (hp (p_28.2)) (.inl none, hp p)) ?_ (fun J => ?_)
                            · refine ev_x (i := .istore 9) (len := 2) (p' := 374) (s' := []) (l' := vz_s1 (vz_s1 (vz_s1 (vz_s1 (lv) 8 (.int 1)) 9 (.int 0)) 8 (.int (if l_7 = 0 then 1 else 0 : Int32))) 9 (.int (if p_28.1 = 0 then 0 else 1 : Int32))) rfl rfl rfl ?_
                              exact J_180_374_ok (d := d) hg hx (vg_o (i := 9) (v := .int (if p_28.1 = 0 then 0 else 1 : Int32)) (vg_o (i := 8) (v := .int (if l_7 = 0 then 1 else 0 : Int32)) (vg_o (i := 9) (v := .int 0) (vg_o (i := 8) (v := .int 1) g_0 (by decide) (Or.inl rfl)) (by decide) (Or.inl rfl)) (by decide) (Or.inl rfl)) (by decide) (Or.inl rfl)) (vg_o (i := 9) (v := .int (if p_28.1 = 0 then 0 else 1 : Int32)) (vg_o (i := 8) (v := .int (if l_7 = 0 then 1 else 0 : Int32)) (vg_o (i := 9) (v := .int 0) (vg_o (i := 8) (v := .int 1) g_4 (by decide) (Or.inl rfl)) (by decide) (Or.inl rfl)) (by decide) (Or.inl rfl)) (by decide) (Or.inl rfl)) (vg_o (i := 9) (v := .int (if p_28.1 = 0 then 0 else 1 : Int32)) (vg_o (i := 8) (v := .int (if l_7 = 0 then 1 else 0 : Int32)) (vg_o (i := 9) (v := .int 0) (vg_o (i := 8) (v := .int 1) g_6 (by decide) (Or.inl rfl)) (by decide) (Or.inl rfl)) (by decide) (Or.inl rfl)) (by decide) (Or.inl rfl)) (vg_o (i := 9) (v := .int (if p_28.1 = 0 then 0 else 1 : Int32)) (vg_s (vz_s1 (vz_s1 (lv) 8 (.int 1)) 9 (.int 0)) 8 (.int (if l_7 = 0 then 1 else 0 : Int32))) (by decide) (Or.inl rfl)) (vg_s (vz_s1 (vz_s1 (vz_s1 (lv) 8 (.int 1)) 9 (.int 0)) 8 (.int (if l_7 = 0 then 1 else 0 : Int32))) 9 (.int (if p_28.1 = 0 then 0 else 1 : Int32))) (nb_s1 (nb_s1 (nb_s1 (nb_s1 hnb rfl) rfl) rfl) rfl) ((congrFun (congrFun e_28 66) 2).trans hr_66_2) ((congrFun (congrFun e_28 66) 10).trans hr_66_10) H
                            · by_cases c_29 : p_28.1 = 0
                              · refine ev_b0 (t := 371) (p' := 371) rfl rfl rfl (if_pos c_29) ?_
                                refine ev_x (i := .iconst 0) (len := 1) (p' := 372) (s' := [.int 0]) rfl rfl rfl ?_
                                exact ev_st (congrArg (fun z => Value.int z :: []) (by rw [if_pos c_29])) J
                              · refine ev_b0 (t := 371) (p' := 367) rfl rfl rfl (if_neg c_29) ?_
                                refine ev_x (i := .iconst 1) (len := 1) (p' := 368) (s' := [.int 1]) rfl rfl rfl ?_
                                refine ev_x (i := .goto 4) (len := 3) (p' := 372) (s' := [.int 1]) rfl rfl rfl ?_
                                exact ev_st (congrArg (fun z => Value.int z :: []) (by rw [if_neg c_29])) J
                          · by_cases c_27 : l_7 = 0
                            · refine ev_b0 (t := 357) (p' := 353) rfl rfl rfl (if_neg (fun q => q c_27)) ?_
                              refine ev_x (i := .iconst 1) (len := 1) (p' := 354) (s' := [.int 1]) rfl rfl rfl ?_
                              refine ev_x (i := .goto 4) (len := 3) (p' := 358) (s' := [.int 1]) rfl rfl rfl ?_
                              exact ev_st (congrArg (fun z => Value.int z :: []) (by rw [if_pos c_27])) J
                            · refine ev_b0 (t := 357) (p' := 357) rfl rfl rfl (if_pos c_27) ?_
                              refine ev_x (i := .iconst 0) (len := 1) (p' := 358) (s' := [.int 0]) rfl rfl rfl ?_
                              exact ev_st (congrArg (fun z => Value.int z :: []) (by rw [if_neg c_27])) J
    · refine ev_b2 (t := 83) (p' := 63) rfl rfl rfl (if_neg c_4) ?_
      refine ev_x (i := .iload 7) (len := 2) (p' := 65) (s' := [.int l_7]) rfl rfl (ld_i g_7) ?_
      refine ev_x (i := .aload_n 0) (len := 1) (p' := 66) (s' := [.ref 66, .int l_7]) rfl rfl (ld_a g_0) ?_
      refine ev_gc (p' := 69) (v := 159) rfl rfl rfl ly_66 rfl rfl ?_
      refine ev_x (i := .iload 8) (len := 2) (p' := 71) (s' := [.int l_8, .ref 159, .int l_7]) rfl rfl (ld_i g_8) ?_
      obtain ⟨p_30, G_30, H⟩ := F_bd H
      refine ev_cv (d := d + 5) (As := [.int l_8]) (a := 159) (p' := 74) rfl rfl rfl ly_159 rfl rfl rfl rfl rfl hnb rfl (N_139_ok (d := d + 4) nm_159 G_30) ?_
      refine ev_st (st' := [.int p_30.1, .int l_7]) rfl ?_
      have e_30 := N_139_R G_30
      refine ev_x (i := .iadd) (len := 1) (p' := 75) (s' := [.int (l_7 + p_30.1)]) rfl rfl rfl ?_
      refine ev_x (i := .istore 7) (len := 2) (p' := 77) (s' := []) (l' := vz_s1 (lv) 7 (.int (l_7 + p_30.1))) rfl rfl rfl ?_
      refine ev_x (i := .iinc 8 1) (len := 3) (p' := 80) (s' := []) (l' := vz_s1 (vz_s1 (lv) 7 (.int (l_7 + p_30.1))) 8 (.int (l_8 + 1))) rfl rfl (ld_inc (vg_o (i := 7) (v := .int (l_7 + p_30.1)) g_8 (by decide) (Or.inl rfl)) rfl) ?_
      refine ev_x (i := .goto (-29)) (len := 3) (p' := 51) (s' := []) rfl rfl rfl ?_
      exact ih _ _ _ _ _ _ _ _ _ _ _ (vg_o (i := 8) (v := .int (l_8 + 1)) (vg_o (i := 7) (v := .int (l_7 + p_30.1)) g_0 (by decide) (Or.inl rfl)) (by decide) (Or.inl rfl)) (vg_o (i := 8) (v := .int (l_8 + 1)) (vg_o (i := 7) (v := .int (l_7 + p_30.1)) g_1 (by decide) (Or.inl rfl)) (by decide) (Or.inl rfl)) (vg_o (i := 8) (v := .int (l_8 + 1)) (vg_o (i := 7) (v := .int (l_7 + p_30.1)) g_2 (by decide) (Or.inl rfl)) (by decide) (Or.inl rfl)) (vg_o (i := 8) (v := .int (l_8 + 1)) (vg_o (i := 7) (v := .int (l_7 + p_30.1)) g_3 (by decide) (Or.inl rfl)) (by decide) (Or.inl rfl)) (vg_o (i := 8) (v := .int (l_8 + 1)) (vg_o (i := 7) (v := .int (l_7 + p_30.1)) g_4 (by decide) (Or.inl rfl)) (by decide) (Or.inl rfl)) (vg_o (i := 8) (v := .int (l_8 + 1)) (vg_o (i := 7) (v := .int (l_7 + p_30.1)) g_5 (by decide) (Or.inl rfl)) (by decide) (Or.inl rfl)) (vg_o (i := 8) (v := .int (l_8 + 1)) (vg_o (i := 7) (v := .int (l_7 + p_30.1)) g_6 (by decide) (Or.inl rfl)) (by decide) (Or.inl rfl)) (vg_o (i := 8) (v := .int (l_8 + 1)) (vg_s (lv) 7 (.int (l_7 + p_30.1))) (by decide) (Or.inl rfl)) (vg_s (vz_s1 (lv) 7 (.int (l_7 + p_30.1))) 8 (.int (l_8 + 1))) (nb_s1 (nb_s1 hnb rfl) rfl) ((congrFun (congrFun e_30 66) 2).trans hr_66_2) ((congrFun (congrFun e_30 66) 10).trans hr_66_10) H
/-- GameTextModel.lookAt(IZ)V -/
def F_180 (N : Nat) (g : Nat) (x : Nat) (x_1 : Int32) (x_2 : Int32) (σ : st_S) : Option (st_S) :=
  (N_139 N (g + 1) x_1 (σ)).bind fun p_1 =>
  (N_139 N (g + 3) x_1 (p_1.2)).bind fun p_2 =>
  (F_181 N g x_1 (p_2.2)).bind fun p_3 =>
  L_180 N g x N x_1 x_2 p_1.1 p_2.1 p_3.1 ((gI p_3.2 159 1) - p_3.1) 0 ((gI p_3.2 159 1) - p_3.1) (p_3.2)
set_option maxRecDepth 100000 in
theorem F_180_R {N : Nat} {g : Nat} {x : Nat} {x_1 : Int32} {x_2 : Int32} {σ : st_S} {p : st_S} (H : F_180 N g x x_1 x_2 σ = some p) : gR p = gR σ := by
  unfold F_180 at H
  obtain ⟨p_1, G_1, H⟩ := F_bd H
  obtain ⟨p_2, G_2, H⟩ := F_bd H
  obtain ⟨p_3, G_3, H⟩ := F_bd H
  exact (((L_180_R _ _ _ _ _ _ _ _ _ _ _ H)).trans ((F_181_R G_3).trans ((N_139_R G_2).trans ((N_139_R G_1).trans rfl))))
set_option maxHeartbeats 4000000 in
set_option maxRecDepth 100000 in
theorem F_180_ok {N d : Nat} {g : Nat} (hg : g = 79 ∨ g = 115) {x : Nat} (hx : x = 67 ∨ x = 69) {x_1 : Int32} {x_2 : Int32} {σ : st_S} {p : st_S} (hr_66_2 : gR σ 66 2 = x) (hr_66_10 : gR σ 66 10 = g) (H : F_180 N g x x_1 x_2 σ = some p) : vz_ev P0 (d + 6) 180 0 (lv_args 0 [.ref 66, .int x_1, .int x_2]) [] (hp σ) (.inl none, hp p) := by
  unfold F_180 at H
  rcases hg with rfl | rfl
  · refine ev_x (i := .aload_n 0) (len := 1) (p' := 1) (s' := [.ref 66]) rfl rfl rfl ?_
    refine ev_gr (p' := 4) (v := 79) rfl rfl rfl ly_66 rfl rfl hr_66_10 ?_
    refine ev_gc (p' := 7) (v := 80) rfl rfl rfl ly_79 rfl rfl ?_
    refine ev_x (i := .iload_n 1) (len := 1) (p' := 8) (s' := [.int x_1, .ref 80]) rfl rfl rfl ?_
    obtain ⟨p_1, G_1, H⟩ := F_bd H
    refine ev_cv (d := d + 5) (As := [.int x_1]) (a := 80) (p' := 11) rfl rfl rfl ly_80 rfl rfl rfl rfl rfl rfl rfl (N_139_ok (d := d + 4) nm_80 G_1) ?_
    refine ev_st (st' := [.int p_1.1]) rfl ?_
    have e_1 := N_139_R G_1
    refine ev_x (i := .istore_n 3) (len := 1) (p' := 12) (s' := []) (l' := [(3, .int p_1.1), (0, .ref 66), (1, .int x_1), (2, .int x_2)]) rfl rfl rfl ?_
    refine ev_x (i := .aload_n 0) (len := 1) (p' := 13) (s' := [.ref 66]) rfl rfl rfl ?_
    refine ev_gr (p' := 16) (v := 79) rfl rfl rfl ly_66 rfl rfl ((congrFun (congrFun e_1 66) 10).trans hr_66_10) ?_
    refine ev_gc (p' := 19) (v := 82) rfl rfl rfl ly_79 rfl rfl ?_
    refine ev_x (i := .iload_n 1) (len := 1) (p' := 20) (s' := [.int x_1, .ref 82]) rfl rfl rfl ?_
    obtain ⟨p_2, G_2, H⟩ := F_bd H
    refine ev_cv (d := d + 5) (As := [.int x_1]) (a := 82) (p' := 23) rfl rfl rfl ly_82 rfl rfl rfl rfl rfl rfl rfl (N_139_ok (d := d + 4) nm_82 G_2) ?_
    refine ev_st (st' := [.int p_2.1]) rfl ?_
    have e_2 := N_139_R G_2
    refine ev_x (i := .istore 4) (len := 2) (p' := 25) (s' := []) (l' := [(4, .int p_2.1), (3, .int p_1.1), (0, .ref 66), (1, .int x_1), (2, .int x_2)]) rfl rfl rfl ?_
    refine ev_x (i := .aload_n 0) (len := 1) (p' := 26) (s' := [.ref 66]) rfl rfl rfl ?_
    refine ev_x (i := .iload_n 1) (len := 1) (p' := 27) (s' := [.int x_1, .ref 66]) rfl rfl rfl ?_
    obtain ⟨p_3, G_3, H⟩ := F_bd H
    refine ev_cv (d := d + 5) (As := [.int x_1]) (a := 66) (p' := 30) rfl rfl rfl ly_66 rfl rfl rfl rfl rfl rfl rfl (F_181_ok (d := d + 3) (hg := (Or.inl rfl)) (hr_66_10 := ((congrFun (congrFun e_2 66) 10).trans ((congrFun (congrFun e_1 66) 10).trans hr_66_10))) G_3) ?_
    refine ev_st (st' := [.int p_3.1]) rfl ?_
    have e_3 := F_181_R G_3
    refine ev_x (i := .istore 5) (len := 2) (p' := 32) (s' := []) (l' := [(5, .int p_3.1), (4, .int p_2.1), (3, .int p_1.1), (0, .ref 66), (1, .int x_1), (2, .int x_2)]) rfl rfl rfl ?_
    refine ev_x (i := .aload_n 0) (len := 1) (p' := 33) (s' := [.ref 66]) rfl rfl rfl ?_
    refine ev_gc (p' := 36) (v := 159) rfl rfl rfl ly_66 rfl rfl ?_
    refine ev_gi (p' := 39) (v := (gI p_3.2 159 1)) rfl rfl rfl ly_159 rfl rfl rfl ?_
    refine ev_x (i := .iload 5) (len := 2) (p' := 41) (s' := [.int p_3.1, .int (gI p_3.2 159 1)]) rfl rfl rfl ?_
    refine ev_x (i := .isub) (len := 1) (p' := 42) (s' := [.int ((gI p_3.2 159 1) - p_3.1)]) rfl rfl rfl ?_
    refine ev_x (i := .istore 6) (len := 2) (p' := 44) (s' := []) (l' := [(6, .int ((gI p_3.2 159 1) - p_3.1)), (5, .int p_3.1), (4, .int p_2.1), (3, .int p_1.1), (0, .ref 66), (1, .int x_1), (2, .int x_2)]) rfl rfl rfl ?_
    refine ev_x (i := .iconst 0) (len := 1) (p' := 45) (s' := [.int 0]) rfl rfl rfl ?_
    refine ev_x (i := .istore 7) (len := 2) (p' := 47) (s' := []) (l' := [(7, .int 0), (6, .int ((gI p_3.2 159 1) - p_3.1)), (5, .int p_3.1), (4, .int p_2.1), (3, .int p_1.1), (0, .ref 66), (1, .int x_1), (2, .int x_2)]) rfl rfl rfl ?_
    refine ev_x (i := .iload 6) (len := 2) (p' := 49) (s' := [.int ((gI p_3.2 159 1) - p_3.1)]) rfl rfl rfl ?_
    refine ev_x (i := .istore 8) (len := 2) (p' := 51) (s' := []) (l' := [(8, .int ((gI p_3.2 159 1) - p_3.1)), (7, .int 0), (6, .int ((gI p_3.2 159 1) - p_3.1)), (5, .int p_3.1), (4, .int p_2.1), (3, .int p_1.1), (0, .ref 66), (1, .int x_1), (2, .int x_2)]) rfl rfl rfl ?_
    exact (L_180_ok (d := d) (Or.inl rfl) hx N) _ _ _ _ _ _ _ _ _ _ _ rfl rfl rfl rfl rfl rfl rfl rfl rfl rfl ((congrFun (congrFun e_3 66) 2).trans ((congrFun (congrFun e_2 66) 2).trans ((congrFun (congrFun e_1 66) 2).trans hr_66_2))) ((congrFun (congrFun e_3 66) 10).trans ((congrFun (congrFun e_2 66) 10).trans ((congrFun (congrFun e_1 66) 10).trans hr_66_10))) H
  · refine ev_x (i := .aload_n 0) (len := 1) (p' := 1) (s' := [.ref 66]) rfl rfl rfl ?_
    refine ev_gr (p' := 4) (v := 115) rfl rfl rfl ly_66 rfl rfl hr_66_10 ?_
    refine ev_gc (p' := 7) (v := 116) rfl rfl rfl ly_115 rfl rfl ?_
    refine ev_x (i := .iload_n 1) (len := 1) (p' := 8) (s' := [.int x_1, .ref 116]) rfl rfl rfl ?_
    obtain ⟨p_1, G_1, H⟩ := F_bd H
    refine ev_cv (d := d + 5) (As := [.int x_1]) (a := 116) (p' := 11) rfl rfl rfl ly_116 rfl rfl rfl rfl rfl rfl rfl (N_139_ok (d := d + 4) nm_116 G_1) ?_
    refine ev_st (st' := [.int p_1.1]) rfl ?_
    have e_1 := N_139_R G_1
    refine ev_x (i := .istore_n 3) (len := 1) (p' := 12) (s' := []) (l' := [(3, .int p_1.1), (0, .ref 66), (1, .int x_1), (2, .int x_2)]) rfl rfl rfl ?_
    refine ev_x (i := .aload_n 0) (len := 1) (p' := 13) (s' := [.ref 66]) rfl rfl rfl ?_
    refine ev_gr (p' := 16) (v := 115) rfl rfl rfl ly_66 rfl rfl ((congrFun (congrFun e_1 66) 10).trans hr_66_10) ?_
    refine ev_gc (p' := 19) (v := 118) rfl rfl rfl ly_115 rfl rfl ?_
    refine ev_x (i := .iload_n 1) (len := 1) (p' := 20) (s' := [.int x_1, .ref 118]) rfl rfl rfl ?_
    obtain ⟨p_2, G_2, H⟩ := F_bd H
    refine ev_cv (d := d + 5) (As := [.int x_1]) (a := 118) (p' := 23) rfl rfl rfl ly_118 rfl rfl rfl rfl rfl rfl rfl (N_139_ok (d := d + 4) nm_118 G_2) ?_
    refine ev_st (st' := [.int p_2.1]) rfl ?_
    have e_2 := N_139_R G_2
    refine ev_x (i := .istore 4) (len := 2) (p' := 25) (s' := []) (l' := [(4, .int p_2.1), (3, .int p_1.1), (0, .ref 66), (1, .int x_1), (2, .int x_2)]) rfl rfl rfl ?_
    refine ev_x (i := .aload_n 0) (len := 1) (p' := 26) (s' := [.ref 66]) rfl rfl rfl ?_
    refine ev_x (i := .iload_n 1) (len := 1) (p' := 27) (s' := [.int x_1, .ref 66]) rfl rfl rfl ?_
    obtain ⟨p_3, G_3, H⟩ := F_bd H
    refine ev_cv (d := d + 5) (As := [.int x_1]) (a := 66) (p' := 30) rfl rfl rfl ly_66 rfl rfl rfl rfl rfl rfl rfl (F_181_ok (d := d + 3) (hg := (Or.inr rfl)) (hr_66_10 := ((congrFun (congrFun e_2 66) 10).trans ((congrFun (congrFun e_1 66) 10).trans hr_66_10))) G_3) ?_
    refine ev_st (st' := [.int p_3.1]) rfl ?_
    have e_3 := F_181_R G_3
    refine ev_x (i := .istore 5) (len := 2) (p' := 32) (s' := []) (l' := [(5, .int p_3.1), (4, .int p_2.1), (3, .int p_1.1), (0, .ref 66), (1, .int x_1), (2, .int x_2)]) rfl rfl rfl ?_
    refine ev_x (i := .aload_n 0) (len := 1) (p' := 33) (s' := [.ref 66]) rfl rfl rfl ?_
    refine ev_gc (p' := 36) (v := 159) rfl rfl rfl ly_66 rfl rfl ?_
    refine ev_gi (p' := 39) (v := (gI p_3.2 159 1)) rfl rfl rfl ly_159 rfl rfl rfl ?_
    refine ev_x (i := .iload 5) (len := 2) (p' := 41) (s' := [.int p_3.1, .int (gI p_3.2 159 1)]) rfl rfl rfl ?_
    refine ev_x (i := .isub) (len := 1) (p' := 42) (s' := [.int ((gI p_3.2 159 1) - p_3.1)]) rfl rfl rfl ?_
    refine ev_x (i := .istore 6) (len := 2) (p' := 44) (s' := []) (l' := [(6, .int ((gI p_3.2 159 1) - p_3.1)), (5, .int p_3.1), (4, .int p_2.1), (3, .int p_1.1), (0, .ref 66), (1, .int x_1), (2, .int x_2)]) rfl rfl rfl ?_
    refine ev_x (i := .iconst 0) (len := 1) (p' := 45) (s' := [.int 0]) rfl rfl rfl ?_
    refine ev_x (i := .istore 7) (len := 2) (p' := 47) (s' := []) (l' := [(7, .int 0), (6, .int ((gI p_3.2 159 1) - p_3.1)), (5, .int p_3.1), (4, .int p_2.1), (3, .int p_1.1), (0, .ref 66), (1, .int x_1), (2, .int x_2)]) rfl rfl rfl ?_
    refine ev_x (i := .iload 6) (len := 2) (p' := 49) (s' := [.int ((gI p_3.2 159 1) - p_3.1)]) rfl rfl rfl ?_
    refine ev_x (i := .istore 8) (len := 2) (p' := 51) (s' := []) (l' := [(8, .int ((gI p_3.2 159 1) - p_3.1)), (7, .int 0), (6, .int ((gI p_3.2 159 1) - p_3.1)), (5, .int p_3.1), (4, .int p_2.1), (3, .int p_1.1), (0, .ref 66), (1, .int x_1), (2, .int x_2)]) rfl rfl rfl ?_
    exact (L_180_ok (d := d) (Or.inr rfl) hx N) _ _ _ _ _ _ _ _ _ _ _ rfl rfl rfl rfl rfl rfl rfl rfl rfl rfl ((congrFun (congrFun e_3 66) 2).trans ((congrFun (congrFun e_2 66) 2).trans ((congrFun (congrFun e_1 66) 2).trans hr_66_2))) ((congrFun (congrFun e_3 66) 10).trans ((congrFun (congrFun e_2 66) 10).trans ((congrFun (congrFun e_1 66) 10).trans hr_66_10))) H
/-- GameTextModel.turn(I)V, its loops -/
def L_184 (N : Nat) : Nat → Int32 → Int32 → st_S → Option (st_S)
  | 0, _, _, _ => none
  | k + 1, l_2, l_3, σ =>
      if l_3 ≤ l_2 then
        some (σ)
      else
        (N_139 N 161 l_2 (σ)).bind fun p_2 =>
        (N_139 N 161 l_3 (p_2.2)).bind fun p_3 =>
        if aB l_2 (gN p_3.2 162) then
        if aB l_3 (gN p_3.2 162) then
        L_184 N k (l_2 + 2) (l_3 - 2) (st_e (st_e (p_3.2) 162 ((l_2 : Int32).toNatClampNeg) p_3.1) 162 ((l_3 : Int32).toNatClampNeg) p_2.1)
        else none
        else none
set_option maxRecDepth 100000 in
theorem L_184_R {N : Nat} : ∀ (k : Nat) (l_2 : Int32) (l_3 : Int32) (σ : st_S) (p : st_S), L_184 N k l_2 l_3 σ = some p → gR p = gR σ := by
  intro k
  induction k with
  | zero => intro l_2 l_3 σ p H; unfold L_184 at H; cases H
  | succ k ih =>
    intro l_2 l_3 σ p H
    unfold L_184 at H
    refine F_if H (fun _ H => ?_) (fun _ H => ?_)
    · obtain rfl := Option.some.inj H
      exact rfl
    · obtain ⟨p_2, G_2, H⟩ := F_bd H
      obtain ⟨p_3, G_3, H⟩ := F_bd H
      obtain ⟨_, H⟩ := F_gd H
      obtain ⟨_, H⟩ := F_gd H
      exact (((ih _ _ _ _ H)).trans ((N_139_R G_3).trans ((N_139_R G_2).trans rfl)))
set_option maxHeartbeats 4000000 in
set_option maxRecDepth 100000 in
theorem L_184_ok {N d : Nat} : ∀ k : Nat, ∀ (l_2 : Int32) (l_3 : Int32) (σ : st_S) (lv : vz_L) (p : st_S), vz_g lv 0 = some (.ref 66) → vz_g lv 2 = some (.int l_2) → vz_g lv 3 = some (.int l_3) → vz_nbL (vz_gr P0) lv = true → L_184 N k l_2 l_3 σ = some p → vz_ev P0 (d + 2) 184 12 lv [] (hp σ) (.inl none, hp p) := by
  intro k
  induction k with
  | zero => intro l_2 l_3 σ lv p g_0 g_2 g_3 hnb H; unfold L_184 at H; cases H
  | succ k ih =>
    intro l_2 l_3 σ lv p g_0 g_2 g_3 hnb H
    unfold L_184 at H
    refine ev_x (i := .iload_n 2) (len := 1) (p' := 13) (s' := [.int l_2]) rfl rfl (ld_i g_2) ?_
    refine ev_x (i := .iload_n 3) (len := 1) (p' := 14) (s' := [.int l_3, .int l_2]) rfl rfl (ld_i g_3) ?_
    refine F_if H (fun c_1 H => ?_) (fun c_1 H => ?_)
    · refine ev_b2 (t := 66) (p' := 66) rfl rfl rfl (if_pos c_1) ?_
      obtain rfl := Option.some.inj H
      exact ev_vret rfl rfl rfl
    · refine ev_b2 (t := 66) (p' := 17) rfl rfl rfl (if_neg c_1) ?_
      refine ev_x (i := .aload_n 0) (len := 1) (p' := 18) (s' := [.ref 66]) rfl rfl (ld_a g_0) ?_
      refine ev_gc (p' := 21) (v := 161) rfl rfl rfl ly_66 rfl rfl ?_
      refine ev_x (i := .iload_n 2) (len := 1) (p' := 22) (s' := [.int l_2, .ref 161]) rfl rfl (ld_i g_2) ?_
      obtain ⟨p_2, G_2, H⟩ := F_bd H
      refine ev_cv (d := d + 1) (As := [.int l_2]) (a := 161) (p' := 25) rfl rfl rfl ly_161 rfl rfl rfl rfl rfl hnb rfl (N_139_ok (d := d + 0) nm_161 G_2) ?_
      refine ev_st (st' := [.int p_2.1]) rfl ?_
      have e_2 := N_139_R G_2
      refine ev_x (i := .istore 4) (len := 2) (p' := 27) (s' := []) (l' := vz_s1 (lv) 4 (.int p_2.1)) rfl rfl rfl ?_
      refine ev_x (i := .aload_n 0) (len := 1) (p' := 28) (s' := [.ref 66]) rfl rfl (ld_a (vg_o (i := 4) (v := .int p_2.1) g_0 (by decide) (Or.inl rfl))) ?_
      refine ev_gc (p' := 31) (v := 161) rfl rfl rfl ly_66 rfl rfl ?_
      refine ev_gc (p' := 34) (v := 162) rfl rfl rfl ly_161 rfl rfl ?_
      refine ev_x (i := .iload_n 2) (len := 1) (p' := 35) (s' := [.int l_2, .ref 162]) rfl rfl (ld_i (vg_o (i := 4) (v := .int p_2.1) g_2 (by decide) (Or.inl rfl))) ?_
      refine ev_x (i := .aload_n 0) (len := 1) (p' := 36) (s' := [.ref 66, .int l_2, .ref 162]) rfl rfl (ld_a (vg_o (i := 4) (v := .int p_2.1) g_0 (by decide) (Or.inl rfl))) ?_
      refine ev_gc (p' := 39) (v := 161) rfl rfl rfl ly_66 rfl rfl ?_
      refine ev_x (i := .iload_n 3) (len := 1) (p' := 40) (s' := [.int l_3, .ref 161, .int l_2, .ref 162]) rfl rfl (ld_i (vg_o (i := 4) (v := .int p_2.1) g_3 (by decide) (Or.inl rfl))) ?_
      obtain ⟨p_3, G_3, H⟩ := F_bd H
      refine ev_cv (d := d + 1) (As := [.int l_3]) (a := 161) (p' := 43) rfl rfl rfl ly_161 rfl rfl rfl rfl rfl (nb_s1 hnb rfl) rfl (N_139_ok (d := d + 0) nm_161 G_3) ?_
      refine ev_st (st' := [.int p_3.1, .int l_2, .ref 162]) rfl ?_
      have e_3 := N_139_R G_3
      obtain ⟨b_4, H⟩ := F_gd H
      refine ev_pa (j := (l_2 : Int32).toNatClampNeg) (p' := 44) rfl rfl ly_162 rfl (gd_in b_4) rfl ?_
      refine ev_x (i := .aload_n 0) (len := 1) (p' := 45) (s' := [.ref 66]) rfl rfl (ld_a (vg_o (i := 4) (v := .int p_2.1) g_0 (by decide) (Or.inl rfl))) ?_
      refine ev_gc (p' := 48) (v := 161) rfl rfl rfl ly_66 rfl rfl ?_
      refine ev_gc (p' := 51) (v := 162) rfl rfl rfl ly_161 rfl rfl ?_
      refine ev_x (i := .iload_n 3) (len := 1) (p' := 52) (s' := [.int l_3, .ref 162]) rfl rfl (ld_i (vg_o (i := 4) (v := .int p_2.1) g_3 (by decide) (Or.inl rfl))) ?_
      refine ev_x (i := .iload 4) (len := 2) (p' := 54) (s' := [.int p_2.1, .int l_3, .ref 162]) rfl rfl (ld_i (vg_s (lv) 4 (.int p_2.1))) ?_
      obtain ⟨b_5, H⟩ := F_gd H
      refine ev_pa (j := (l_3 : Int32).toNatClampNeg) (p' := 55) rfl rfl ly_162 rfl (gd_in b_5) rfl ?_
      refine ev_x (i := .iload_n 2) (len := 1) (p' := 56) (s' := [.int l_2]) rfl rfl (ld_i (vg_o (i := 4) (v := .int p_2.1) g_2 (by decide) (Or.inl rfl))) ?_
      refine ev_x (i := .iconst 2) (len := 1) (p' := 57) (s' := [.int 2, .int l_2]) rfl rfl rfl ?_
      refine ev_x (i := .iadd) (len := 1) (p' := 58) (s' := [.int (l_2 + 2)]) rfl rfl rfl ?_
      refine ev_x (i := .istore_n 2) (len := 1) (p' := 59) (s' := []) (l' := vz_s1 (vz_s1 (lv) 4 (.int p_2.1)) 2 (.int (l_2 + 2))) rfl rfl rfl ?_
      refine ev_x (i := .iload_n 3) (len := 1) (p' := 60) (s' := [.int l_3]) rfl rfl (ld_i (vg_o (i := 2) (v := .int (l_2 + 2)) (vg_o (i := 4) (v := .int p_2.1) g_3 (by decide) (Or.inl rfl)) (by decide) (Or.inl rfl))) ?_
      refine ev_x (i := .iconst 2) (len := 1) (p' := 61) (s' := [.int 2, .int l_3]) rfl rfl rfl ?_
      refine ev_x (i := .isub) (len := 1) (p' := 62) (s' := [.int (l_3 - 2)]) rfl rfl rfl ?_
      refine ev_x (i := .istore_n 3) (len := 1) (p' := 63) (s' := []) (l' := vz_s1 (vz_s1 (vz_s1 (lv) 4 (.int p_2.1)) 2 (.int (l_2 + 2))) 3 (.int (l_3 - 2))) rfl rfl rfl ?_
      refine ev_x (i := .goto (-51)) (len := 3) (p' := 12) (s' := []) rfl rfl rfl ?_
      exact ih _ _ _ _ _ (vg_o (i := 3) (v := .int (l_3 - 2)) (vg_o (i := 2) (v := .int (l_2 + 2)) (vg_o (i := 4) (v := .int p_2.1) g_0 (by decide) (Or.inl rfl)) (by decide) (Or.inl rfl)) (by decide) (Or.inl rfl)) (vg_o (i := 3) (v := .int (l_3 - 2)) (vg_s (vz_s1 (lv) 4 (.int p_2.1)) 2 (.int (l_2 + 2))) (by decide) (Or.inl rfl)) (vg_s (vz_s1 (vz_s1 (lv) 4 (.int p_2.1)) 2 (.int (l_2 + 2))) 3 (.int (l_3 - 2))) (nb_s1 (nb_s1 (nb_s1 hnb rfl) rfl) rfl)  H
/-- GameTextModel.turn(I)V -/
def F_184 (N : Nat) (x_1 : Int32) (σ : st_S) : Option (st_S) :=
  L_184 N N x_1 ((gI σ 161 1) - 2) (σ)
set_option maxRecDepth 100000 in
theorem F_184_R {N : Nat} {x_1 : Int32} {σ : st_S} {p : st_S} (H : F_184 N x_1 σ = some p) : gR p = gR σ := by
  unfold F_184 at H
  exact (((L_184_R _ _ _ _ _ H)).trans rfl)
set_option maxHeartbeats 4000000 in
set_option maxRecDepth 100000 in
theorem F_184_ok {N d : Nat} {x_1 : Int32} {σ : st_S} {p : st_S}  (H : F_184 N x_1 σ = some p) : vz_ev P0 (d + 2) 184 0 (lv_args 0 [.ref 66, .int x_1]) [] (hp σ) (.inl none, hp p) := by
  unfold F_184 at H
  refine ev_x (i := .iload_n 1) (len := 1) (p' := 1) (s' := [.int x_1]) rfl rfl rfl ?_
  refine ev_x (i := .istore_n 2) (len := 1) (p' := 2) (s' := []) (l' := [(2, .int x_1), (0, .ref 66), (1, .int x_1)]) rfl rfl rfl ?_
  refine ev_x (i := .aload_n 0) (len := 1) (p' := 3) (s' := [.ref 66]) rfl rfl rfl ?_
  refine ev_gc (p' := 6) (v := 161) rfl rfl rfl ly_66 rfl rfl ?_
  refine ev_gi (p' := 9) (v := (gI σ 161 1)) rfl rfl rfl ly_161 rfl rfl rfl ?_
  refine ev_x (i := .iconst 2) (len := 1) (p' := 10) (s' := [.int 2, .int (gI σ 161 1)]) rfl rfl rfl ?_
  refine ev_x (i := .isub) (len := 1) (p' := 11) (s' := [.int ((gI σ 161 1) - 2)]) rfl rfl rfl ?_
  refine ev_x (i := .istore_n 3) (len := 1) (p' := 12) (s' := []) (l' := [(3, .int ((gI σ 161 1) - 2)), (2, .int x_1), (0, .ref 66), (1, .int x_1)]) rfl rfl rfl ?_
  exact (L_184_ok (d := d) N) _ _ _ _ _ rfl rfl rfl rfl  H
/-- GameTextModel.look(IZ)Z, from 174 -/
def J_179_174 (N : Nat) (g : Nat) (x : Nat) (σ : st_S) : Option (Int32 × st_S) :=
  if (gI σ 66 16) = 0 then
    (N_183 N 159 (σ)).bind fun p_20 =>
    some ((if p_20.1 = 1 then 1 else 0 : Int32), p_20.2)
  else
    some (0, σ)
set_option maxRecDepth 100000 in
theorem J_179_174_R {N : Nat} {g : Nat} {x : Nat} {σ : st_S} {p : Int32 × st_S} (H : J_179_174 N g x σ = some p) : gR p.2 = gR σ := by
  unfold J_179_174 at H
  refine F_if H (fun _ H => ?_) (fun _ H => ?_)
  · obtain ⟨p_20, G_20, H⟩ := F_bd H
    obtain rfl := Option.some.inj H
    exact ((N_183_R G_20).trans rfl)
  · obtain rfl := Option.some.inj H
    exact rfl
set_option maxHeartbeats 4000000 in
set_option maxRecDepth 100000 in
theorem J_179_174_ok {N d : Nat} {g : Nat} (hg : g = 79 ∨ g = 115) {x : Nat} (hx : x = 67 ∨ x = 69) {σ : st_S} {lv : vz_L} {p : Int32 × st_S} (g_0 : vz_g lv 0 = some (.ref 66)) (hnb : vz_nbL (vz_gr P0) lv = true) (hr_66_2 : gR σ 66 2 = x) (hr_66_10 : gR σ 66 10 = g) (H : J_179_174 N g x σ = some p) : vz_ev P0 (d + 7) 179 174 lv [] (hp σ) (.inl (some (.int p.1)), hp p.2) := by
  unfold J_179_174 at H
  refine ev_x (i := .aload_n 0) (len := 1) (p' := 175) (s' := [.ref 66]) rfl rfl (ld_a g_0) ?_
  refine ev_gi (p' := 178) (v := (gI σ 66 16)) rfl rfl rfl ly_66 rfl rfl rfl ?_
  refine F_if H (fun c_19 H => ?_) (fun c_19 H => ?_)
  · refine ev_b0 (t := 196) (p' := 181) rfl rfl rfl (if_neg (fun q => q c_19)) ?_
    refine ev_x (i := .aload_n 0) (len := 1) (p' := 182) (s' := [.ref 66]) rfl rfl (ld_a g_0) ?_
    refine ev_gc (p' := 185) (v := 159) rfl rfl rfl ly_66 rfl rfl ?_
    obtain ⟨p_20, G_20, H⟩ := F_bd H
    refine ev_cv (d := d + 6) (As := []) (a := 159) (p' := 188) rfl rfl rfl ly_159 rfl rfl rfl rfl rfl hnb rfl (N_183_ok (d := d + 5) nm_159 G_20) ?_
    refine ev_st (st' := [.int p_20.1]) rfl ?_
    have e_20 := N_183_R G_20
    refine ev_x (i := .iconst 1) (len := 1) (p' := 189) (s' := [.int 1, .int p_20.1]) rfl rfl rfl ?_
    refine F_jn (A := vz_ev P0 (d + 7) 179 197 (lv) [.int (if p_20.1 = 1 then 1 else 0 : Int32)] (hp (p_20.2)) (.inl (some (.int p.1)), hp p.2)) ?_ (fun J => ?_)
    · obtain rfl := Option.some.inj H
      exact ev_iret rfl rfl rfl (fit_b (by (repeat' split) <;> decide))
    · by_cases c_21 : p_20.1 = 1
      · refine ev_b2 (t := 196) (p' := 192) rfl rfl rfl (if_neg (fun q => q c_21)) ?_
        refine ev_x (i := .iconst 1) (len := 1) (p' := 193) (s' := [.int 1]) rfl rfl rfl ?_
        refine ev_x (i := .goto 4) (len := 3) (p' := 197) (s' := [.int 1]) rfl rfl rfl ?_
        exact ev_st (congrArg (fun z => Value.int z :: []) (by rw [if_pos c_21])) J
      · refine ev_b2 (t := 196) (p' := 196) rfl rfl rfl (if_pos c_21) ?_
        refine ev_x (i := .iconst 0) (len := 1) (p' := 197) (s' := [.int 0]) rfl rfl rfl ?_
        exact ev_st (congrArg (fun z => Value.int z :: []) (by rw [if_neg c_21])) J
  · refine ev_b0 (t := 196) (p' := 196) rfl rfl rfl (if_pos c_19) ?_
    refine ev_x (i := .iconst 0) (len := 1) (p' := 197) (s' := [.int 0]) rfl rfl rfl ?_
    obtain rfl := Option.some.inj H
    exact ev_iret rfl rfl rfl rfl
/-- GameTextModel.look(IZ)Z, its loops -/
def L_179 (N : Nat) (g : Nat) (x : Nat) : Nat → Nat → Int32 → Int32 → Int32 → st_S → Option (Int32 × st_S)
  | 0, _, _, _, _, _ => none
  | k + 1, w, l_2, l_5, l_6, σ =>
    if w = 32 then
      if (gI σ 161 1) ≤ 0 then
        J_179_174 N g x (σ)
      else
        if (gI σ 66 16) = 0 then
          (N_148 N 161 (σ)).bind fun p_5 =>
          (N_148 N 161 (p_5.2)).bind fun p_6 =>
          (N_139 N (g + 9) p_6.1 (p_6.2)).bind fun p_7 =>
          if p_5.1 = 1 then
            (F_180 N g x p_6.1 l_2 (p_7.2)).bind fun p_9 =>
            L_179 N g x k 32 l_2 0 0 (p_9)
          else
            if 0 ≤ p_7.1 then
              (N_133 N 161 p_6.1 (p_7.2)).bind fun p_11 =>
              (N_133 N 161 1 (p_11)).bind fun p_12 =>
              L_179 N g x k 126 l_2 p_7.1 (gI p_12 161 1) (p_12)
            else
              (F_180 N g x p_6.1 l_2 (p_7.2)).bind fun p_13 =>
              L_179 N g x k 32 l_2 0 0 (p_13)
        else
          J_179_174 N g x (σ)
    else
      if l_5 < 0 then
        (F_184 N l_6 (σ)).bind fun p_15 =>
        L_179 N g x k 32 l_2 0 0 (p_15)
      else
        (N_133 N 161 l_5 (σ)).bind fun p_16 =>
        (N_133 N 161 0 (p_16)).bind fun p_17 =>
        (N_139 N (g + 11) l_5 (p_17)).bind fun p_18 =>
        L_179 N g x k 126 l_2 p_18.1 l_6 (p_18.2)
set_option maxRecDepth 100000 in
theorem L_179_R {N : Nat} {g : Nat} {x : Nat} : ∀ (k : Nat) (w : Nat) (l_2 : Int32) (l_5 : Int32) (l_6 : Int32) (σ : st_S) (p : Int32 × st_S), L_179 N g x k w l_2 l_5 l_6 σ = some p → gR p.2 = gR σ := by
  intro k
  induction k with
  | zero => intro w l_2 l_5 l_6 σ p H; unfold L_179 at H; cases H
  | succ k ih =>
    intro w l_2 l_5 l_6 σ p H
    unfold L_179 at H
    refine F_if H (fun _ H => ?_) (fun _ H => ?_)
    · refine F_if H (fun _ H => ?_) (fun _ H => ?_)
      · exact (((J_179_174_R H)).trans rfl)
      · refine F_if H (fun _ H => ?_) (fun _ H => ?_)
        · obtain ⟨p_5, G_5, H⟩ := F_bd H
          obtain ⟨p_6, G_6, H⟩ := F_bd H
          obtain ⟨p_7, G_7, H⟩ := F_bd H
          refine F_if H (fun _ H => ?_) (fun _ H => ?_)
          · obtain ⟨p_9, G_9, H⟩ := F_bd H
            exact (((ih _ _ _ _ _ _ H)).trans ((F_180_R G_9).trans ((N_139_R G_7).trans ((N_148_R G_6).trans ((N_148_R G_5).trans rfl)))))
          · refine F_if H (fun _ H => ?_) (fun _ H => ?_)
            · obtain ⟨p_11, G_11, H⟩ := F_bd H
              obtain ⟨p_12, G_12, H⟩ := F_bd H
              exact (((ih _ _ _ _ _ _ H)).trans ((N_133_R G_12).trans ((N_133_R G_11).trans ((N_139_R G_7).trans ((N_148_R G_6).trans ((N_148_R G_5).trans rfl))))))
            · obtain ⟨p_13, G_13, H⟩ := F_bd H
              exact (((ih _ _ _ _ _ _ H)).trans ((F_180_R G_13).trans ((N_139_R G_7).trans ((N_148_R G_6).trans ((N_148_R G_5).trans rfl)))))
        · exact (((J_179_174_R H)).trans rfl)
    · skip
      refine F_if H (fun _ H => ?_) (fun _ H => ?_)
      · obtain ⟨p_15, G_15, H⟩ := F_bd H
        exact (((ih _ _ _ _ _ _ H)).trans ((F_184_R G_15).trans rfl))
      · obtain ⟨p_16, G_16, H⟩ := F_bd H
        obtain ⟨p_17, G_17, H⟩ := F_bd H
        obtain ⟨p_18, G_18, H⟩ := F_bd H
        exact (((ih _ _ _ _ _ _ H)).trans ((N_139_R G_18).trans ((N_133_R G_17).trans ((N_133_R G_16).trans rfl))))
set_option maxHeartbeats 4000000 in
set_option maxRecDepth 100000 in
theorem L_179_ok {N d : Nat} {g : Nat} (hg : g = 79 ∨ g = 115) {x : Nat} (hx : x = 67 ∨ x = 69) : ∀ k : Nat, (∀ (l_2 : Int32) (l_5 : Int32) (l_6 : Int32) (σ : st_S) (lv : vz_L) (p : Int32 × st_S), vz_g lv 0 = some (.ref 66) → vz_g lv 2 = some (.int l_2) → vz_nbL (vz_gr P0) lv = true → gR σ 66 2 = x → gR σ 66 10 = g → L_179 N g x k 32 l_2 l_5 l_6 σ = some p → vz_ev P0 (d + 7) 179 32 lv [] (hp σ) (.inl (some (.int p.1)), hp p.2)) ∧ (∀ (l_2 : Int32) (l_5 : Int32) (l_6 : Int32) (σ : st_S) (lv : vz_L) (p : Int32 × st_S), vz_g lv 0 = some (.ref 66) → vz_g lv 2 = some (.int l_2) → vz_g lv 5 = some (.int l_5) → vz_g lv 6 = some (.int l_6) → vz_nbL (vz_gr P0) lv = true → gR σ 66 2 = x → gR σ 66 10 = g → L_179 N g x k 126 l_2 l_5 l_6 σ = some p → vz_ev P0 (d + 7) 179 126 lv [] (hp σ) (.inl (some (.int p.1)), hp p.2)) := by
  rcases hg with rfl | rfl
  · intro k
    induction k with
    | zero => exact ⟨(by intro l_2 l_5 l_6 σ lv p g_0 g_2 hnb hr_66_2 hr_66_10 H; unfold L_179 at H; cases H), (by intro l_2 l_5 l_6 σ lv p g_0 g_2 g_5 g_6 hnb hr_66_2 hr_66_10 H; unfold L_179 at H; cases H)⟩
    | succ k ih =>
      refine ⟨?_, ?_⟩
      · intro l_2 l_5 l_6 σ lv p g_0 g_2 hnb hr_66_2 hr_66_10 H
        unfold L_179 at H
        rw [if_pos rfl] at H
        refine ev_x (i := .aload_n 0) (len := 1) (p' := 33) (s' := [.ref 66]) rfl rfl (ld_a g_0) ?_
        refine ev_gc (p' := 36) (v := 161) rfl rfl rfl ly_66 rfl rfl ?_
        refine ev_gi (p' := 39) (v := (gI σ 161 1)) rfl rfl rfl ly_161 rfl rfl rfl ?_
        refine F_if H (fun c_3 H => ?_) (fun c_3 H => ?_)
        · refine ev_b0 (t := 174) (p' := 174) rfl rfl rfl (if_pos c_3) ?_
          exact J_179_174_ok (d := d) (Or.inl rfl) hx g_0 hnb hr_66_2 hr_66_10 H
        · refine ev_b0 (t := 174) (p' := 42) rfl rfl rfl (if_neg c_3) ?_
          refine ev_x (i := .aload_n 0) (len := 1) (p' := 43) (s' := [.ref 66]) rfl rfl (ld_a g_0) ?_
          refine ev_gi (p' := 46) (v := (gI σ 66 16)) rfl rfl rfl ly_66 rfl rfl rfl ?_
          refine F_if H (fun c_4 H => ?_) (fun c_4 H => ?_)
          · refine ev_b0 (t := 174) (p' := 49) rfl rfl rfl (if_neg (fun q => q c_4)) ?_
            refine ev_x (i := .aload_n 0) (len := 1) (p' := 50) (s' := [.ref 66]) rfl rfl (ld_a g_0) ?_
            refine ev_gc (p' := 53) (v := 161) rfl rfl rfl ly_66 rfl rfl ?_
            obtain ⟨p_5, G_5, H⟩ := F_bd H
            refine ev_cv (d := d + 6) (As := []) (a := 161) (p' := 56) rfl rfl rfl ly_161 rfl rfl rfl rfl rfl hnb rfl (N_148_ok (d := d + 5) nm_161 G_5) ?_
            refine ev_st (st' := [.int p_5.1]) rfl ?_
            have e_5 := N_148_R G_5
            refine ev_x (i := .istore_n 3) (len := 1) (p' := 57) (s' := []) (l' := vz_s1 (lv) 3 (.int p_5.1)) rfl rfl rfl ?_
            refine ev_x (i := .aload_n 0) (len := 1) (p' := 58) (s' := [.ref 66]) rfl rfl (ld_a (vg_o (i := 3) (v := .int p_5.1) g_0 (by decide) (Or.inl rfl))) ?_
            refine ev_gc (p' := 61) (v := 161) rfl rfl rfl ly_66 rfl rfl ?_
            obtain ⟨p_6, G_6, H⟩ := F_bd H
            refine ev_cv (d := d + 6) (As := []) (a := 161) (p' := 64) rfl rfl rfl ly_161 rfl rfl rfl rfl rfl (nb_s1 hnb rfl) rfl (N_148_ok (d := d + 5) nm_161 G_6) ?_
            refine ev_st (st' := [.int p_6.1]) rfl ?_
            have e_6 := N_148_R G_6
            refine ev_x (i := .istore 4) (len := 2) (p' := 66) (s' := []) (l' := vz_s1 (vz_s1 (lv) 3 (.int p_5.1)) 4 (.int p_6.1)) rfl rfl rfl ?_
            refine ev_x (i := .aload_n 0) (len := 1) (p' := 67) (s' := [.ref 66]) rfl rfl (ld_a (vg_o (i := 4) (v := .int p_6.1) (vg_o (i := 3) (v := .int p_5.1) g_0 (by decide) (Or.inl rfl)) (by decide) (Or.inl rfl))) ?_
            refine ev_gr (p' := 70) (v := 79) rfl rfl rfl ly_66 rfl rfl ((congrFun (congrFun e_6 66) 10).trans ((congrFun (congrFun e_5 66) 10).trans hr_66_10)) ?_
            refine ev_gc (p' := 73) (v := 88) rfl rfl rfl ly_79 rfl rfl ?_
            refine ev_x (i := .iload 4) (len := 2) (p' := 75) (s' := [.int p_6.1, .ref 88]) rfl rfl (ld_i (vg_s (vz_s1 (lv) 3 (.int p_5.1)) 4 (.int p_6.1))) ?_
            obtain ⟨p_7, G_7, H⟩ := F_bd H
            refine ev_cv (d := d + 6) (As := [.int p_6.1]) (a := 88) (p' := 78) rfl rfl rfl ly_88 rfl rfl rfl rfl rfl (nb_s1 (nb_s1 hnb rfl) rfl) rfl (N_139_ok (d := d + 5) nm_88 G_7) ?_
            refine ev_st (st' := [.int p_7.1]) rfl ?_
            have e_7 := N_139_R G_7
            refine ev_x (i := .istore 5) (len := 2) (p' := 80) (s' := []) (l' := vz_s1 (vz_s1 (vz_s1 (lv) 3 (.int p_5.1)) 4 (.int p_6.1)) 5 (.int p_7.1)) rfl rfl rfl ?_
            refine ev_x (i := .iload_n 3) (len := 1) (p' := 81) (s' := [.int p_5.1]) rfl rfl (ld_i (vg_o (i := 5) (v := .int p_7.1) (vg_o (i := 4) (v := .int p_6.1) (vg_s (lv) 3 (.int p_5.1)) (by decide) (Or.inl rfl)) (by decide) (Or.inl rfl))) ?_
            refine ev_x (i := .iconst 1) (len := 1) (p' := 82) (s' := [.int 1, .int p_5.1]) rfl rfl rfl ?_
            refine F_if H (fun c_8 H => ?_) (fun c_8 H => ?_)
            · refine ev_b2 (t := 90) (p' := 90) rfl rfl rfl (if_pos c_8) ?_
              refine ev_x (i := .aload_n 0) (len := 1) (p' := 91) (s' := [.ref 66]) rfl rfl (ld_a (vg_o (i := 5) (v := .int p_7.1) (vg_o (i := 4) (v := .int p_6.1) (vg_o (i := 3) (v := .int p_5.1) g_0 (by decide) (Or.inl rfl)) (by decide) (Or.inl rfl)) (by decide) (Or.inl rfl))) ?_
              refine ev_x (i := .iload 4) (len := 2) (p' := 93) (s' := [.int p_6.1, .ref 66]) rfl rfl (ld_i (vg_o (i := 5) (v := .int p_7.1) (vg_s (vz_s1 (lv) 3 (.int p_5.1)) 4 (.int p_6.1)) (by decide) (Or.inl rfl))) ?_
              refine ev_x (i := .iload_n 2) (len := 1) (p' := 94) (s' := [.int l_2, .int p_6.1, .ref 66]) rfl rfl (ld_i (vg_o (i := 5) (v := .int p_7.1) (vg_o (i := 4) (v := .int p_6.1) (vg_o (i := 3) (v := .int p_5.1) g_2 (by decide) (Or.inl rfl)) (by decide) (Or.inl rfl)) (by decide) (Or.inl rfl))) ?_
              obtain ⟨p_9, G_9, H⟩ := F_bd H
              refine ev_cv (d := d + 6) (As := [.int p_6.1, .int l_2]) (a := 66) (p' := 97) rfl rfl rfl ly_66 rfl rfl rfl rfl rfl (nb_s1 (nb_s1 (nb_s1 hnb rfl) rfl) rfl) rfl (F_180_ok (d := d + 0) (hg := (Or.inl rfl)) (hx := hx) (hr_66_2 := ((congrFun (congrFun e_7 66) 2).trans ((congrFun (congrFun e_6 66) 2).trans ((congrFun (congrFun e_5 66) 2).trans hr_66_2)))) (hr_66_10 := ((congrFun (congrFun e_7 66) 10).trans ((congrFun (congrFun e_6 66) 10).trans ((congrFun (congrFun e_5 66) 10).trans hr_66_10)))) G_9) ?_
              refine ev_st (st' := []) rfl ?_
              have e_9 := F_180_R G_9
              refine ev_x (i := .goto 74) (len := 3) (p' := 171) (s' := []) rfl rfl rfl ?_
              refine ev_x (i := .goto (-139)) (len := 3) (p' := 32) (s' := []) rfl rfl rfl ?_
              exact ih.1 _ _ _ _ _ _ (vg_o (i := 5) (v := .int p_7.1) (vg_o (i := 4) (v := .int p_6.1) (vg_o (i := 3) (v := .int p_5.1) g_0 (by decide) (Or.inl rfl)) (by decide) (Or.inl rfl)) (by decide) (Or.inl rfl)) (vg_o (i := 5) (v := .int p_7.1) (vg_o (i := 4) (v := .int p_6.1) (vg_o (i := 3) (v := .int p_5.1) g_2 (by decide) (Or.inl rfl)) (by decide) (Or.inl rfl)) (by decide) (Or.inl rfl)) (nb_s1 (nb_s1 (nb_s1 hnb rfl) rfl) rfl) ((congrFun (congrFun e_9 66) 2).trans ((congrFun (congrFun e_7 66) 2).trans ((congrFun (congrFun e_6 66) 2).trans ((congrFun (congrFun e_5 66) 2).trans hr_66_2)))) ((congrFun (congrFun e_9 66) 10).trans ((congrFun (congrFun e_7 66) 10).trans ((congrFun (congrFun e_6 66) 10).trans ((congrFun (congrFun e_5 66) 10).trans hr_66_10)))) H
            · refine ev_b2 (t := 90) (p' := 85) rfl rfl rfl (if_neg c_8) ?_
              refine ev_x (i := .iload 5) (len := 2) (p' := 87) (s' := [.int p_7.1]) rfl rfl (ld_i (vg_s (vz_s1 (vz_s1 (lv) 3 (.int p_5.1)) 4 (.int p_6.1)) 5 (.int p_7.1))) ?_
              refine F_if H (fun c_10 H => ?_) (fun c_10 H => ?_)
              · refine ev_b0 (t := 100) (p' := 100) rfl rfl rfl (if_pos c_10) ?_
                refine ev_x (i := .aload_n 0) (len := 1) (p' := 101) (s' := [.ref 66]) rfl rfl (ld_a (vg_o (i := 5) (v := .int p_7.1) (vg_o (i := 4) (v := .int p_6.1) (vg_o (i := 3) (v := .int p_5.1) g_0 (by decide) (Or.inl rfl)) (by decide) (Or.inl rfl)) (by decide) (Or.inl rfl))) ?_
                refine ev_gc (p' := 104) (v := 161) rfl rfl rfl ly_66 rfl rfl ?_
                refine ev_x (i := .iload 4) (len := 2) (p' := 106) (s' := [.int p_6.1, .ref 161]) rfl rfl (ld_i (vg_o (i := 5) (v := .int p_7.1) (vg_s (vz_s1 (lv) 3 (.int p_5.1)) 4 (.int p_6.1)) (by decide) (Or.inl rfl))) ?_
                obtain ⟨p_11, G_11, H⟩ := F_bd H
                refine ev_cv (d := d + 6) (As := [.int p_6.1]) (a := 161) (p' := 109) rfl rfl rfl ly_161 rfl rfl rfl rfl rfl (nb_s1 (nb_s1 (nb_s1 hnb rfl) rfl) rfl) rfl (N_133_ok (d := d + 5) nm_161 G_11) ?_
                refine ev_st (st' := []) rfl ?_
                have e_11 := N_133_R G_11
                refine ev_x (i := .aload_n 0) (len := 1) (p' := 110) (s' := [.ref 66]) rfl rfl (ld_a (vg_o (i := 5) (v := .int p_7.1) (vg_o (i := 4) (v := .int p_6.1) (vg_o (i := 3) (v := .int p_5.1) g_0 (by decide) (Or.inl rfl)) (by decide) (Or.inl rfl)) (by decide) (Or.inl rfl))) ?_
                refine ev_gc (p' := 113) (v := 161) rfl rfl rfl ly_66 rfl rfl ?_
                refine ev_x (i := .iconst 1) (len := 1) (p' := 114) (s' := [.int 1, .ref 161]) rfl rfl rfl ?_
                obtain ⟨p_12, G_12, H⟩ := F_bd H
                refine ev_cv (d := d + 6) (As := [.int 1]) (a := 161) (p' := 117) rfl rfl rfl ly_161 rfl rfl rfl rfl rfl (nb_s1 (nb_s1 (nb_s1 hnb rfl) rfl) rfl) rfl (N_133_ok (d := d + 5) nm_161 G_12) ?_
                refine ev_st (st' := []) rfl ?_
                have e_12 := N_133_R G_12
                refine ev_x (i := .aload_n 0) (len := 1) (p' := 118) (s' := [.ref 66]) rfl rfl (ld_a (vg_o (i := 5) (v := .int p_7.1) (vg_o (i := 4) (v := .int p_6.1) (vg_o (i := 3) (v := .int p_5.1) g_0 (by decide) (Or.inl rfl)) (by decide) (Or.inl rfl)) (by decide) (Or.inl rfl))) ?_
                refine ev_gc (p' := 121) (v := 161) rfl rfl rfl ly_66 rfl rfl ?_
                refine ev_gi (p' := 124) (v := (gI p_12 161 1)) rfl rfl rfl ly_161 rfl rfl rfl ?_
                refine ev_x (i := .istore 6) (len := 2) (p' := 126) (s' := []) (l' := vz_s1 (vz_s1 (vz_s1 (vz_s1 (lv) 3 (.int p_5.1)) 4 (.int p_6.1)) 5 (.int p_7.1)) 6 (.int (gI p_12 161 1))) rfl rfl rfl ?_
                exact ih.2 _ _ _ _ _ _ (vg_o (i := 6) (v := .int (gI p_12 161 1)) (vg_o (i := 5) (v := .int p_7.1) (vg_o (i := 4) (v := .int p_6.1) (vg_o (i := 3) (v := .int p_5.1) g_0 (by decide) (Or.inl rfl)) (by decide) (Or.inl rfl)) (by decide) (Or.inl rfl)) (by decide) (Or.inl rfl)) (vg_o (i := 6) (v := .int (gI p_12 161 1)) (vg_o (i := 5) (v := .int p_7.1) (vg_o (i := 4) (v := .int p_6.1) (vg_o (i := 3) (v := .int p_5.1) g_2 (by decide) (Or.inl rfl)) (by decide) (Or.inl rfl)) (by decide) (Or.inl rfl)) (by decide) (Or.inl rfl)) (vg_o (i := 6) (v := .int (gI p_12 161 1)) (vg_s (vz_s1 (vz_s1 (lv) 3 (.int p_5.1)) 4 (.int p_6.1)) 5 (.int p_7.1)) (by decide) (Or.inl rfl)) (vg_s (vz_s1 (vz_s1 (vz_s1 (lv) 3 (.int p_5.1)) 4 (.int p_6.1)) 5 (.int p_7.1)) 6 (.int (gI p_12 161 1))) (nb_s1 (nb_s1 (nb_s1 (nb_s1 hnb rfl) rfl) rfl) rfl) ((congrFun (congrFun e_12 66) 2).trans ((congrFun (congrFun e_11 66) 2).trans ((congrFun (congrFun e_7 66) 2).trans ((congrFun (congrFun e_6 66) 2).trans ((congrFun (congrFun e_5 66) 2).trans hr_66_2))))) ((congrFun (congrFun e_12 66) 10).trans ((congrFun (congrFun e_11 66) 10).trans ((congrFun (congrFun e_7 66) 10).trans ((congrFun (congrFun e_6 66) 10).trans ((congrFun (congrFun e_5 66) 10).trans hr_66_10))))) H
              · refine ev_b0 (t := 100) (p' := 90) rfl rfl rfl (if_neg c_10) ?_
                refine ev_x (i := .aload_n 0) (len := 1) (p' := 91) (s' := [.ref 66]) rfl rfl (ld_a (vg_o (i := 5) (v := .int p_7.1) (vg_o (i := 4) (v := .int p_6.1) (vg_o (i := 3) (v := .int p_5.1) g_0 (by decide) (Or.inl rfl)) (by decide) (Or.inl rfl)) (by decide) (Or.inl rfl))) ?_
                refine ev_x (i := .iload 4) (len := 2) (p' := 93) (s' := [.int p_6.1, .ref 66]) rfl rfl (ld_i (vg_o (i := 5) (v := .int p_7.1) (vg_s (vz_s1 (lv) 3 (.int p_5.1)) 4 (.int p_6.1)) (by decide) (Or.inl rfl))) ?_
                refine ev_x (i := .iload_n 2) (len := 1) (p' := 94) (s' := [.int l_2, .int p_6.1, .ref 66]) rfl rfl (ld_i (vg_o (i := 5) (v := .int p_7.1) (vg_o (i := 4) (v := .int p_6.1) (vg_o (i := 3) (v := .int p_5.1) g_2 (by decide) (Or.inl rfl)) (by decide) (Or.inl rfl)) (by decide) (Or.inl rfl))) ?_
                obtain ⟨p_13, G_13, H⟩ := F_bd H
                refine ev_cv (d := d + 6) (As := [.int p_6.1, .int l_2]) (a := 66) (p' := 97) rfl rfl rfl ly_66 rfl rfl rfl rfl rfl (nb_s1 (nb_s1 (nb_s1 hnb rfl) rfl) rfl) rfl (F_180_ok (d := d + 0) (hg := (Or.inl rfl)) (hx := hx) (hr_66_2 := ((congrFun (congrFun e_7 66) 2).trans ((congrFun (congrFun e_6 66) 2).trans ((congrFun (congrFun e_5 66) 2).trans hr_66_2)))) (hr_66_10 := ((congrFun (congrFun e_7 66) 10).trans ((congrFun (congrFun e_6 66) 10).trans ((congrFun (congrFun e_5 66) 10).trans hr_66_10)))) G_13) ?_
                refine ev_st (st' := []) rfl ?_
                have e_13 := F_180_R G_13
                refine ev_x (i := .goto 74) (len := 3) (p' := 171) (s' := []) rfl rfl rfl ?_
                refine ev_x (i := .goto (-139)) (len := 3) (p' := 32) (s' := []) rfl rfl rfl ?_
                exact ih.1 _ _ _ _ _ _ (vg_o (i := 5) (v := .int p_7.1) (vg_o (i := 4) (v := .int p_6.1) (vg_o (i := 3) (v := .int p_5.1) g_0 (by decide) (Or.inl rfl)) (by decide) (Or.inl rfl)) (by decide) (Or.inl rfl)) (vg_o (i := 5) (v := .int p_7.1) (vg_o (i := 4) (v := .int p_6.1) (vg_o (i := 3) (v := .int p_5.1) g_2 (by decide) (Or.inl rfl)) (by decide) (Or.inl rfl)) (by decide) (Or.inl rfl)) (nb_s1 (nb_s1 (nb_s1 hnb rfl) rfl) rfl) ((congrFun (congrFun e_13 66) 2).trans ((congrFun (congrFun e_7 66) 2).trans ((congrFun (congrFun e_6 66) 2).trans ((congrFun (congrFun e_5 66) 2).trans hr_66_2)))) ((congrFun (congrFun e_13 66) 10).trans ((congrFun (congrFun e_7 66) 10).trans ((congrFun (congrFun e_6 66) 10).trans ((congrFun (congrFun e_5 66) 10).trans hr_66_10)))) H
          · refine ev_b0 (t := 174) (p' := 174) rfl rfl rfl (if_pos c_4) ?_
            exact J_179_174_ok (d := d) (Or.inl rfl) hx g_0 hnb hr_66_2 hr_66_10 H
      · intro l_2 l_5 l_6 σ lv p g_0 g_2 g_5 g_6 hnb hr_66_2 hr_66_10 H
        unfold L_179 at H
        rw [if_neg (by decide)] at H
        refine ev_x (i := .iload 5) (len := 2) (p' := 128) (s' := [.int l_5]) rfl rfl (ld_i g_5) ?_
        refine F_if H (fun c_14 H => ?_) (fun c_14 H => ?_)
        · refine ev_b0 (t := 165) (p' := 165) rfl rfl rfl (if_pos c_14) ?_
          refine ev_x (i := .aload_n 0) (len := 1) (p' := 166) (s' := [.ref 66]) rfl rfl (ld_a g_0) ?_
          refine ev_x (i := .iload 6) (len := 2) (p' := 168) (s' := [.int l_6, .ref 66]) rfl rfl (ld_i g_6) ?_
          obtain ⟨p_15, G_15, H⟩ := F_bd H
          refine ev_cv (d := d + 6) (As := [.int l_6]) (a := 66) (p' := 171) rfl rfl rfl ly_66 rfl rfl rfl rfl rfl hnb rfl (F_184_ok (d := d + 4)   G_15) ?_
          refine ev_st (st' := []) rfl ?_
          have e_15 := F_184_R G_15
          refine ev_x (i := .goto (-139)) (len := 3) (p' := 32) (s' := []) rfl rfl rfl ?_
          exact ih.1 _ _ _ _ _ _ g_0 g_2 hnb ((congrFun (congrFun e_15 66) 2).trans hr_66_2) ((congrFun (congrFun e_15 66) 10).trans hr_66_10) H
        · refine ev_b0 (t := 165) (p' := 131) rfl rfl rfl (if_neg c_14) ?_
          refine ev_x (i := .aload_n 0) (len := 1) (p' := 132) (s' := [.ref 66]) rfl rfl (ld_a g_0) ?_
          refine ev_gc (p' := 135) (v := 161) rfl rfl rfl ly_66 rfl rfl ?_
          refine ev_x (i := .iload 5) (len := 2) (p' := 137) (s' := [.int l_5, .ref 161]) rfl rfl (ld_i g_5) ?_
          obtain ⟨p_16, G_16, H⟩ := F_bd H
          refine ev_cv (d := d + 6) (As := [.int l_5]) (a := 161) (p' := 140) rfl rfl rfl ly_161 rfl rfl rfl rfl rfl hnb rfl (N_133_ok (d := d + 5) nm_161 G_16) ?_
          refine ev_st (st' := []) rfl ?_
          have e_16 := N_133_R G_16
          refine ev_x (i := .aload_n 0) (len := 1) (p' := 141) (s' := [.ref 66]) rfl rfl (ld_a g_0) ?_
          refine ev_gc (p' := 144) (v := 161) rfl rfl rfl ly_66 rfl rfl ?_
          refine ev_x (i := .iconst 0) (len := 1) (p' := 145) (s' := [.int 0, .ref 161]) rfl rfl rfl ?_
          obtain ⟨p_17, G_17, H⟩ := F_bd H
          refine ev_cv (d := d + 6) (As := [.int 0]) (a := 161) (p' := 148) rfl rfl rfl ly_161 rfl rfl rfl rfl rfl hnb rfl (N_133_ok (d := d + 5) nm_161 G_17) ?_
          refine ev_st (st' := []) rfl ?_
          have e_17 := N_133_R G_17
          refine ev_x (i := .aload_n 0) (len := 1) (p' := 149) (s' := [.ref 66]) rfl rfl (ld_a g_0) ?_
          refine ev_gr (p' := 152) (v := 79) rfl rfl rfl ly_66 rfl rfl ((congrFun (congrFun e_17 66) 10).trans ((congrFun (congrFun e_16 66) 10).trans hr_66_10)) ?_
          refine ev_gc (p' := 155) (v := 90) rfl rfl rfl ly_79 rfl rfl ?_
          refine ev_x (i := .iload 5) (len := 2) (p' := 157) (s' := [.int l_5, .ref 90]) rfl rfl (ld_i g_5) ?_
          obtain ⟨p_18, G_18, H⟩ := F_bd H
          refine ev_cv (d := d + 6) (As := [.int l_5]) (a := 90) (p' := 160) rfl rfl rfl ly_90 rfl rfl rfl rfl rfl hnb rfl (N_139_ok (d := d + 5) nm_90 G_18) ?_
          refine ev_st (st' := [.int p_18.1]) rfl ?_
          have e_18 := N_139_R G_18
          refine ev_x (i := .istore 5) (len := 2) (p' := 162) (s' := []) (l' := vz_s1 (lv) 5 (.int p_18.1)) rfl rfl rfl ?_
          refine ev_x (i := .goto (-36)) (len := 3) (p' := 126) (s' := []) rfl rfl rfl ?_
          exact ih.2 _ _ _ _ _ _ (vg_o (i := 5) (v := .int p_18.1) g_0 (by decide) (Or.inl rfl)) (vg_o (i := 5) (v := .int p_18.1) g_2 (by decide) (Or.inl rfl)) (vg_s (lv) 5 (.int p_18.1)) (vg_o (i := 5) (v := .int p_18.1) g_6 (by decide) (Or.inl rfl)) (nb_s1 hnb rfl) ((congrFun (congrFun e_18 66) 2).trans ((congrFun (congrFun e_17 66) 2).trans ((congrFun (congrFun e_16 66) 2).trans hr_66_2))) ((congrFun (congrFun e_18 66) 10).trans ((congrFun (congrFun e_17 66) 10).trans ((congrFun (congrFun e_16 66) 10).trans hr_66_10))) H
  · intro k
    induction k with
    | zero => exact ⟨(by intro l_2 l_5 l_6 σ lv p g_0 g_2 hnb hr_66_2 hr_66_10 H; unfold L_179 at H; cases H), (by intro l_2 l_5 l_6 σ lv p g_0 g_2 g_5 g_6 hnb hr_66_2 hr_66_10 H; unfold L_179 at H; cases H)⟩
    | succ k ih =>
      refine ⟨?_, ?_⟩
      · intro l_2 l_5 l_6 σ lv p g_0 g_2 hnb hr_66_2 hr_66_10 H
        unfold L_179 at H
        rw [if_pos rfl] at H
        refine ev_x (i := .aload_n 0) (len := 1) (p' := 33) (s' := [.ref 66]) rfl rfl (ld_a g_0) ?_
        refine ev_gc (p' := 36) (v := 161) rfl rfl rfl ly_66 rfl rfl ?_
        refine ev_gi (p' := 39) (v := (gI σ 161 1)) rfl rfl rfl ly_161 rfl rfl rfl ?_
        refine F_if H (fun c_3 H => ?_) (fun c_3 H => ?_)
        · refine ev_b0 (t := 174) (p' := 174) rfl rfl rfl (if_pos c_3) ?_
          exact J_179_174_ok (d := d) (Or.inr rfl) hx g_0 hnb hr_66_2 hr_66_10 H
        · refine ev_b0 (t := 174) (p' := 42) rfl rfl rfl (if_neg c_3) ?_
          refine ev_x (i := .aload_n 0) (len := 1) (p' := 43) (s' := [.ref 66]) rfl rfl (ld_a g_0) ?_
          refine ev_gi (p' := 46) (v := (gI σ 66 16)) rfl rfl rfl ly_66 rfl rfl rfl ?_
          refine F_if H (fun c_4 H => ?_) (fun c_4 H => ?_)
          · refine ev_b0 (t := 174) (p' := 49) rfl rfl rfl (if_neg (fun q => q c_4)) ?_
            refine ev_x (i := .aload_n 0) (len := 1) (p' := 50) (s' := [.ref 66]) rfl rfl (ld_a g_0) ?_
            refine ev_gc (p' := 53) (v := 161) rfl rfl rfl ly_66 rfl rfl ?_
            obtain ⟨p_5, G_5, H⟩ := F_bd H
            refine ev_cv (d := d + 6) (As := []) (a := 161) (p' := 56) rfl rfl rfl ly_161 rfl rfl rfl rfl rfl hnb rfl (N_148_ok (d := d + 5) nm_161 G_5) ?_
            refine ev_st (st' := [.int p_5.1]) rfl ?_
            have e_5 := N_148_R G_5
            refine ev_x (i := .istore_n 3) (len := 1) (p' := 57) (s' := []) (l' := vz_s1 (lv) 3 (.int p_5.1)) rfl rfl rfl ?_
            refine ev_x (i := .aload_n 0) (len := 1) (p' := 58) (s' := [.ref 66]) rfl rfl (ld_a (vg_o (i := 3) (v := .int p_5.1) g_0 (by decide) (Or.inl rfl))) ?_
            refine ev_gc (p' := 61) (v := 161) rfl rfl rfl ly_66 rfl rfl ?_
            obtain ⟨p_6, G_6, H⟩ := F_bd H
            refine ev_cv (d := d + 6) (As := []) (a := 161) (p' := 64) rfl rfl rfl ly_161 rfl rfl rfl rfl rfl (nb_s1 hnb rfl) rfl (N_148_ok (d := d + 5) nm_161 G_6) ?_
            refine ev_st (st' := [.int p_6.1]) rfl ?_
            have e_6 := N_148_R G_6
            refine ev_x (i := .istore 4) (len := 2) (p' := 66) (s' := []) (l' := vz_s1 (vz_s1 (lv) 3 (.int p_5.1)) 4 (.int p_6.1)) rfl rfl rfl ?_
            refine ev_x (i := .aload_n 0) (len := 1) (p' := 67) (s' := [.ref 66]) rfl rfl (ld_a (vg_o (i := 4) (v := .int p_6.1) (vg_o (i := 3) (v := .int p_5.1) g_0 (by decide) (Or.inl rfl)) (by decide) (Or.inl rfl))) ?_
            refine ev_gr (p' := 70) (v := 115) rfl rfl rfl ly_66 rfl rfl ((congrFun (congrFun e_6 66) 10).trans ((congrFun (congrFun e_5 66) 10).trans hr_66_10)) ?_
            refine ev_gc (p' := 73) (v := 124) rfl rfl rfl ly_115 rfl rfl ?_
            refine ev_x (i := .iload 4) (len := 2) (p' := 75) (s' := [.int p_6.1, .ref 124]) rfl rfl (ld_i (vg_s (vz_s1 (lv) 3 (.int p_5.1)) 4 (.int p_6.1))) ?_
            obtain ⟨p_7, G_7, H⟩ := F_bd H
            refine ev_cv (d := d + 6) (As := [.int p_6.1]) (a := 124) (p' := 78) rfl rfl rfl ly_124 rfl rfl rfl rfl rfl (nb_s1 (nb_s1 hnb rfl) rfl) rfl (N_139_ok (d := d + 5) nm_124 G_7) ?_
            refine ev_st (st' := [.int p_7.1]) rfl ?_
            have e_7 := N_139_R G_7
            refine ev_x (i := .istore 5) (len := 2) (p' := 80) (s' := []) (l' := vz_s1 (vz_s1 (vz_s1 (lv) 3 (.int p_5.1)) 4 (.int p_6.1)) 5 (.int p_7.1)) rfl rfl rfl ?_
            refine ev_x (i := .iload_n 3) (len := 1) (p' := 81) (s' := [.int p_5.1]) rfl rfl (ld_i (vg_o (i := 5) (v := .int p_7.1) (vg_o (i := 4) (v := .int p_6.1) (vg_s (lv) 3 (.int p_5.1)) (by decide) (Or.inl rfl)) (by decide) (Or.inl rfl))) ?_
            refine ev_x (i := .iconst 1) (len := 1) (p' := 82) (s' := [.int 1, .int p_5.1]) rfl rfl rfl ?_
            refine F_if H (fun c_8 H => ?_) (fun c_8 H => ?_)
            · refine ev_b2 (t := 90) (p' := 90) rfl rfl rfl (if_pos c_8) ?_
              refine ev_x (i := .aload_n 0) (len := 1) (p' := 91) (s' := [.ref 66]) rfl rfl (ld_a (vg_o (i := 5) (v := .int p_7.1) (vg_o (i := 4) (v := .int p_6.1) (vg_o (i := 3) (v := .int p_5.1) g_0 (by decide) (Or.inl rfl)) (by decide) (Or.inl rfl)) (by decide) (Or.inl rfl))) ?_
              refine ev_x (i := .iload 4) (len := 2) (p' := 93) (s' := [.int p_6.1, .ref 66]) rfl rfl (ld_i (vg_o (i := 5) (v := .int p_7.1) (vg_s (vz_s1 (lv) 3 (.int p_5.1)) 4 (.int p_6.1)) (by decide) (Or.inl rfl))) ?_
              refine ev_x (i := .iload_n 2) (len := 1) (p' := 94) (s' := [.int l_2, .int p_6.1, .ref 66]) rfl rfl (ld_i (vg_o (i := 5) (v := .int p_7.1) (vg_o (i := 4) (v := .int p_6.1) (vg_o (i := 3) (v := .int p_5.1) g_2 (by decide) (Or.inl rfl)) (by decide) (Or.inl rfl)) (by decide) (Or.inl rfl))) ?_
              obtain ⟨p_9, G_9, H⟩ := F_bd H
              refine ev_cv (d := d + 6) (As := [.int p_6.1, .int l_2]) (a := 66) (p' := 97) rfl rfl rfl ly_66 rfl rfl rfl rfl rfl (nb_s1 (nb_s1 (nb_s1 hnb rfl) rfl) rfl) rfl (F_180_ok (d := d + 0) (hg := (Or.inr rfl)) (hx := hx) (hr_66_2 := ((congrFun (congrFun e_7 66) 2).trans ((congrFun (congrFun e_6 66) 2).trans ((congrFun (congrFun e_5 66) 2).trans hr_66_2)))) (hr_66_10 := ((congrFun (congrFun e_7 66) 10).trans ((congrFun (congrFun e_6 66) 10).trans ((congrFun (congrFun e_5 66) 10).trans hr_66_10)))) G_9) ?_
              refine ev_st (st' := []) rfl ?_
              have e_9 := F_180_R G_9
              refine ev_x (i := .goto 74) (len := 3) (p' := 171) (s' := []) rfl rfl rfl ?_
              refine ev_x (i := .goto (-139)) (len := 3) (p' := 32) (s' := []) rfl rfl rfl ?_
              exact ih.1 _ _ _ _ _ _ (vg_o (i := 5) (v := .int p_7.1) (vg_o (i := 4) (v := .int p_6.1) (vg_o (i := 3) (v := .int p_5.1) g_0 (by decide) (Or.inl rfl)) (by decide) (Or.inl rfl)) (by decide) (Or.inl rfl)) (vg_o (i := 5) (v := .int p_7.1) (vg_o (i := 4) (v := .int p_6.1) (vg_o (i := 3) (v := .int p_5.1) g_2 (by decide) (Or.inl rfl)) (by decide) (Or.inl rfl)) (by decide) (Or.inl rfl)) (nb_s1 (nb_s1 (nb_s1 hnb rfl) rfl) rfl) ((congrFun (congrFun e_9 66) 2).trans ((congrFun (congrFun e_7 66) 2).trans ((congrFun (congrFun e_6 66) 2).trans ((congrFun (congrFun e_5 66) 2).trans hr_66_2)))) ((congrFun (congrFun e_9 66) 10).trans ((congrFun (congrFun e_7 66) 10).trans ((congrFun (congrFun e_6 66) 10).trans ((congrFun (congrFun e_5 66) 10).trans hr_66_10)))) H
            · refine ev_b2 (t := 90) (p' := 85) rfl rfl rfl (if_neg c_8) ?_
              refine ev_x (i := .iload 5) (len := 2) (p' := 87) (s' := [.int p_7.1]) rfl rfl (ld_i (vg_s (vz_s1 (vz_s1 (lv) 3 (.int p_5.1)) 4 (.int p_6.1)) 5 (.int p_7.1))) ?_
              refine F_if H (fun c_10 H => ?_) (fun c_10 H => ?_)
              · refine ev_b0 (t := 100) (p' := 100) rfl rfl rfl (if_pos c_10) ?_
                refine ev_x (i := .aload_n 0) (len := 1) (p' := 101) (s' := [.ref 66]) rfl rfl (ld_a (vg_o (i := 5) (v := .int p_7.1) (vg_o (i := 4) (v := .int p_6.1) (vg_o (i := 3) (v := .int p_5.1) g_0 (by decide) (Or.inl rfl)) (by decide) (Or.inl rfl)) (by decide) (Or.inl rfl))) ?_
                refine ev_gc (p' := 104) (v := 161) rfl rfl rfl ly_66 rfl rfl ?_
                refine ev_x (i := .iload 4) (len := 2) (p' := 106) (s' := [.int p_6.1, .ref 161]) rfl rfl (ld_i (vg_o (i := 5) (v := .int p_7.1) (vg_s (vz_s1 (lv) 3 (.int p_5.1)) 4 (.int p_6.1)) (by decide) (Or.inl rfl))) ?_
                obtain ⟨p_11, G_11, H⟩ := F_bd H
                refine ev_cv (d := d + 6) (As := [.int p_6.1]) (a := 161) (p' := 109) rfl rfl rfl ly_161 rfl rfl rfl rfl rfl (nb_s1 (nb_s1 (nb_s1 hnb rfl) rfl) rfl) rfl (N_133_ok (d := d + 5) nm_161 G_11) ?_
                refine ev_st (st' := []) rfl ?_
                have e_11 := N_133_R G_11
                refine ev_x (i := .aload_n 0) (len := 1) (p' := 110) (s' := [.ref 66]) rfl rfl (ld_a (vg_o (i := 5) (v := .int p_7.1) (vg_o (i := 4) (v := .int p_6.1) (vg_o (i := 3) (v := .int p_5.1) g_0 (by decide) (Or.inl rfl)) (by decide) (Or.inl rfl)) (by decide) (Or.inl rfl))) ?_
                refine ev_gc (p' := 113) (v := 161) rfl rfl rfl ly_66 rfl rfl ?_
                refine ev_x (i := .iconst 1) (len := 1) (p' := 114) (s' := [.int 1, .ref 161]) rfl rfl rfl ?_
                obtain ⟨p_12, G_12, H⟩ := F_bd H
                refine ev_cv (d := d + 6) (As := [.int 1]) (a := 161) (p' := 117) rfl rfl rfl ly_161 rfl rfl rfl rfl rfl (nb_s1 (nb_s1 (nb_s1 hnb rfl) rfl) rfl) rfl (N_133_ok (d := d + 5) nm_161 G_12) ?_
                refine ev_st (st' := []) rfl ?_
                have e_12 := N_133_R G_12
                refine ev_x (i := .aload_n 0) (len := 1) (p' := 118) (s' := [.ref 66]) rfl rfl (ld_a (vg_o (i := 5) (v := .int p_7.1) (vg_o (i := 4) (v := .int p_6.1) (vg_o (i := 3) (v := .int p_5.1) g_0 (by decide) (Or.inl rfl)) (by decide) (Or.inl rfl)) (by decide) (Or.inl rfl))) ?_
                refine ev_gc (p' := 121) (v := 161) rfl rfl rfl ly_66 rfl rfl ?_
                refine ev_gi (p' := 124) (v := (gI p_12 161 1)) rfl rfl rfl ly_161 rfl rfl rfl ?_
                refine ev_x (i := .istore 6) (len := 2) (p' := 126) (s' := []) (l' := vz_s1 (vz_s1 (vz_s1 (vz_s1 (lv) 3 (.int p_5.1)) 4 (.int p_6.1)) 5 (.int p_7.1)) 6 (.int (gI p_12 161 1))) rfl rfl rfl ?_
                exact ih.2 _ _ _ _ _ _ (vg_o (i := 6) (v := .int (gI p_12 161 1)) (vg_o (i := 5) (v := .int p_7.1) (vg_o (i := 4) (v := .int p_6.1) (vg_o (i := 3) (v := .int p_5.1) g_0 (by decide) (Or.inl rfl)) (by decide) (Or.inl rfl)) (by decide) (Or.inl rfl)) (by decide) (Or.inl rfl)) (vg_o (i := 6) (v := .int (gI p_12 161 1)) (vg_o (i := 5) (v := .int p_7.1) (vg_o (i := 4) (v := .int p_6.1) (vg_o (i := 3) (v := .int p_5.1) g_2 (by decide) (Or.inl rfl)) (by decide) (Or.inl rfl)) (by decide) (Or.inl rfl)) (by decide) (Or.inl rfl)) (vg_o (i := 6) (v := .int (gI p_12 161 1)) (vg_s (vz_s1 (vz_s1 (lv) 3 (.int p_5.1)) 4 (.int p_6.1)) 5 (.int p_7.1)) (by decide) (Or.inl rfl)) (vg_s (vz_s1 (vz_s1 (vz_s1 (lv) 3 (.int p_5.1)) 4 (.int p_6.1)) 5 (.int p_7.1)) 6 (.int (gI p_12 161 1))) (nb_s1 (nb_s1 (nb_s1 (nb_s1 hnb rfl) rfl) rfl) rfl) ((congrFun (congrFun e_12 66) 2).trans ((congrFun (congrFun e_11 66) 2).trans ((congrFun (congrFun e_7 66) 2).trans ((congrFun (congrFun e_6 66) 2).trans ((congrFun (congrFun e_5 66) 2).trans hr_66_2))))) ((congrFun (congrFun e_12 66) 10).trans ((congrFun (congrFun e_11 66) 10).trans ((congrFun (congrFun e_7 66) 10).trans ((congrFun (congrFun e_6 66) 10).trans ((congrFun (congrFun e_5 66) 10).trans hr_66_10))))) H
              · refine ev_b0 (t := 100) (p' := 90) rfl rfl rfl (if_neg c_10) ?_
                refine ev_x (i := .aload_n 0) (len := 1) (p' := 91) (s' := [.ref 66]) rfl rfl (ld_a (vg_o (i := 5) (v := .int p_7.1) (vg_o (i := 4) (v := .int p_6.1) (vg_o (i := 3) (v := .int p_5.1) g_0 (by decide) (Or.inl rfl)) (by decide) (Or.inl rfl)) (by decide) (Or.inl rfl))) ?_
                refine ev_x (i := .iload 4) (len := 2) (p' := 93) (s' := [.int p_6.1, .ref 66]) rfl rfl (ld_i (vg_o (i := 5) (v := .int p_7.1) (vg_s (vz_s1 (lv) 3 (.int p_5.1)) 4 (.int p_6.1)) (by decide) (Or.inl rfl))) ?_
                refine ev_x (i := .iload_n 2) (len := 1) (p' := 94) (s' := [.int l_2, .int p_6.1, .ref 66]) rfl rfl (ld_i (vg_o (i := 5) (v := .int p_7.1) (vg_o (i := 4) (v := .int p_6.1) (vg_o (i := 3) (v := .int p_5.1) g_2 (by decide) (Or.inl rfl)) (by decide) (Or.inl rfl)) (by decide) (Or.inl rfl))) ?_
                obtain ⟨p_13, G_13, H⟩ := F_bd H
                refine ev_cv (d := d + 6) (As := [.int p_6.1, .int l_2]) (a := 66) (p' := 97) rfl rfl rfl ly_66 rfl rfl rfl rfl rfl (nb_s1 (nb_s1 (nb_s1 hnb rfl) rfl) rfl) rfl (F_180_ok (d := d + 0) (hg := (Or.inr rfl)) (hx := hx) (hr_66_2 := ((congrFun (congrFun e_7 66) 2).trans ((congrFun (congrFun e_6 66) 2).trans ((congrFun (congrFun e_5 66) 2).trans hr_66_2)))) (hr_66_10 := ((congrFun (congrFun e_7 66) 10).trans ((congrFun (congrFun e_6 66) 10).trans ((congrFun (congrFun e_5 66) 10).trans hr_66_10)))) G_13) ?_
                refine ev_st (st' := []) rfl ?_
                have e_13 := F_180_R G_13
                refine ev_x (i := .goto 74) (len := 3) (p' := 171) (s' := []) rfl rfl rfl ?_
                refine ev_x (i := .goto (-139)) (len := 3) (p' := 32) (s' := []) rfl rfl rfl ?_
                exact ih.1 _ _ _ _ _ _ (vg_o (i := 5) (v := .int p_7.1) (vg_o (i := 4) (v := .int p_6.1) (vg_o (i := 3) (v := .int p_5.1) g_0 (by decide) (Or.inl rfl)) (by decide) (Or.inl rfl)) (by decide) (Or.inl rfl)) (vg_o (i := 5) (v := .int p_7.1) (vg_o (i := 4) (v := .int p_6.1) (vg_o (i := 3) (v := .int p_5.1) g_2 (by decide) (Or.inl rfl)) (by decide) (Or.inl rfl)) (by decide) (Or.inl rfl)) (nb_s1 (nb_s1 (nb_s1 hnb rfl) rfl) rfl) ((congrFun (congrFun e_13 66) 2).trans ((congrFun (congrFun e_7 66) 2).trans ((congrFun (congrFun e_6 66) 2).trans ((congrFun (congrFun e_5 66) 2).trans hr_66_2)))) ((congrFun (congrFun e_13 66) 10).trans ((congrFun (congrFun e_7 66) 10).trans ((congrFun (congrFun e_6 66) 10).trans ((congrFun (congrFun e_5 66) 10).trans hr_66_10)))) H
          · refine ev_b0 (t := 174) (p' := 174) rfl rfl rfl (if_pos c_4) ?_
            exact J_179_174_ok (d := d) (Or.inr rfl) hx g_0 hnb hr_66_2 hr_66_10 H
      · intro l_2 l_5 l_6 σ lv p g_0 g_2 g_5 g_6 hnb hr_66_2 hr_66_10 H
        unfold L_179 at H
        rw [if_neg (by decide)] at H
        refine ev_x (i := .iload 5) (len := 2) (p' := 128) (s' := [.int l_5]) rfl rfl (ld_i g_5) ?_
        refine F_if H (fun c_14 H => ?_) (fun c_14 H => ?_)
        · refine ev_b0 (t := 165) (p' := 165) rfl rfl rfl (if_pos c_14) ?_
          refine ev_x (i := .aload_n 0) (len := 1) (p' := 166) (s' := [.ref 66]) rfl rfl (ld_a g_0) ?_
          refine ev_x (i := .iload 6) (len := 2) (p' := 168) (s' := [.int l_6, .ref 66]) rfl rfl (ld_i g_6) ?_
          obtain ⟨p_15, G_15, H⟩ := F_bd H
          refine ev_cv (d := d + 6) (As := [.int l_6]) (a := 66) (p' := 171) rfl rfl rfl ly_66 rfl rfl rfl rfl rfl hnb rfl (F_184_ok (d := d + 4)   G_15) ?_
          refine ev_st (st' := []) rfl ?_
          have e_15 := F_184_R G_15
          refine ev_x (i := .goto (-139)) (len := 3) (p' := 32) (s' := []) rfl rfl rfl ?_
          exact ih.1 _ _ _ _ _ _ g_0 g_2 hnb ((congrFun (congrFun e_15 66) 2).trans hr_66_2) ((congrFun (congrFun e_15 66) 10).trans hr_66_10) H
        · refine ev_b0 (t := 165) (p' := 131) rfl rfl rfl (if_neg c_14) ?_
          refine ev_x (i := .aload_n 0) (len := 1) (p' := 132) (s' := [.ref 66]) rfl rfl (ld_a g_0) ?_
          refine ev_gc (p' := 135) (v := 161) rfl rfl rfl ly_66 rfl rfl ?_
          refine ev_x (i := .iload 5) (len := 2) (p' := 137) (s' := [.int l_5, .ref 161]) rfl rfl (ld_i g_5) ?_
          obtain ⟨p_16, G_16, H⟩ := F_bd H
          refine ev_cv (d := d + 6) (As := [.int l_5]) (a := 161) (p' := 140) rfl rfl rfl ly_161 rfl rfl rfl rfl rfl hnb rfl (N_133_ok (d := d + 5) nm_161 G_16) ?_
          refine ev_st (st' := []) rfl ?_
          have e_16 := N_133_R G_16
          refine ev_x (i := .aload_n 0) (len := 1) (p' := 141) (s' := [.ref 66]) rfl rfl (ld_a g_0) ?_
          refine ev_gc (p' := 144) (v := 161) rfl rfl rfl ly_66 rfl rfl ?_
          refine ev_x (i := .iconst 0) (len := 1) (p' := 145) (s' := [.int 0, .ref 161]) rfl rfl rfl ?_
          obtain ⟨p_17, G_17, H⟩ := F_bd H
          refine ev_cv (d := d + 6) (As := [.int 0]) (a := 161) (p' := 148) rfl rfl rfl ly_161 rfl rfl rfl rfl rfl hnb rfl (N_133_ok (d := d + 5) nm_161 G_17) ?_
          refine ev_st (st' := []) rfl ?_
          have e_17 := N_133_R G_17
          refine ev_x (i := .aload_n 0) (len := 1) (p' := 149) (s' := [.ref 66]) rfl rfl (ld_a g_0) ?_
          refine ev_gr (p' := 152) (v := 115) rfl rfl rfl ly_66 rfl rfl ((congrFun (congrFun e_17 66) 10).trans ((congrFun (congrFun e_16 66) 10).trans hr_66_10)) ?_
          refine ev_gc (p' := 155) (v := 126) rfl rfl rfl ly_115 rfl rfl ?_
          refine ev_x (i := .iload 5) (len := 2) (p' := 157) (s' := [.int l_5, .ref 126]) rfl rfl (ld_i g_5) ?_
          obtain ⟨p_18, G_18, H⟩ := F_bd H
          refine ev_cv (d := d + 6) (As := [.int l_5]) (a := 126) (p' := 160) rfl rfl rfl ly_126 rfl rfl rfl rfl rfl hnb rfl (N_139_ok (d := d + 5) nm_126 G_18) ?_
          refine ev_st (st' := [.int p_18.1]) rfl ?_
          have e_18 := N_139_R G_18
          refine ev_x (i := .istore 5) (len := 2) (p' := 162) (s' := []) (l' := vz_s1 (lv) 5 (.int p_18.1)) rfl rfl rfl ?_
          refine ev_x (i := .goto (-36)) (len := 3) (p' := 126) (s' := []) rfl rfl rfl ?_
          exact ih.2 _ _ _ _ _ _ (vg_o (i := 5) (v := .int p_18.1) g_0 (by decide) (Or.inl rfl)) (vg_o (i := 5) (v := .int p_18.1) g_2 (by decide) (Or.inl rfl)) (vg_s (lv) 5 (.int p_18.1)) (vg_o (i := 5) (v := .int p_18.1) g_6 (by decide) (Or.inl rfl)) (nb_s1 hnb rfl) ((congrFun (congrFun e_18 66) 2).trans ((congrFun (congrFun e_17 66) 2).trans ((congrFun (congrFun e_16 66) 2).trans hr_66_2))) ((congrFun (congrFun e_18 66) 10).trans ((congrFun (congrFun e_17 66) 10).trans ((congrFun (congrFun e_16 66) 10).trans hr_66_10))) H
/-- GameTextModel.look(IZ)Z -/
def F_179 (N : Nat) (g : Nat) (x : Nat) (x_1 : Int32) (x_2 : Int32) (σ : st_S) : Option (Int32 × st_S) :=
  (N_133 N 161 x_1 (st_i (st_i (σ) 161 1 0) 159 1 0)).bind fun p_1 =>
  (N_133 N 161 0 (p_1)).bind fun p_2 =>
  L_179 N g x N 32 x_2 0 0 (p_2)
set_option maxRecDepth 100000 in
theorem F_179_R {N : Nat} {g : Nat} {x : Nat} {x_1 : Int32} {x_2 : Int32} {σ : st_S} {p : Int32 × st_S} (H : F_179 N g x x_1 x_2 σ = some p) : gR p.2 = gR σ := by
  unfold F_179 at H
  obtain ⟨p_1, G_1, H⟩ := F_bd H
  obtain ⟨p_2, G_2, H⟩ := F_bd H
  exact (((L_179_R _ _ _ _ _ _ _ H)).trans ((N_133_R G_2).trans ((N_133_R G_1).trans rfl)))
set_option maxHeartbeats 4000000 in
set_option maxRecDepth 100000 in
theorem F_179_ok {N d : Nat} {g : Nat} (hg : g = 79 ∨ g = 115) {x : Nat} (hx : x = 67 ∨ x = 69) {x_1 : Int32} {x_2 : Int32} {σ : st_S} {p : Int32 × st_S} (hr_66_2 : gR σ 66 2 = x) (hr_66_10 : gR σ 66 10 = g) (H : F_179 N g x x_1 x_2 σ = some p) : vz_ev P0 (d + 7) 179 0 (lv_args 0 [.ref 66, .int x_1, .int x_2]) [] (hp σ) (.inl (some (.int p.1)), hp p.2) := by
  unfold F_179 at H
  refine ev_x (i := .aload_n 0) (len := 1) (p' := 1) (s' := [.ref 66]) rfl rfl rfl ?_
  refine ev_gc (p' := 4) (v := 161) rfl rfl rfl ly_66 rfl rfl ?_
  refine ev_x (i := .iconst 0) (len := 1) (p' := 5) (s' := [.int 0, .ref 161]) rfl rfl rfl ?_
  refine ev_pi (p' := 8) rfl rfl rfl ly_161 rfl rfl rfl rfl ?_
  refine ev_x (i := .aload_n 0) (len := 1) (p' := 9) (s' := [.ref 66]) rfl rfl rfl ?_
  refine ev_gc (p' := 12) (v := 159) rfl rfl rfl ly_66 rfl rfl ?_
  refine ev_x (i := .iconst 0) (len := 1) (p' := 13) (s' := [.int 0, .ref 159]) rfl rfl rfl ?_
  refine ev_pi (p' := 16) rfl rfl rfl ly_159 rfl rfl rfl rfl ?_
  refine ev_x (i := .aload_n 0) (len := 1) (p' := 17) (s' := [.ref 66]) rfl rfl rfl ?_
  refine ev_gc (p' := 20) (v := 161) rfl rfl rfl ly_66 rfl rfl ?_
  refine ev_x (i := .iload_n 1) (len := 1) (p' := 21) (s' := [.int x_1, .ref 161]) rfl rfl rfl ?_
  obtain ⟨p_1, G_1, H⟩ := F_bd H
  refine ev_cv (d := d + 6) (As := [.int x_1]) (a := 161) (p' := 24) rfl rfl rfl ly_161 rfl rfl rfl rfl rfl rfl rfl (N_133_ok (d := d + 5) nm_161 G_1) ?_
  refine ev_st (st' := []) rfl ?_
  have e_1 := N_133_R G_1
  refine ev_x (i := .aload_n 0) (len := 1) (p' := 25) (s' := [.ref 66]) rfl rfl rfl ?_
  refine ev_gc (p' := 28) (v := 161) rfl rfl rfl ly_66 rfl rfl ?_
  refine ev_x (i := .iconst 0) (len := 1) (p' := 29) (s' := [.int 0, .ref 161]) rfl rfl rfl ?_
  obtain ⟨p_2, G_2, H⟩ := F_bd H
  refine ev_cv (d := d + 6) (As := [.int 0]) (a := 161) (p' := 32) rfl rfl rfl ly_161 rfl rfl rfl rfl rfl rfl rfl (N_133_ok (d := d + 5) nm_161 G_2) ?_
  refine ev_st (st' := []) rfl ?_
  have e_2 := N_133_R G_2
  exact (L_179_ok (d := d) hg hx N).1 _ _ _ _ _ _ rfl rfl rfl ((congrFun (congrFun e_2 66) 2).trans ((congrFun (congrFun e_1 66) 2).trans hr_66_2)) ((congrFun (congrFun e_2 66) 10).trans ((congrFun (congrFun e_1 66) 10).trans hr_66_10)) H
