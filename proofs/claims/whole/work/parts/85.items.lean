/-! methods as functions of the store. Written by wip/prog/dec2.py, gen_all.py -/
/-- GameTextModel.know(III)V -/
def F_198 (N : Nat) (x_1 : Int32) (x_2 : Int32) (x_3 : Int32) (σ : st_S) : Option (st_S) :=
  (N_133 N 151 x_1 (σ)).bind fun p_1 =>
  (N_133 N 153 x_2 (p_1)).bind fun p_2 =>
  (N_133 N 155 x_3 (p_2)).bind fun p_3 =>
  some (p_3)
set_option maxRecDepth 100000 in
theorem F_198_R {N : Nat} {x_1 : Int32} {x_2 : Int32} {x_3 : Int32} {σ : st_S} {p : st_S} (H : F_198 N x_1 x_2 x_3 σ = some p) : gR p = gR σ := by
  unfold F_198 at H
  obtain ⟨p_1, G_1, H⟩ := F_bd H
  obtain ⟨p_2, G_2, H⟩ := F_bd H
  obtain ⟨p_3, G_3, H⟩ := F_bd H
  obtain rfl := Option.some.inj H
  exact ((N_133_R G_3).trans ((N_133_R G_2).trans ((N_133_R G_1).trans rfl)))
set_option maxHeartbeats 4000000 in
set_option maxRecDepth 100000 in
theorem F_198_ok {N d : Nat} {x_1 : Int32} {x_2 : Int32} {x_3 : Int32} {σ : st_S} {p : st_S}  (H : F_198 N x_1 x_2 x_3 σ = some p) : vz_ev P0 (d + 2) 198 0 (lv_args 0 [.ref 66, .int x_1, .int x_2, .int x_3]) [] (hp σ) (.inl none, hp p) := by
  unfold F_198 at H
  refine ev_x (i := .aload_n 0) (len := 1) (p' := 1) (s' := [.ref 66]) rfl rfl rfl ?_
  refine ev_gc (p' := 4) (v := 151) rfl rfl rfl ly_66 rfl rfl ?_
  refine ev_x (i := .iload_n 1) (len := 1) (p' := 5) (s' := [.int x_1, .ref 151]) rfl rfl rfl ?_
  obtain ⟨p_1, G_1, H⟩ := F_bd H
  refine ev_cv (d := d + 1) (As := [.int x_1]) (a := 151) (p' := 8) rfl rfl rfl ly_151 rfl rfl rfl rfl rfl rfl rfl (N_133_ok (d := d + 0) nm_151 G_1) ?_
  refine ev_st (st' := []) rfl ?_
  have e_1 := N_133_R G_1
  refine ev_x (i := .aload_n 0) (len := 1) (p' := 9) (s' := [.ref 66]) rfl rfl rfl ?_
  refine ev_gc (p' := 12) (v := 153) rfl rfl rfl ly_66 rfl rfl ?_
  refine ev_x (i := .iload_n 2) (len := 1) (p' := 13) (s' := [.int x_2, .ref 153]) rfl rfl rfl ?_
  obtain ⟨p_2, G_2, H⟩ := F_bd H
  refine ev_cv (d := d + 1) (As := [.int x_2]) (a := 153) (p' := 16) rfl rfl rfl ly_153 rfl rfl rfl rfl rfl rfl rfl (N_133_ok (d := d + 0) nm_153 G_2) ?_
  refine ev_st (st' := []) rfl ?_
  have e_2 := N_133_R G_2
  refine ev_x (i := .aload_n 0) (len := 1) (p' := 17) (s' := [.ref 66]) rfl rfl rfl ?_
  refine ev_gc (p' := 20) (v := 155) rfl rfl rfl ly_66 rfl rfl ?_
  refine ev_x (i := .iload_n 3) (len := 1) (p' := 21) (s' := [.int x_3, .ref 155]) rfl rfl rfl ?_
  obtain ⟨p_3, G_3, H⟩ := F_bd H
  refine ev_cv (d := d + 1) (As := [.int x_3]) (a := 155) (p' := 24) rfl rfl rfl ly_155 rfl rfl rfl rfl rfl rfl rfl (N_133_ok (d := d + 0) nm_155 G_3) ?_
  refine ev_st (st' := []) rfl ?_
  have e_3 := N_133_R G_3
  obtain rfl := Option.some.inj H
  exact ev_vret rfl rfl rfl
/-- GameTextModel.ruleItem(II)V, from 187 -/
def J_164_187 (N : Nat) (g : Nat) (x : Nat) (l_1 : Int32) (l_3 : Int32) (l_4 : Int32) (σ : st_S) : Option (st_S) :=
  (F_198 N (l_1 + 1) (if l_3 = 0 then 1 else 2 : Int32) l_4 (st_i (σ) g 6 (l_4 + 1))).bind fun p_24 =>
  some (p_24)
set_option maxRecDepth 100000 in
theorem J_164_187_R {N : Nat} {g : Nat} {x : Nat} {l_1 : Int32} {l_3 : Int32} {l_4 : Int32} {σ : st_S} {p : st_S} (H : J_164_187 N g x l_1 l_3 l_4 σ = some p) : gR p = gR σ := by
  unfold J_164_187 at H
  obtain ⟨p_24, G_24, H⟩ := F_bd H
  obtain rfl := Option.some.inj H
  exact ((F_198_R G_24).trans rfl)
set_option maxHeartbeats 4000000 in
set_option maxRecDepth 100000 in
theorem J_164_187_ok {N d : Nat} {g : Nat} (hg : g = 79 ∨ g = 115) {x : Nat} (hx : x = 67 ∨ x = 69) {l_1 : Int32} {l_3 : Int32} {l_4 : Int32} {σ : st_S} {lv : vz_L} {p : st_S} (g_0 : vz_g lv 0 = some (.ref 66)) (g_1 : vz_g lv 1 = some (.int l_1)) (g_3 : vz_g lv 3 = some (.int l_3)) (g_4 : vz_g lv 4 = some (.int l_4)) (hnb : vz_nbL (vz_gr P0) lv = true) (hr_66_2 : gR σ 66 2 = x) (hr_66_10 : gR σ 66 10 = g) (H : J_164_187 N g x l_1 l_3 l_4 σ = some p) : vz_ev P0 (d + 8) 164 187 lv [] (hp σ) (.inl none, hp p) := by
  unfold J_164_187 at H
  rcases hg with rfl | rfl
  · refine ev_x (i := .aload_n 0) (len := 1) (p' := 188) (s' := [.ref 66]) rfl rfl (ld_a g_0) ?_
    refine ev_gr (p' := 191) (v := 79) rfl rfl rfl ly_66 rfl rfl hr_66_10 ?_
    refine ev_x (i := .iload 4) (len := 2) (p' := 193) (s' := [.int l_4, .ref 79]) rfl rfl (ld_i g_4) ?_
    refine ev_x (i := .iconst 1) (len := 1) (p' := 194) (s' := [.int 1, .int l_4, .ref 79]) rfl rfl rfl ?_
    refine ev_x (i := .iadd) (len := 1) (p' := 195) (s' := [.int (l_4 + 1), .ref 79]) rfl rfl rfl ?_
    refine ev_pi (p' := 198) rfl rfl rfl ly_79 rfl rfl rfl rfl ?_
    refine ev_x (i := .aload_n 0) (len := 1) (p' := 199) (s' := [.ref 66]) rfl rfl (ld_a g_0) ?_
    refine ev_x (i := .iload_n 1) (len := 1) (p' := 200) (s' := [.int l_1, .ref 66]) rfl rfl (ld_i g_1) ?_
    refine ev_x (i := .iconst 1) (len := 1) (p' := 201) (s' := [.int 1, .int l_1, .ref 66]) rfl rfl rfl ?_
    refine ev_x (i := .iadd) (len := 1) (p' := 202) (s' := [.int (l_1 + 1), .ref 66]) rfl rfl rfl ?_
    refine ev_x (i := .iload_n 3) (len := 1) (p' := 203) (s' := [.int l_3, .int (l_1 + 1), .ref 66]) rfl rfl (ld_i g_3) ?_
    refine F_jn (A := vz_ev P0 (d + 8) 164 211 (lv) [.int (if l_3 = 0 then 1 else 2 : Int32), .int (l_1 + 1), .ref 66] (hp (st_i (σ) 79 6 (l_4 + 1))) (.inl none, hp p)) ?_ (fun J => ?_)
    · refine ev_x (i := .iload 4) (len := 2) (p' := 213) (s' := [.int l_4, .int (if l_3 = 0 then 1 else 2 : Int32), .int (l_1 + 1), .ref 66]) rfl rfl (ld_i g_4) ?_
      obtain ⟨p_24, G_24, H⟩ := F_bd H
      refine ev_cv (d := d + 7) (As := [.int (l_1 + 1), .int (if l_3 = 0 then 1 else 2 : Int32), .int l_4]) (a := 66) (p' := 216) rfl rfl rfl ly_66 rfl rfl rfl rfl rfl hnb rfl (F_198_ok (d := d + 5)   G_24) ?_
      refine ev_st (st' := []) rfl ?_
      have e_24 := F_198_R G_24
      obtain rfl := Option.some.inj H
      exact ev_vret rfl rfl rfl
    · by_cases c_23 : l_3 = 0
      · refine ev_b0 (t := 210) (p' := 210) rfl rfl rfl (if_pos c_23) ?_
        refine ev_x (i := .iconst 1) (len := 1) (p' := 211) (s' := [.int 1, .int (l_1 + 1), .ref 66]) rfl rfl rfl ?_
        exact ev_st (congrArg (fun z => Value.int z :: [.int (l_1 + 1), .ref 66]) (by rw [if_pos c_23])) J
      · refine ev_b0 (t := 210) (p' := 206) rfl rfl rfl (if_neg c_23) ?_
        refine ev_x (i := .iconst 2) (len := 1) (p' := 207) (s' := [.int 2, .int (l_1 + 1), .ref 66]) rfl rfl rfl ?_
        refine ev_x (i := .goto 4) (len := 3) (p' := 211) (s' := [.int 2, .int (l_1 + 1), .ref 66]) rfl rfl rfl ?_
        exact ev_st (congrArg (fun z => Value.int z :: [.int (l_1 + 1), .ref 66]) (by rw [if_neg c_23])) J
  · refine ev_x (i := .aload_n 0) (len := 1) (p' := 188) (s' := [.ref 66]) rfl rfl (ld_a g_0) ?_
    refine ev_gr (p' := 191) (v := 115) rfl rfl rfl ly_66 rfl rfl hr_66_10 ?_
    refine ev_x (i := .iload 4) (len := 2) (p' := 193) (s' := [.int l_4, .ref 115]) rfl rfl (ld_i g_4) ?_
    refine ev_x (i := .iconst 1) (len := 1) (p' := 194) (s' := [.int 1, .int l_4, .ref 115]) rfl rfl rfl ?_
    refine ev_x (i := .iadd) (len := 1) (p' := 195) (s' := [.int (l_4 + 1), .ref 115]) rfl rfl rfl ?_
    refine ev_pi (p' := 198) rfl rfl rfl ly_115 rfl rfl rfl rfl ?_
    refine ev_x (i := .aload_n 0) (len := 1) (p' := 199) (s' := [.ref 66]) rfl rfl (ld_a g_0) ?_
    refine ev_x (i := .iload_n 1) (len := 1) (p' := 200) (s' := [.int l_1, .ref 66]) rfl rfl (ld_i g_1) ?_
    refine ev_x (i := .iconst 1) (len := 1) (p' := 201) (s' := [.int 1, .int l_1, .ref 66]) rfl rfl rfl ?_
    refine ev_x (i := .iadd) (len := 1) (p' := 202) (s' := [.int (l_1 + 1), .ref 66]) rfl rfl rfl ?_
    refine ev_x (i := .iload_n 3) (len := 1) (p' := 203) (s' := [.int l_3, .int (l_1 + 1), .ref 66]) rfl rfl (ld_i g_3) ?_
    refine F_jn (A := vz_ev P0 (d + 8) 164 211 (lv) [.int (if l_3 = 0 then 1 else 2 : Int32), .int (l_1 + 1), .ref 66] (hp (st_i (σ) 115 6 (l_4 + 1))) (.inl none, hp p)) ?_ (fun J => ?_)
    · refine ev_x (i := .iload 4) (len := 2) (p' := 213) (s' := [.int l_4, .int (if l_3 = 0 then 1 else 2 : Int32), .int (l_1 + 1), .ref 66]) rfl rfl (ld_i g_4) ?_
      obtain ⟨p_24, G_24, H⟩ := F_bd H
      refine ev_cv (d := d + 7) (As := [.int (l_1 + 1), .int (if l_3 = 0 then 1 else 2 : Int32), .int l_4]) (a := 66) (p' := 216) rfl rfl rfl ly_66 rfl rfl rfl rfl rfl hnb rfl (F_198_ok (d := d + 5)   G_24) ?_
      refine ev_st (st' := []) rfl ?_
      have e_24 := F_198_R G_24
      obtain rfl := Option.some.inj H
      exact ev_vret rfl rfl rfl
    · by_cases c_23 : l_3 = 0
      · refine ev_b0 (t := 210) (p' := 210) rfl rfl rfl (if_pos c_23) ?_
        refine ev_x (i := .iconst 1) (len := 1) (p' := 211) (s' := [.int 1, .int (l_1 + 1), .ref 66]) rfl rfl rfl ?_
        exact ev_st (congrArg (fun z => Value.int z :: [.int (l_1 + 1), .ref 66]) (by rw [if_pos c_23])) J
      · refine ev_b0 (t := 210) (p' := 206) rfl rfl rfl (if_neg c_23) ?_
        refine ev_x (i := .iconst 2) (len := 1) (p' := 207) (s' := [.int 2, .int (l_1 + 1), .ref 66]) rfl rfl rfl ?_
        refine ev_x (i := .goto 4) (len := 3) (p' := 211) (s' := [.int 2, .int (l_1 + 1), .ref 66]) rfl rfl rfl ?_
        exact ev_st (congrArg (fun z => Value.int z :: [.int (l_1 + 1), .ref 66]) (by rw [if_neg c_23])) J
/-- GameTextModel.ruleItem(II)V -/
def F_164 (N : Nat) (g : Nat) (x : Nat) (x_1 : Int32) (x_2 : Int32) (σ : st_S) : Option (st_S) :=
  (F_162 N x_1 (σ)).bind fun p_1 =>
  if (gI p_1.2 g 6) = 60 then
    (F_159 N x_1 (p_1.2)).bind fun p_4 =>
    (F_165 N 5 p_4.1 (p_4.2)).bind fun p_5 =>
    some (p_5)
  else
    (F_166 N x (x_1 + 1) (p_1.2)).bind fun p_6 =>
    if p_6.1 < 0 then
      (F_168 N g x (x_1 + 3) x_2 (p_6.2)).bind fun p_8 =>
      (F_179 N g x p_8.1 (if (if p_1.1 = 6 then 1 else 0 : Int32) = 0 then 1 else 0 : Int32) (p_8.2)).bind fun p_10 =>
      if (gI p_10.2 66 16) = 0 then
        if aB (gI p_6.2 g 6) (gN p_10.2 (g + 13)) then
        if aB (gI p_6.2 g 6) (gN p_10.2 (g + 14)) then
        if aB (gI p_6.2 g 6) (gN p_10.2 (g + 15)) then
        if (if p_1.1 = 6 then 1 else 0 : Int32) = 0 then
          (F_185 N g p_8.1 (st_e (st_e (st_e (p_10.2) (g + 13) (((gI p_6.2 g 6) : Int32).toNatClampNeg) (vp_nar .boolean (if p_1.1 = 6 then 1 else 0 : Int32))) (g + 14) (((gI p_6.2 g 6) : Int32).toNatClampNeg) (vp_nar .boolean p_10.1)) (g + 15) (((gI p_6.2 g 6) : Int32).toNatClampNeg) p_8.1)).bind fun p_16 =>
          if aB 0 (gN p_16 163) then
          if aB (gI p_6.2 g 6) (gN p_16 (g + 16)) then
          if aB 0 (gN p_16 164) then
          if aB (gI p_6.2 g 6) (gN p_16 (g + 17)) then
          J_164_187 N g x x_1 (if p_1.1 = 6 then 1 else 0 : Int32) (gI p_6.2 g 6) (st_E (st_E (p_16) (g + 16) (((gI p_6.2 g 6) : Int32).toNatClampNeg) (gL (p_16) 163 (0 : Int32).toNatClampNeg)) (g + 17) (((gI p_6.2 g 6) : Int32).toNatClampNeg) (gL (p_16) 164 (0 : Int32).toNatClampNeg))
          else none
          else none
          else none
          else none
        else
          J_164_187 N g x x_1 (if p_1.1 = 6 then 1 else 0 : Int32) (gI p_6.2 g 6) (st_e (st_e (st_e (p_10.2) (g + 13) (((gI p_6.2 g 6) : Int32).toNatClampNeg) (vp_nar .boolean (if p_1.1 = 6 then 1 else 0 : Int32))) (g + 14) (((gI p_6.2 g 6) : Int32).toNatClampNeg) (vp_nar .boolean p_10.1)) (g + 15) (((gI p_6.2 g 6) : Int32).toNatClampNeg) p_8.1)
        else none
        else none
        else none
      else
        some (p_10.2)
    else
      (F_159 N (x_1 + 1) (p_6.2)).bind fun p_21 =>
      (F_165 N 2 p_21.1 (p_21.2)).bind fun p_22 =>
      some (p_22)
set_option maxRecDepth 100000 in
theorem F_164_R {N : Nat} {g : Nat} {x : Nat} {x_1 : Int32} {x_2 : Int32} {σ : st_S} {p : st_S} (H : F_164 N g x x_1 x_2 σ = some p) : gR p = gR σ := by
  unfold F_164 at H
  obtain ⟨p_1, G_1, H⟩ := F_bd H
  refine F_if H (fun _ H => ?_) (fun _ H => ?_)
  · obtain ⟨p_4, G_4, H⟩ := F_bd H
    obtain ⟨p_5, G_5, H⟩ := F_bd H
    obtain rfl := Option.some.inj H
    exact ((F_165_R G_5).trans ((F_159_R G_4).trans ((F_162_R G_1).trans rfl)))
  · obtain ⟨p_6, G_6, H⟩ := F_bd H
    refine F_if H (fun _ H => ?_) (fun _ H => ?_)
    · obtain ⟨p_8, G_8, H⟩ := F_bd H
      obtain ⟨p_10, G_10, H⟩ := F_bd H
      refine F_if H (fun _ H => ?_) (fun _ H => ?_)
      · obtain ⟨_, H⟩ := F_gd H
        obtain ⟨_, H⟩ := F_gd H
        obtain ⟨_, H⟩ := F_gd H
        refine F_if H (fun _ H => ?_) (fun _ H => ?_)
        · obtain ⟨p_16, G_16, H⟩ := F_bd H
          obtain ⟨_, H⟩ := F_gd H
          obtain ⟨_, H⟩ := F_gd H
          obtain ⟨_, H⟩ := F_gd H
          obtain ⟨_, H⟩ := F_gd H
          exact (((J_164_187_R H)).trans ((F_185_R G_16).trans ((F_179_R G_10).trans ((F_168_R G_8).trans ((F_166_R G_6).trans ((F_162_R G_1).trans rfl))))))
        · exact (((J_164_187_R H)).trans ((F_179_R G_10).trans ((F_168_R G_8).trans ((F_166_R G_6).trans ((F_162_R G_1).trans rfl)))))
      · obtain rfl := Option.some.inj H
        exact ((F_179_R G_10).trans ((F_168_R G_8).trans ((F_166_R G_6).trans ((F_162_R G_1).trans rfl))))
    · obtain ⟨p_21, G_21, H⟩ := F_bd H
      obtain ⟨p_22, G_22, H⟩ := F_bd H
      obtain rfl := Option.some.inj H
      exact ((F_165_R G_22).trans ((F_159_R G_21).trans ((F_166_R G_6).trans ((F_162_R G_1).trans rfl))))
set_option maxHeartbeats 4000000 in
set_option maxRecDepth 100000 in
theorem F_164_ok {N d : Nat} {g : Nat} (hg : g = 79 ∨ g = 115) {x : Nat} (hx : x = 67 ∨ x = 69) {x_1 : Int32} {x_2 : Int32} {σ : st_S} {p : st_S} (hr_66_2 : gR σ 66 2 = x) (hr_66_10 : gR σ 66 10 = g) (H : F_164 N g x x_1 x_2 σ = some p) : vz_ev P0 (d + 8) 164 0 (lv_args 0 [.ref 66, .int x_1, .int x_2]) [] (hp σ) (.inl none, hp p) := by
  unfold F_164 at H
  rcases hg with rfl | rfl
  · refine ev_x (i := .aload_n 0) (len := 1) (p' := 1) (s' := [.ref 66]) rfl rfl rfl ?_
    refine ev_x (i := .iload_n 1) (len := 1) (p' := 2) (s' := [.int x_1, .ref 66]) rfl rfl rfl ?_
    obtain ⟨p_1, G_1, H⟩ := F_bd H
    refine ev_cv (d := d + 7) (As := [.int x_1]) (a := 66) (p' := 5) rfl rfl rfl ly_66 rfl rfl rfl rfl rfl rfl rfl (F_162_ok (d := d + 5)   G_1) ?_
    refine ev_st (st' := [.int p_1.1]) rfl ?_
    have e_1 := F_162_R G_1
    refine ev_x (i := .bipush 6) (len := 2) (p' := 7) (s' := [.int 6, .int p_1.1]) rfl rfl rfl ?_
    refine F_jn (A := vz_ev P0 (d + 8) 164 15 [(0, .ref 66), (1, .int x_1), (2, .int x_2)] [.int (if p_1.1 = 6 then 1 else 0 : Int32)] (hp (p_1.2)) (.inl none, hp p)) ?_ (fun J => ?_)
    · refine ev_x (i := .istore_n 3) (len := 1) (p' := 16) (s' := []) (l' := [(3, .int (if p_1.1 = 6 then 1 else 0 : Int32)), (0, .ref 66), (1, .int x_1), (2, .int x_2)]) rfl rfl rfl ?_
      refine ev_x (i := .aload_n 0) (len := 1) (p' := 17) (s' := [.ref 66]) rfl rfl rfl ?_
      refine ev_gr (p' := 20) (v := 79) rfl rfl rfl ly_66 rfl rfl ((congrFun (congrFun e_1 66) 10).trans hr_66_10) ?_
      refine ev_gi (p' := 23) (v := (gI p_1.2 79 6)) rfl rfl rfl ly_79 rfl rfl rfl ?_
      refine ev_x (i := .bipush 60) (len := 2) (p' := 25) (s' := [.int 60, .int (gI p_1.2 79 6)]) rfl rfl rfl ?_
      refine F_if H (fun c_3 H => ?_) (fun c_3 H => ?_)
      · refine ev_b2 (t := 39) (p' := 28) rfl rfl rfl (if_neg (fun q => q c_3)) ?_
        refine ev_x (i := .aload_n 0) (len := 1) (p' := 29) (s' := [.ref 66]) rfl rfl rfl ?_
        refine ev_x (i := .iconst 5) (len := 1) (p' := 30) (s' := [.int 5, .ref 66]) rfl rfl rfl ?_
        refine ev_x (i := .aload_n 0) (len := 1) (p' := 31) (s' := [.ref 66, .int 5, .ref 66]) rfl rfl rfl ?_
        refine ev_x (i := .iload_n 1) (len := 1) (p' := 32) (s' := [.int x_1, .ref 66, .int 5, .ref 66]) rfl rfl rfl ?_
        obtain ⟨p_4, G_4, H⟩ := F_bd H
        refine ev_cv (d := d + 7) (As := [.int x_1]) (a := 66) (p' := 35) rfl rfl rfl ly_66 rfl rfl rfl rfl rfl rfl rfl (F_159_ok (d := d + 5)   G_4) ?_
        refine ev_st (st' := [.int p_4.1, .int 5, .ref 66]) rfl ?_
        have e_4 := F_159_R G_4
        obtain ⟨p_5, G_5, H⟩ := F_bd H
        refine ev_cv (d := d + 7) (As := [.int 5, .int p_4.1]) (a := 66) (p' := 38) rfl rfl rfl ly_66 rfl rfl rfl rfl rfl rfl rfl (F_165_ok (d := d + 6)   G_5) ?_
        refine ev_st (st' := []) rfl ?_
        have e_5 := F_165_R G_5
        obtain rfl := Option.some.inj H
        exact ev_vret rfl rfl rfl
      · refine ev_b2 (t := 39) (p' := 39) rfl rfl rfl (if_pos c_3) ?_
        refine ev_x (i := .aload_n 0) (len := 1) (p' := 40) (s' := [.ref 66]) rfl rfl rfl ?_
        refine ev_x (i := .iload_n 1) (len := 1) (p' := 41) (s' := [.int x_1, .ref 66]) rfl rfl rfl ?_
        refine ev_x (i := .iconst 1) (len := 1) (p' := 42) (s' := [.int 1, .int x_1, .ref 66]) rfl rfl rfl ?_
        refine ev_x (i := .iadd) (len := 1) (p' := 43) (s' := [.int (x_1 + 1), .ref 66]) rfl rfl rfl ?_
        obtain ⟨p_6, G_6, H⟩ := F_bd H
        refine ev_cv (d := d + 7) (As := [.int (x_1 + 1)]) (a := 66) (p' := 46) rfl rfl rfl ly_66 rfl rfl rfl rfl rfl rfl rfl (F_166_ok (d := d + 3) (hx := hx) (hr_66_2 := ((congrFun (congrFun e_1 66) 2).trans hr_66_2)) G_6) ?_
        refine ev_st (st' := [.int p_6.1]) rfl ?_
        have e_6 := F_166_R G_6
        refine F_if H (fun c_7 H => ?_) (fun c_7 H => ?_)
        · refine ev_b0 (t := 62) (p' := 62) rfl rfl rfl (if_pos c_7) ?_
          refine ev_x (i := .aload_n 0) (len := 1) (p' := 63) (s' := [.ref 66]) rfl rfl rfl ?_
          refine ev_gr (p' := 66) (v := 79) rfl rfl rfl ly_66 rfl rfl ((congrFun (congrFun e_6 66) 10).trans ((congrFun (congrFun e_1 66) 10).trans hr_66_10)) ?_
          refine ev_gi (p' := 69) (v := (gI p_6.2 79 6)) rfl rfl rfl ly_79 rfl rfl rfl ?_
          refine ev_x (i := .istore 4) (len := 2) (p' := 71) (s' := []) (l' := [(4, .int (gI p_6.2 79 6)), (3, .int (if p_1.1 = 6 then 1 else 0 : Int32)), (0, .ref 66), (1, .int x_1), (2, .int x_2)]) rfl rfl rfl ?_
          refine ev_x (i := .aload_n 0) (len := 1) (p' := 72) (s' := [.ref 66]) rfl rfl rfl ?_
          refine ev_x (i := .iload_n 1) (len := 1) (p' := 73) (s' := [.int x_1, .ref 66]) rfl rfl rfl ?_
          refine ev_x (i := .iconst 3) (len := 1) (p' := 74) (s' := [.int 3, .int x_1, .ref 66]) rfl rfl rfl ?_
          refine ev_x (i := .iadd) (len := 1) (p' := 75) (s' := [.int (x_1 + 3), .ref 66]) rfl rfl rfl ?_
          refine ev_x (i := .iload_n 2) (len := 1) (p' := 76) (s' := [.int x_2, .int (x_1 + 3), .ref 66]) rfl rfl rfl ?_
          obtain ⟨p_8, G_8, H⟩ := F_bd H
          refine ev_cv (d := d + 7) (As := [.int (x_1 + 3), .int x_2]) (a := 66) (p' := 79) rfl rfl rfl ly_66 rfl rfl rfl rfl rfl rfl rfl (F_168_ok (d := d + 0) (hg := (Or.inl rfl)) (hx := hx) (hr_66_2 := ((congrFun (congrFun e_6 66) 2).trans ((congrFun (congrFun e_1 66) 2).trans hr_66_2))) (hr_66_10 := ((congrFun (congrFun e_6 66) 10).trans ((congrFun (congrFun e_1 66) 10).trans hr_66_10))) G_8) ?_
          refine ev_st (st' := [.int p_8.1]) rfl ?_
          have e_8 := F_168_R G_8
          refine ev_x (i := .istore 5) (len := 2) (p' := 81) (s' := []) (l' := [(5, .int p_8.1), (4, .int (gI p_6.2 79 6)), (3, .int (if p_1.1 = 6 then 1 else 0 : Int32)), (0, .ref 66), (1, .int x_1), (2, .int x_2)]) rfl rfl rfl ?_
          refine ev_x (i := .aload_n 0) (len := 1) (p' := 82) (s' := [.ref 66]) rfl rfl rfl ?_
          refine ev_x (i := .iload 5) (len := 2) (p' := 84) (s' := [.int p_8.1, .ref 66]) rfl rfl rfl ?_
          refine ev_x (i := .iload_n 3) (len := 1) (p' := 85) (s' := [.int (if p_1.1 = 6 then 1 else 0 : Int32), .int p_8.1, .ref 66]) rfl rfl rfl ?_
          refine F_jn (A := vz_ev P0 (d + 8) 164 93 [(5, .int p_8.1), (4, .int (gI p_6.2 79 6)), (3, .int (if p_1.1 = 6 then 1 else 0 : Int32)), (0, .ref 66), (1, .int x_1), (2, .int x_2)] [.int (if (if p_1.1 = 6 then 1 else 0 : Int32) = 0 then 1 else 0 : Int32), .int p_8.1, .ref 66] (hp (p_8.2)) (.inl none, hp p)) ?_ (fun J => ?_)
          · obtain ⟨p_10, G_10, H⟩ := F_bd H
            refine ev_cv (d := d + 7) (As := [.int p_8.1, .int (if (if p_1.1 = 6 then 1 else 0 : Int32) = 0 then 1 else 0 : Int32)]) (a := 66) (p' := 96) rfl rfl rfl ly_66 rfl rfl rfl rfl rfl rfl rfl (F_179_ok (d := d + 0) (hg := (Or.inl rfl)) (hx := hx) (hr_66_2 := ((congrFun (congrFun e_8 66) 2).trans ((congrFun (congrFun e_6 66) 2).trans ((congrFun (congrFun e_1 66) 2).trans hr_66_2)))) (hr_66_10 := ((congrFun (congrFun e_8 66) 10).trans ((congrFun (congrFun e_6 66) 10).trans ((congrFun (congrFun e_1 66) 10).trans hr_66_10)))) G_10) ?_
            refine ev_st (st' := [.int p_10.1]) rfl ?_
            have e_10 := F_179_R G_10
            refine ev_x (i := .istore 6) (len := 2) (p' := 98) (s' := []) (l' := [(6, .int p_10.1), (5, .int p_8.1), (4, .int (gI p_6.2 79 6)), (3, .int (if p_1.1 = 6 then 1 else 0 : Int32)), (0, .ref 66), (1, .int x_1), (2, .int x_2)]) rfl rfl rfl ?_
            refine ev_x (i := .aload_n 0) (len := 1) (p' := 99) (s' := [.ref 66]) rfl rfl rfl ?_
            refine ev_gi (p' := 102) (v := (gI p_10.2 66 16)) rfl rfl rfl ly_66 rfl rfl rfl ?_
            refine F_if H (fun c_11 H => ?_) (fun c_11 H => ?_)
            · refine ev_b0 (t := 106) (p' := 106) rfl rfl rfl (if_pos c_11) ?_
              refine ev_x (i := .aload_n 0) (len := 1) (p' := 107) (s' := [.ref 66]) rfl rfl rfl ?_
              refine ev_gr (p' := 110) (v := 79) rfl rfl rfl ly_66 rfl rfl ((congrFun (congrFun e_10 66) 10).trans ((congrFun (congrFun e_8 66) 10).trans ((congrFun (congrFun e_6 66) 10).trans ((congrFun (congrFun e_1 66) 10).trans hr_66_10)))) ?_
              refine ev_gc (p' := 113) (v := 92) rfl rfl rfl ly_79 rfl rfl ?_
              refine ev_x (i := .iload 4) (len := 2) (p' := 115) (s' := [.int (gI p_6.2 79 6), .ref 92]) rfl rfl rfl ?_
              refine ev_x (i := .iload_n 3) (len := 1) (p' := 116) (s' := [.int (if p_1.1 = 6 then 1 else 0 : Int32), .int (gI p_6.2 79 6), .ref 92]) rfl rfl rfl ?_
              obtain ⟨b_12, H⟩ := F_gd H
              refine ev_pb (j := ((gI p_6.2 79 6) : Int32).toNatClampNeg) (p' := 117) rfl rfl ly_92 rfl (gd_in b_12) rfl ?_
              refine ev_x (i := .aload_n 0) (len := 1) (p' := 118) (s' := [.ref 66]) rfl rfl rfl ?_
              refine ev_gr (p' := 121) (v := 79) rfl rfl rfl ly_66 rfl rfl ((congrFun (congrFun e_10 66) 10).trans ((congrFun (congrFun e_8 66) 10).trans ((congrFun (congrFun e_6 66) 10).trans ((congrFun (congrFun e_1 66) 10).trans hr_66_10)))) ?_
              refine ev_gc (p' := 124) (v := 93) rfl rfl rfl ly_79 rfl rfl ?_
              refine ev_x (i := .iload 4) (len := 2) (p' := 126) (s' := [.int (gI p_6.2 79 6), .ref 93]) rfl rfl rfl ?_
              refine ev_x (i := .iload 6) (len := 2) (p' := 128) (s' := [.int p_10.1, .int (gI p_6.2 79 6), .ref 93]) rfl rfl rfl ?_
              obtain ⟨b_13, H⟩ := F_gd H
              refine ev_pb (j := ((gI p_6.2 79 6) : Int32).toNatClampNeg) (p' := 129) rfl rfl ly_93 rfl (gd_in b_13) rfl ?_
              refine ev_x (i := .aload_n 0) (len := 1) (p' := 130) (s' := [.ref 66]) rfl rfl rfl ?_
              refine ev_gr (p' := 133) (v := 79) rfl rfl rfl ly_66 rfl rfl ((congrFun (congrFun e_10 66) 10).trans ((congrFun (congrFun e_8 66) 10).trans ((congrFun (congrFun e_6 66) 10).trans ((congrFun (congrFun e_1 66) 10).trans hr_66_10)))) ?_
              refine ev_gc (p' := 136) (v := 94) rfl rfl rfl ly_79 rfl rfl ?_
              refine ev_x (i := .iload 4) (len := 2) (p' := 138) (s' := [.int (gI p_6.2 79 6), .ref 94]) rfl rfl rfl ?_
              refine ev_x (i := .iload 5) (len := 2) (p' := 140) (s' := [.int p_8.1, .int (gI p_6.2 79 6), .ref 94]) rfl rfl rfl ?_
              obtain ⟨b_14, H⟩ := F_gd H
              refine ev_pa (j := ((gI p_6.2 79 6) : Int32).toNatClampNeg) (p' := 141) rfl rfl ly_94 rfl (gd_in b_14) rfl ?_
              refine ev_x (i := .iload_n 3) (len := 1) (p' := 142) (s' := [.int (if p_1.1 = 6 then 1 else 0 : Int32)]) rfl rfl rfl ?_
              refine F_if H (fun c_15 H => ?_) (fun c_15 H => ?_)
              · refine ev_b0 (t := 187) (p' := 145) rfl rfl rfl (if_neg (fun q => q c_15)) ?_
                refine ev_x (i := .aload_n 0) (len := 1) (p' := 146) (s' := [.ref 66]) rfl rfl rfl ?_
                refine ev_x (i := .aload_n 0) (len := 1) (p' := 147) (s' := [.ref 66, .ref 66]) rfl rfl rfl ?_
                refine ev_gr (p' := 150) (v := 79) rfl rfl rfl ly_66 rfl rfl ((congrFun (congrFun e_10 66) 10).trans ((congrFun (congrFun e_8 66) 10).trans ((congrFun (congrFun e_6 66) 10).trans ((congrFun (congrFun e_1 66) 10).trans hr_66_10)))) ?_
                refine ev_x (i := .iload 5) (len := 2) (p' := 152) (s' := [.int p_8.1, .ref 79, .ref 66]) rfl rfl rfl ?_
                obtain ⟨p_16, G_16, H⟩ := F_bd H
                refine ev_cv (d := d + 7) (As := [.ref 79, .int p_8.1]) (a := 66) (p' := 155) rfl rfl rfl ly_66 rfl rfl rfl rfl rfl rfl rfl (F_185_ok (d := d + 2) (hg := (Or.inl rfl))  G_16) ?_
                refine ev_st (st' := []) rfl ?_
                have e_16 := F_185_R G_16
                refine ev_x (i := .aload_n 0) (len := 1) (p' := 156) (s' := [.ref 66]) rfl rfl rfl ?_
                refine ev_gr (p' := 159) (v := 79) rfl rfl rfl ly_66 rfl rfl ((congrFun (congrFun e_16 66) 10).trans ((congrFun (congrFun e_10 66) 10).trans ((congrFun (congrFun e_8 66) 10).trans ((congrFun (congrFun e_6 66) 10).trans ((congrFun (congrFun e_1 66) 10).trans hr_66_10))))) ?_
                refine ev_gc (p' := 162) (v := 95) rfl rfl rfl ly_79 rfl rfl ?_
                refine ev_x (i := .iload 4) (len := 2) (p' := 164) (s' := [.int (gI p_6.2 79 6), .ref 95]) rfl rfl rfl ?_
                refine ev_x (i := .aload_n 0) (len := 1) (p' := 165) (s' := [.ref 66, .int (gI p_6.2 79 6), .ref 95]) rfl rfl rfl ?_
                refine ev_gc (p' := 168) (v := 163) rfl rfl rfl ly_66 rfl rfl ?_
                refine ev_x (i := .iconst 0) (len := 1) (p' := 169) (s' := [.int 0, .ref 163, .int (gI p_6.2 79 6), .ref 95]) rfl rfl rfl ?_
                obtain ⟨b_17, H⟩ := F_gd H
                refine ev_gL (p' := 170) (v := (gL (p_16) 163 (0 : Int32).toNatClampNeg)) rfl rfl ly_163 rfl (gd_in b_17) rfl ?_
                obtain ⟨b_18, H⟩ := F_gd H
                refine ev_pL (j := ((gI p_6.2 79 6) : Int32).toNatClampNeg) (p' := 171) rfl rfl ly_95 rfl (gd_in b_18) rfl ?_
                refine ev_x (i := .aload_n 0) (len := 1) (p' := 172) (s' := [.ref 66]) rfl rfl rfl ?_
                refine ev_gr (p' := 175) (v := 79) rfl rfl rfl ly_66 rfl rfl ((congrFun (congrFun e_16 66) 10).trans ((congrFun (congrFun e_10 66) 10).trans ((congrFun (congrFun e_8 66) 10).trans ((congrFun (congrFun e_6 66) 10).trans ((congrFun (congrFun e_1 66) 10).trans hr_66_10))))) ?_
                refine ev_gc (p' := 178) (v := 96) rfl rfl rfl ly_79 rfl rfl ?_
                refine ev_x (i := .iload 4) (len := 2) (p' := 180) (s' := [.int (gI p_6.2 79 6), .ref 96]) rfl rfl rfl ?_
                refine ev_x (i := .aload_n 0) (len := 1) (p' := 181) (s' := [.ref 66, .int (gI p_6.2 79 6), .ref 96]) rfl rfl rfl ?_
                refine ev_gc (p' := 184) (v := 164) rfl rfl rfl ly_66 rfl rfl ?_
                refine ev_x (i := .iconst 0) (len := 1) (p' := 185) (s' := [.int 0, .ref 164, .int (gI p_6.2 79 6), .ref 96]) rfl rfl rfl ?_
                obtain ⟨b_19, H⟩ := F_gd H
                refine ev_gL (p' := 186) (v := (gL (p_16) 164 (0 : Int32).toNatClampNeg)) rfl rfl ly_164 rfl (gd_in b_19) rfl ?_
                obtain ⟨b_20, H⟩ := F_gd H
                refine ev_pL (j := ((gI p_6.2 79 6) : Int32).toNatClampNeg) (p' := 187) rfl rfl ly_96 rfl (gd_in b_20) rfl ?_
                exact J_164_187_ok (d := d) (Or.inl rfl) hx rfl rfl rfl rfl rfl ((congrFun (congrFun e_16 66) 2).trans ((congrFun (congrFun e_10 66) 2).trans ((congrFun (congrFun e_8 66) 2).trans ((congrFun (congrFun e_6 66) 2).trans ((congrFun (congrFun e_1 66) 2).trans hr_66_2))))) ((congrFun (congrFun e_16 66) 10).trans ((congrFun (congrFun e_10 66) 10).trans ((congrFun (congrFun e_8 66) 10).trans ((congrFun (congrFun e_6 66) 10).trans ((congrFun (congrFun e_1 66) 10).trans hr_66_10))))) H
              · refine ev_b0 (t := 187) (p' := 187) rfl rfl rfl (if_pos c_15) ?_
                exact J_164_187_ok (d := d) (Or.inl rfl) hx rfl rfl rfl rfl rfl ((congrFun (congrFun e_10 66) 2).trans ((congrFun (congrFun e_8 66) 2).trans ((congrFun (congrFun e_6 66) 2).trans ((congrFun (congrFun e_1 66) 2).trans hr_66_2)))) ((congrFun (congrFun e_10 66) 10).trans ((congrFun (congrFun e_8 66) 10).trans ((congrFun (congrFun e_6 66) 10).trans ((congrFun (congrFun e_1 66) 10).trans hr_66_10)))) H
            · refine ev_b0 (t := 106) (p' := 105) rfl rfl rfl (if_neg c_11) ?_
              obtain rfl := Option.some.inj H
              exact ev_vret rfl rfl rfl
          · by_cases c_9 : (if p_1.1 = 6 then 1 else 0 : Int32) = 0
            · refine ev_b0 (t := 92) (p' := 88) rfl rfl rfl (if_neg (fun q => q c_9)) ?_
              refine ev_x (i := .iconst 1) (len := 1) (p' := 89) (s' := [.int 1, .int p_8.1, .ref 66]) rfl rfl rfl ?_
              refine ev_x (i := .goto 4) (len := 3) (p' := 93) (s' := [.int 1, .int p_8.1, .ref 66]) rfl rfl rfl ?_
              exact ev_st (congrArg (fun z => Value.int z :: [.int p_8.1, .ref 66]) (by rw [if_pos c_9])) J
            · refine ev_b0 (t := 92) (p' := 92) rfl rfl rfl (if_pos c_9) ?_
              refine ev_x (i := .iconst 0) (len := 1) (p' := 93) (s' := [.int 0, .int p_8.1, .ref 66]) rfl rfl rfl ?_
              exact ev_st (congrArg (fun z => Value.int z :: [.int p_8.1, .ref 66]) (by rw [if_neg c_9])) J
        · refine ev_b0 (t := 62) (p' := 49) rfl rfl rfl (if_neg c_7) ?_
          refine ev_x (i := .aload_n 0) (len := 1) (p' := 50) (s' := [.ref 66]) rfl rfl rfl ?_
          refine ev_x (i := .iconst 2) (len := 1) (p' := 51) (s' := [.int 2, .ref 66]) rfl rfl rfl ?_
          refine ev_x (i := .aload_n 0) (len := 1) (p' := 52) (s' := [.ref 66, .int 2, .ref 66]) rfl rfl rfl ?_
          refine ev_x (i := .iload_n 1) (len := 1) (p' := 53) (s' := [.int x_1, .ref 66, .int 2, .ref 66]) rfl rfl rfl ?_
          refine ev_x (i := .iconst 1) (len := 1) (p' := 54) (s' := [.int 1, .int x_1, .ref 66, .int 2, .ref 66]) rfl rfl rfl ?_
          refine ev_x (i := .iadd) (len := 1) (p' := 55) (s' := [.int (x_1 + 1), .ref 66, .int 2, .ref 66]) rfl rfl rfl ?_
          obtain ⟨p_21, G_21, H⟩ := F_bd H
          refine ev_cv (d := d + 7) (As := [.int (x_1 + 1)]) (a := 66) (p' := 58) rfl rfl rfl ly_66 rfl rfl rfl rfl rfl rfl rfl (F_159_ok (d := d + 5)   G_21) ?_
          refine ev_st (st' := [.int p_21.1, .int 2, .ref 66]) rfl ?_
          have e_21 := F_159_R G_21
          obtain ⟨p_22, G_22, H⟩ := F_bd H
          refine ev_cv (d := d + 7) (As := [.int 2, .int p_21.1]) (a := 66) (p' := 61) rfl rfl rfl ly_66 rfl rfl rfl rfl rfl rfl rfl (F_165_ok (d := d + 6)   G_22) ?_
          refine ev_st (st' := []) rfl ?_
          have e_22 := F_165_R G_22
          obtain rfl := Option.some.inj H
          exact ev_vret rfl rfl rfl
    · by_cases c_2 : p_1.1 = 6
      · refine ev_b2 (t := 14) (p' := 10) rfl rfl rfl (if_neg (fun q => q c_2)) ?_
        refine ev_x (i := .iconst 1) (len := 1) (p' := 11) (s' := [.int 1]) rfl rfl rfl ?_
        refine ev_x (i := .goto 4) (len := 3) (p' := 15) (s' := [.int 1]) rfl rfl rfl ?_
        exact ev_st (congrArg (fun z => Value.int z :: []) (by rw [if_pos c_2])) J
      · refine ev_b2 (t := 14) (p' := 14) rfl rfl rfl (if_pos c_2) ?_
        refine ev_x (i := .iconst 0) (len := 1) (p' := 15) (s' := [.int 0]) rfl rfl rfl ?_
        exact ev_st (congrArg (fun z => Value.int z :: []) (by rw [if_neg c_2])) J
  · refine ev_x (i := .aload_n 0) (len := 1) (p' := 1) (s' := [.ref 66]) rfl rfl rfl ?_
    refine ev_x (i := .iload_n 1) (len := 1) (p' := 2) (s' := [.int x_1, .ref 66]) rfl rfl rfl ?_
    obtain ⟨p_1, G_1, H⟩ := F_bd H
    refine ev_cv (d := d + 7) (As := [.int x_1]) (a := 66) (p' := 5) rfl rfl rfl ly_66 rfl rfl rfl rfl rfl rfl rfl (F_162_ok (d := d + 5)   G_1) ?_
    refine ev_st (st' := [.int p_1.1]) rfl ?_
    have e_1 := F_162_R G_1
    refine ev_x (i := .bipush 6) (len := 2) (p' := 7) (s' := [.int 6, .int p_1.1]) rfl rfl rfl ?_
    refine F_jn (A := vz_ev P0 (d + 8) 164 15 [(0, .ref 66), (1, .int x_1), (2, .int x_2)] [.int (if p_1.1 = 6 then 1 else 0 : Int32)] (hp (p_1.2)) (.inl none, hp p)) ?_ (fun J => ?_)
    · refine ev_x (i := .istore_n 3) (len := 1) (p' := 16) (s' := []) (l' := [(3, .int (if p_1.1 = 6 then 1 else 0 : Int32)), (0, .ref 66), (1, .int x_1), (2, .int x_2)]) rfl rfl rfl ?_
      refine ev_x (i := .aload_n 0) (len := 1) (p' := 17) (s' := [.ref 66]) rfl rfl rfl ?_
      refine ev_gr (p' := 20) (v := 115) rfl rfl rfl ly_66 rfl rfl ((congrFun (congrFun e_1 66) 10).trans hr_66_10) ?_
      refine ev_gi (p' := 23) (v := (gI p_1.2 115 6)) rfl rfl rfl ly_115 rfl rfl rfl ?_
      refine ev_x (i := .bipush 60) (len := 2) (p' := 25) (s' := [.int 60, .int (gI p_1.2 115 6)]) rfl rfl rfl ?_
      refine F_if H (fun c_3 H => ?_) (fun c_3 H => ?_)
      · refine ev_b2 (t := 39) (p' := 28) rfl rfl rfl (if_neg (fun q => q c_3)) ?_
        refine ev_x (i := .aload_n 0) (len := 1) (p' := 29) (s' := [.ref 66]) rfl rfl rfl ?_
        refine ev_x (i := .iconst 5) (len := 1) (p' := 30) (s' := [.int 5, .ref 66]) rfl rfl rfl ?_
        refine ev_x (i := .aload_n 0) (len := 1) (p' := 31) (s' := [.ref 66, .int 5, .ref 66]) rfl rfl rfl ?_
        refine ev_x (i := .iload_n 1) (len := 1) (p' := 32) (s' := [.int x_1, .ref 66, .int 5, .ref 66]) rfl rfl rfl ?_
        obtain ⟨p_4, G_4, H⟩ := F_bd H
        refine ev_cv (d := d + 7) (As := [.int x_1]) (a := 66) (p' := 35) rfl rfl rfl ly_66 rfl rfl rfl rfl rfl rfl rfl (F_159_ok (d := d + 5)   G_4) ?_
        refine ev_st (st' := [.int p_4.1, .int 5, .ref 66]) rfl ?_
        have e_4 := F_159_R G_4
        obtain ⟨p_5, G_5, H⟩ := F_bd H
        refine ev_cv (d := d + 7) (As := [.int 5, .int p_4.1]) (a := 66) (p' := 38) rfl rfl rfl ly_66 rfl rfl rfl rfl rfl rfl rfl (F_165_ok (d := d + 6)   G_5) ?_
        refine ev_st (st' := []) rfl ?_
        have e_5 := F_165_R G_5
        obtain rfl := Option.some.inj H
        exact ev_vret rfl rfl rfl
      · refine ev_b2 (t := 39) (p' := 39) rfl rfl rfl (if_pos c_3) ?_
        refine ev_x (i := .aload_n 0) (len := 1) (p' := 40) (s' := [.ref 66]) rfl rfl rfl ?_
        refine ev_x (i := .iload_n 1) (len := 1) (p' := 41) (s' := [.int x_1, .ref 66]) rfl rfl rfl ?_
        refine ev_x (i := .iconst 1) (len := 1) (p' := 42) (s' := [.int 1, .int x_1, .ref 66]) rfl rfl rfl ?_
        refine ev_x (i := .iadd) (len := 1) (p' := 43) (s' := [.int (x_1 + 1), .ref 66]) rfl rfl rfl ?_
        obtain ⟨p_6, G_6, H⟩ := F_bd H
        refine ev_cv (d := d + 7) (As := [.int (x_1 + 1)]) (a := 66) (p' := 46) rfl rfl rfl ly_66 rfl rfl rfl rfl rfl rfl rfl (F_166_ok (d := d + 3) (hx := hx) (hr_66_2 := ((congrFun (congrFun e_1 66) 2).trans hr_66_2)) G_6) ?_
        refine ev_st (st' := [.int p_6.1]) rfl ?_
        have e_6 := F_166_R G_6
        refine F_if H (fun c_7 H => ?_) (fun c_7 H => ?_)
        · refine ev_b0 (t := 62) (p' := 62) rfl rfl rfl (if_pos c_7) ?_
          refine ev_x (i := .aload_n 0) (len := 1) (p' := 63) (s' := [.ref 66]) rfl rfl rfl ?_
          refine ev_gr (p' := 66) (v := 115) rfl rfl rfl ly_66 rfl rfl ((congrFun (congrFun e_6 66) 10).trans ((congrFun (congrFun e_1 66) 10).trans hr_66_10)) ?_
          refine ev_gi (p' := 69) (v := (gI p_6.2 115 6)) rfl rfl rfl ly_115 rfl rfl rfl ?_
          refine ev_x (i := .istore 4) (len := 2) (p' := 71) (s' := []) (l' := [(4, .int (gI p_6.2 115 6)), (3, .int (if p_1.1 = 6 then 1 else 0 : Int32)), (0, .ref 66), (1, .int x_1), (2, .int x_2)]) rfl rfl rfl ?_
          refine ev_x (i := .aload_n 0) (len := 1) (p' := 72) (s' := [.ref 66]) rfl rfl rfl ?_
          refine ev_x (i := .iload_n 1) (len := 1) (p' := 73) (s' := [.int x_1, .ref 66]) rfl rfl rfl ?_
          refine ev_x (i := .iconst 3) (len := 1) (p' := 74) (s' := [.int 3, .int x_1, .ref 66]) rfl rfl rfl ?_
          refine ev_x (i := .iadd) (len := 1) (p' := 75) (s' := [.int (x_1 + 3), .ref 66]) rfl rfl rfl ?_
          refine ev_x (i := .iload_n 2) (len := 1) (p' := 76) (s' := [.int x_2, .int (x_1 + 3), .ref 66]) rfl rfl rfl ?_
          obtain ⟨p_8, G_8, H⟩ := F_bd H
          refine ev_cv (d := d + 7) (As := [.int (x_1 + 3), .int x_2]) (a := 66) (p' := 79) rfl rfl rfl ly_66 rfl rfl rfl rfl rfl rfl rfl (F_168_ok (d := d + 0) (hg := (Or.inr rfl)) (hx := hx) (hr_66_2 := ((congrFun (congrFun e_6 66) 2).trans ((congrFun (congrFun e_1 66) 2).trans hr_66_2))) (hr_66_10 := ((congrFun (congrFun e_6 66) 10).trans ((congrFun (congrFun e_1 66) 10).trans hr_66_10))) G_8) ?_
          refine ev_st (st' := [.int p_8.1]) rfl ?_
          have e_8 := F_168_R G_8
          refine ev_x (i := .istore 5) (len := 2) (p' := 81) (s' := []) (l' := [(5, .int p_8.1), (4, .int (gI p_6.2 115 6)), (3, .int (if p_1.1 = 6 then 1 else 0 : Int32)), (0, .ref 66), (1, .int x_1), (2, .int x_2)]) rfl rfl rfl ?_
          refine ev_x (i := .aload_n 0) (len := 1) (p' := 82) (s' := [.ref 66]) rfl rfl rfl ?_
          refine ev_x (i := .iload 5) (len := 2) (p' := 84) (s' := [.int p_8.1, .ref 66]) rfl rfl rfl ?_
          refine ev_x (i := .iload_n 3) (len := 1) (p' := 85) (s' := [.int (if p_1.1 = 6 then 1 else 0 : Int32), .int p_8.1, .ref 66]) rfl rfl rfl ?_
          refine F_jn (A := vz_ev P0 (d + 8) 164 93 [(5, .int p_8.1), (4, .int (gI p_6.2 115 6)), (3, .int (if p_1.1 = 6 then 1 else 0 : Int32)), (0, .ref 66), (1, .int x_1), (2, .int x_2)] [.int (if (if p_1.1 = 6 then 1 else 0 : Int32) = 0 then 1 else 0 : Int32), .int p_8.1, .ref 66] (hp (p_8.2)) (.inl none, hp p)) ?_ (fun J => ?_)
          · obtain ⟨p_10, G_10, H⟩ := F_bd H
            refine ev_cv (d := d + 7) (As := [.int p_8.1, .int (if (if p_1.1 = 6 then 1 else 0 : Int32) = 0 then 1 else 0 : Int32)]) (a := 66) (p' := 96) rfl rfl rfl ly_66 rfl rfl rfl rfl rfl rfl rfl (F_179_ok (d := d + 0) (hg := (Or.inr rfl)) (hx := hx) (hr_66_2 := ((congrFun (congrFun e_8 66) 2).trans ((congrFun (congrFun e_6 66) 2).trans ((congrFun (congrFun e_1 66) 2).trans hr_66_2)))) (hr_66_10 := ((congrFun (congrFun e_8 66) 10).trans ((congrFun (congrFun e_6 66) 10).trans ((congrFun (congrFun e_1 66) 10).trans hr_66_10)))) G_10) ?_
            refine ev_st (st' := [.int p_10.1]) rfl ?_
            have e_10 := F_179_R G_10
            refine ev_x (i := .istore 6) (len := 2) (p' := 98) (s' := []) (l' := [(6, .int p_10.1), (5, .int p_8.1), (4, .int (gI p_6.2 115 6)), (3, .int (if p_1.1 = 6 then 1 else 0 : Int32)), (0, .ref 66), (1, .int x_1), (2, .int x_2)]) rfl rfl rfl ?_
            refine ev_x (i := .aload_n 0) (len := 1) (p' := 99) (s' := [.ref 66]) rfl rfl rfl ?_
            refine ev_gi (p' := 102) (v := (gI p_10.2 66 16)) rfl rfl rfl ly_66 rfl rfl rfl ?_
            refine F_if H (fun c_11 H => ?_) (fun c_11 H => ?_)
            · refine ev_b0 (t := 106) (p' := 106) rfl rfl rfl (if_pos c_11) ?_
              refine ev_x (i := .aload_n 0) (len := 1) (p' := 107) (s' := [.ref 66]) rfl rfl rfl ?_
              refine ev_gr (p' := 110) (v := 115) rfl rfl rfl ly_66 rfl rfl ((congrFun (congrFun e_10 66) 10).trans ((congrFun (congrFun e_8 66) 10).trans ((congrFun (congrFun e_6 66) 10).trans ((congrFun (congrFun e_1 66) 10).trans hr_66_10)))) ?_
              refine ev_gc (p' := 113) (v := 128) rfl rfl rfl ly_115 rfl rfl ?_
              refine ev_x (i := .iload 4) (len := 2) (p' := 115) (s' := [.int (gI p_6.2 115 6), .ref 128]) rfl rfl rfl ?_
              refine ev_x (i := .iload_n 3) (len := 1) (p' := 116) (s' := [.int (if p_1.1 = 6 then 1 else 0 : Int32), .int (gI p_6.2 115 6), .ref 128]) rfl rfl rfl ?_
              obtain ⟨b_12, H⟩ := F_gd H
              refine ev_pb (j := ((gI p_6.2 115 6) : Int32).toNatClampNeg) (p' := 117) rfl rfl ly_128 rfl (gd_in b_12) rfl ?_
              refine ev_x (i := .aload_n 0) (len := 1) (p' := 118) (s' := [.ref 66]) rfl rfl rfl ?_
              refine ev_gr (p' := 121) (v := 115) rfl rfl rfl ly_66 rfl rfl ((congrFun (congrFun e_10 66) 10).trans ((congrFun (congrFun e_8 66) 10).trans ((congrFun (congrFun e_6 66) 10).trans ((congrFun (congrFun e_1 66) 10).trans hr_66_10)))) ?_
              refine ev_gc (p' := 124) (v := 129) rfl rfl rfl ly_115 rfl rfl ?_
              refine ev_x (i := .iload 4) (len := 2) (p' := 126) (s' := [.int (gI p_6.2 115 6), .ref 129]) rfl rfl rfl ?_
              refine ev_x (i := .iload 6) (len := 2) (p' := 128) (s' := [.int p_10.1, .int (gI p_6.2 115 6), .ref 129]) rfl rfl rfl ?_
              obtain ⟨b_13, H⟩ := F_gd H
              refine ev_pb (j := ((gI p_6.2 115 6) : Int32).toNatClampNeg) (p' := 129) rfl rfl ly_129 rfl (gd_in b_13) rfl ?_
              refine ev_x (i := .aload_n 0) (len := 1) (p' := 130) (s' := [.ref 66]) rfl rfl rfl ?_
              refine ev_gr (p' := 133) (v := 115) rfl rfl rfl ly_66 rfl rfl ((congrFun (congrFun e_10 66) 10).trans ((congrFun (congrFun e_8 66) 10).trans ((congrFun (congrFun e_6 66) 10).trans ((congrFun (congrFun e_1 66) 10).trans hr_66_10)))) ?_
              refine ev_gc (p' := 136) (v := 130) rfl rfl rfl ly_115 rfl rfl ?_
              refine ev_x (i := .iload 4) (len := 2) (p' := 138) (s' := [.int (gI p_6.2 115 6), .ref 130]) rfl rfl rfl ?_
              refine ev_x (i := .iload 5) (len := 2) (p' := 140) (s' := [.int p_8.1, .int (gI p_6.2 115 6), .ref 130]) rfl rfl rfl ?_
              obtain ⟨b_14, H⟩ := F_gd H
              refine ev_pa (j := ((gI p_6.2 115 6) : Int32).toNatClampNeg) (p' := 141) rfl rfl ly_130 rfl (gd_in b_14) rfl ?_
              refine ev_x (i := .iload_n 3) (len := 1) (p' := 142) (s' := [.int (if p_1.1 = 6 then 1 else 0 : Int32)]) rfl rfl rfl ?_
              refine F_if H (fun c_15 H => ?_) (fun c_15 H => ?_)
              · refine ev_b0 (t := 187) (p' := 145) rfl rfl rfl (if_neg (fun q => q c_15)) ?_
                refine ev_x (i := .aload_n 0) (len := 1) (p' := 146) (s' := [.ref 66]) rfl rfl rfl ?_
                refine ev_x (i := .aload_n 0) (len := 1) (p' := 147) (s' := [.ref 66, .ref 66]) rfl rfl rfl ?_
                refine ev_gr (p' := 150) (v := 115) rfl rfl rfl ly_66 rfl rfl ((congrFun (congrFun e_10 66) 10).trans ((congrFun (congrFun e_8 66) 10).trans ((congrFun (congrFun e_6 66) 10).trans ((congrFun (congrFun e_1 66) 10).trans hr_66_10)))) ?_
                refine ev_x (i := .iload 5) (len := 2) (p' := 152) (s' := [.int p_8.1, .ref 115, .ref 66]) rfl rfl rfl ?_
                obtain ⟨p_16, G_16, H⟩ := F_bd H
                refine ev_cv (d := d + 7) (As := [.ref 115, .int p_8.1]) (a := 66) (p' := 155) rfl rfl rfl ly_66 rfl rfl rfl rfl rfl rfl rfl (F_185_ok (d := d + 2) (hg := (Or.inr rfl))  G_16) ?_
                refine ev_st (st' := []) rfl ?_
                have e_16 := F_185_R G_16
                refine ev_x (i := .aload_n 0) (len := 1) (p' := 156) (s' := [.ref 66]) rfl rfl rfl ?_
                refine ev_gr (p' := 159) (v := 115) rfl rfl rfl ly_66 rfl rfl ((congrFun (congrFun e_16 66) 10).trans ((congrFun (congrFun e_10 66) 10).trans ((congrFun (congrFun e_8 66) 10).trans ((congrFun (congrFun e_6 66) 10).trans ((congrFun (congrFun e_1 66) 10).trans hr_66_10))))) ?_
                refine ev_gc (p' := 162) (v := 131) rfl rfl rfl ly_115 rfl rfl ?_
                refine ev_x (i := .iload 4) (len := 2) (p' := 164) (s' := [.int (gI p_6.2 115 6), .ref 131]) rfl rfl rfl ?_
                refine ev_x (i := .aload_n 0) (len := 1) (p' := 165) (s' := [.ref 66, .int (gI p_6.2 115 6), .ref 131]) rfl rfl rfl ?_
                refine ev_gc (p' := 168) (v := 163) rfl rfl rfl ly_66 rfl rfl ?_
                refine ev_x (i := .iconst 0) (len := 1) (p' := 169) (s' := [.int 0, .ref 163, .int (gI p_6.2 115 6), .ref 131]) rfl rfl rfl ?_
                obtain ⟨b_17, H⟩ := F_gd H
                refine ev_gL (p' := 170) (v := (gL (p_16) 163 (0 : Int32).toNatClampNeg)) rfl rfl ly_163 rfl (gd_in b_17) rfl ?_
                obtain ⟨b_18, H⟩ := F_gd H
                refine ev_pL (j := ((gI p_6.2 115 6) : Int32).toNatClampNeg) (p' := 171) rfl rfl ly_131 rfl (gd_in b_18) rfl ?_
                refine ev_x (i := .aload_n 0) (len := 1) (p' := 172) (s' := [.ref 66]) rfl rfl rfl ?_
                refine ev_gr (p' := 175) (v := 115) rfl rfl rfl ly_66 rfl rfl ((congrFun (congrFun e_16 66) 10).trans ((congrFun (congrFun e_10 66) 10).trans ((congrFun (congrFun e_8 66) 10).trans ((congrFun (congrFun e_6 66) 10).trans ((congrFun (congrFun e_1 66) 10).trans hr_66_10))))) ?_
                refine ev_gc (p' := 178) (v := 132) rfl rfl rfl ly_115 rfl rfl ?_
                refine ev_x (i := .iload 4) (len := 2) (p' := 180) (s' := [.int (gI p_6.2 115 6), .ref 132]) rfl rfl rfl ?_
                refine ev_x (i := .aload_n 0) (len := 1) (p' := 181) (s' := [.ref 66, .int (gI p_6.2 115 6), .ref 132]) rfl rfl rfl ?_
                refine ev_gc (p' := 184) (v := 164) rfl rfl rfl ly_66 rfl rfl ?_
                refine ev_x (i := .iconst 0) (len := 1) (p' := 185) (s' := [.int 0, .ref 164, .int (gI p_6.2 115 6), .ref 132]) rfl rfl rfl ?_
                obtain ⟨b_19, H⟩ := F_gd H
                refine ev_gL (p' := 186) (v := (gL (p_16) 164 (0 : Int32).toNatClampNeg)) rfl rfl ly_164 rfl (gd_in b_19) rfl ?_
                obtain ⟨b_20, H⟩ := F_gd H
                refine ev_pL (j := ((gI p_6.2 115 6) : Int32).toNatClampNeg) (p' := 187) rfl rfl ly_132 rfl (gd_in b_20) rfl ?_
                exact J_164_187_ok (d := d) (Or.inr rfl) hx rfl rfl rfl rfl rfl ((congrFun (congrFun e_16 66) 2).trans ((congrFun (congrFun e_10 66) 2).trans ((congrFun (congrFun e_8 66) 2).trans ((congrFun (congrFun e_6 66) 2).trans ((congrFun (congrFun e_1 66) 2).trans hr_66_2))))) ((congrFun (congrFun e_16 66) 10).trans ((congrFun (congrFun e_10 66) 10).trans ((congrFun (congrFun e_8 66) 10).trans ((congrFun (congrFun e_6 66) 10).trans ((congrFun (congrFun e_1 66) 10).trans hr_66_10))))) H
              · refine ev_b0 (t := 187) (p' := 187) rfl rfl rfl (if_pos c_15) ?_
                exact J_164_187_ok (d := d) (Or.inr rfl) hx rfl rfl rfl rfl rfl ((congrFun (congrFun e_10 66) 2).trans ((congrFun (congrFun e_8 66) 2).trans ((congrFun (congrFun e_6 66) 2).trans ((congrFun (congrFun e_1 66) 2).trans hr_66_2)))) ((congrFun (congrFun e_10 66) 10).trans ((congrFun (congrFun e_8 66) 10).trans ((congrFun (congrFun e_6 66) 10).trans ((congrFun (congrFun e_1 66) 10).trans hr_66_10)))) H
            · refine ev_b0 (t := 106) (p' := 105) rfl rfl rfl (if_neg c_11) ?_
              obtain rfl := Option.some.inj H
              exact ev_vret rfl rfl rfl
          · by_cases c_9 : (if p_1.1 = 6 then 1 else 0 : Int32) = 0
            · refine ev_b0 (t := 92) (p' := 88) rfl rfl rfl (if_neg (fun q => q c_9)) ?_
              refine ev_x (i := .iconst 1) (len := 1) (p' := 89) (s' := [.int 1, .int p_8.1, .ref 66]) rfl rfl rfl ?_
              refine ev_x (i := .goto 4) (len := 3) (p' := 93) (s' := [.int 1, .int p_8.1, .ref 66]) rfl rfl rfl ?_
              exact ev_st (congrArg (fun z => Value.int z :: [.int p_8.1, .ref 66]) (by rw [if_pos c_9])) J
            · refine ev_b0 (t := 92) (p' := 92) rfl rfl rfl (if_pos c_9) ?_
              refine ev_x (i := .iconst 0) (len := 1) (p' := 93) (s' := [.int 0, .int p_8.1, .ref 66]) rfl rfl rfl ?_
              exact ev_st (congrArg (fun z => Value.int z :: [.int p_8.1, .ref 66]) (by rw [if_neg c_9])) J
        · refine ev_b0 (t := 62) (p' := 49) rfl rfl rfl (if_neg c_7) ?_
          refine ev_x (i := .aload_n 0) (len := 1) (p' := 50) (s' := [.ref 66]) rfl rfl rfl ?_
          refine ev_x (i := .iconst 2) (len := 1) (p' := 51) (s' := [.int 2, .ref 66]) rfl rfl rfl ?_
          refine ev_x (i := .aload_n 0) (len := 1) (p' := 52) (s' := [.ref 66, .int 2, .ref 66]) rfl rfl rfl ?_
          refine ev_x (i := .iload_n 1) (len := 1) (p' := 53) (s' := [.int x_1, .ref 66, .int 2, .ref 66]) rfl rfl rfl ?_
          refine ev_x (i := .iconst 1) (len := 1) (p' := 54) (s' := [.int 1, .int x_1, .ref 66, .int 2, .ref 66]) rfl rfl rfl ?_
          refine ev_x (i := .iadd) (len := 1) (p' := 55) (s' := [.int (x_1 + 1), .ref 66, .int 2, .ref 66]) rfl rfl rfl ?_
          obtain ⟨p_21, G_21, H⟩ := F_bd H
          refine ev_cv (d := d + 7) (As := [.int (x_1 + 1)]) (a := 66) (p' := 58) rfl rfl rfl ly_66 rfl rfl rfl rfl rfl rfl rfl (F_159_ok (d := d + 5)   G_21) ?_
          refine ev_st (st' := [.int p_21.1, .int 2, .ref 66]) rfl ?_
          have e_21 := F_159_R G_21
          obtain ⟨p_22, G_22, H⟩ := F_bd H
          refine ev_cv (d := d + 7) (As := [.int 2, .int p_21.1]) (a := 66) (p' := 61) rfl rfl rfl ly_66 rfl rfl rfl rfl rfl rfl rfl (F_165_ok (d := d + 6)   G_22) ?_
          refine ev_st (st' := []) rfl ?_
          have e_22 := F_165_R G_22
          obtain rfl := Option.some.inj H
          exact ev_vret rfl rfl rfl
    · by_cases c_2 : p_1.1 = 6
      · refine ev_b2 (t := 14) (p' := 10) rfl rfl rfl (if_neg (fun q => q c_2)) ?_
        refine ev_x (i := .iconst 1) (len := 1) (p' := 11) (s' := [.int 1]) rfl rfl rfl ?_
        refine ev_x (i := .goto 4) (len := 3) (p' := 15) (s' := [.int 1]) rfl rfl rfl ?_
        exact ev_st (congrArg (fun z => Value.int z :: []) (by rw [if_pos c_2])) J
      · refine ev_b2 (t := 14) (p' := 14) rfl rfl rfl (if_pos c_2) ?_
        refine ev_x (i := .iconst 0) (len := 1) (p' := 15) (s' := [.int 0]) rfl rfl rfl ?_
        exact ev_st (congrArg (fun z => Value.int z :: []) (by rw [if_neg c_2])) J
/-- GameTextModel.initOf(II)I, its loops -/
def L_200 (N : Nat) : Nat → Int32 → Int32 → st_S → Option (Int32 × st_S)
  | 0, _, _, _ => none
  | k + 1, l_2, l_3, σ =>
      if l_2 ≤ l_3 then
        some (l_3, σ)
      else
        (F_162 N l_3 (σ)).bind fun p_2 =>
        if p_2.1 = 9 then
          some (l_3, p_2.2)
        else
          L_200 N k l_2 (l_3 + 1) (p_2.2)
set_option maxRecDepth 100000 in
theorem L_200_R {N : Nat} : ∀ (k : Nat) (l_2 : Int32) (l_3 : Int32) (σ : st_S) (p : Int32 × st_S), L_200 N k l_2 l_3 σ = some p → gR p.2 = gR σ := by
  intro k
  induction k with
  | zero => intro l_2 l_3 σ p H; unfold L_200 at H; cases H
  | succ k ih =>
    intro l_2 l_3 σ p H
    unfold L_200 at H
    refine F_if H (fun _ H => ?_) (fun _ H => ?_)
    · obtain rfl := Option.some.inj H
      exact rfl
    · obtain ⟨p_2, G_2, H⟩ := F_bd H
      refine F_if H (fun _ H => ?_) (fun _ H => ?_)
      · obtain rfl := Option.some.inj H
        exact ((F_162_R G_2).trans rfl)
      · exact (((ih _ _ _ _ H)).trans ((F_162_R G_2).trans rfl))
set_option maxHeartbeats 4000000 in
set_option maxRecDepth 100000 in
theorem L_200_ok {N d : Nat} : ∀ k : Nat, ∀ (l_2 : Int32) (l_3 : Int32) (σ : st_S) (lv : vz_L) (p : Int32 × st_S), vz_g lv 0 = some (.ref 66) → vz_g lv 2 = some (.int l_2) → vz_g lv 3 = some (.int l_3) → vz_nbL (vz_gr P0) lv = true → L_200 N k l_2 l_3 σ = some p → vz_ev P0 (d + 3) 200 2 lv [] (hp σ) (.inl (some (.int p.1)), hp p.2) := by
  intro k
  induction k with
  | zero => intro l_2 l_3 σ lv p g_0 g_2 g_3 hnb H; unfold L_200 at H; cases H
  | succ k ih =>
    intro l_2 l_3 σ lv p g_0 g_2 g_3 hnb H
    unfold L_200 at H
    refine ev_x (i := .iload_n 3) (len := 1) (p' := 3) (s' := [.int l_3]) rfl rfl (ld_i g_3) ?_
    refine ev_x (i := .iload_n 2) (len := 1) (p' := 4) (s' := [.int l_2, .int l_3]) rfl rfl (ld_i g_2) ?_
    refine F_if H (fun c_1 H => ?_) (fun c_1 H => ?_)
    · refine ev_b2 (t := 23) (p' := 23) rfl rfl rfl (if_pos c_1) ?_
      refine ev_x (i := .iload_n 3) (len := 1) (p' := 24) (s' := [.int l_3]) rfl rfl (ld_i g_3) ?_
      obtain rfl := Option.some.inj H
      exact ev_iret rfl rfl rfl rfl
    · refine ev_b2 (t := 23) (p' := 7) rfl rfl rfl (if_neg c_1) ?_
      refine ev_x (i := .aload_n 0) (len := 1) (p' := 8) (s' := [.ref 66]) rfl rfl (ld_a g_0) ?_
      refine ev_x (i := .iload_n 3) (len := 1) (p' := 9) (s' := [.int l_3, .ref 66]) rfl rfl (ld_i g_3) ?_
      obtain ⟨p_2, G_2, H⟩ := F_bd H
      refine ev_cv (d := d + 2) (As := [.int l_3]) (a := 66) (p' := 12) rfl rfl rfl ly_66 rfl rfl rfl rfl rfl hnb rfl (F_162_ok (d := d + 0)   G_2) ?_
      refine ev_st (st' := [.int p_2.1]) rfl ?_
      have e_2 := F_162_R G_2
      refine ev_x (i := .bipush 9) (len := 2) (p' := 14) (s' := [.int 9, .int p_2.1]) rfl rfl rfl ?_
      refine F_if H (fun c_3 H => ?_) (fun c_3 H => ?_)
      · refine ev_b2 (t := 23) (p' := 23) rfl rfl rfl (if_pos c_3) ?_
        refine ev_x (i := .iload_n 3) (len := 1) (p' := 24) (s' := [.int l_3]) rfl rfl (ld_i g_3) ?_
        obtain rfl := Option.some.inj H
        exact ev_iret rfl rfl rfl rfl
      · refine ev_b2 (t := 23) (p' := 17) rfl rfl rfl (if_neg c_3) ?_
        refine ev_x (i := .iinc 3 1) (len := 3) (p' := 20) (s' := []) (l' := vz_s1 (lv) 3 (.int (l_3 + 1))) rfl rfl (ld_inc g_3 rfl) ?_
        refine ev_x (i := .goto (-18)) (len := 3) (p' := 2) (s' := []) rfl rfl rfl ?_
        exact ih _ _ _ _ _ (vg_o (i := 3) (v := .int (l_3 + 1)) g_0 (by decide) (Or.inl rfl)) (vg_o (i := 3) (v := .int (l_3 + 1)) g_2 (by decide) (Or.inl rfl)) (vg_s (lv) 3 (.int (l_3 + 1))) (nb_s1 hnb rfl)  H
/-- GameTextModel.initOf(II)I -/
def F_200 (N : Nat) (x_1 : Int32) (x_2 : Int32) (σ : st_S) : Option (Int32 × st_S) :=
  L_200 N N x_2 x_1 (σ)
set_option maxRecDepth 100000 in
theorem F_200_R {N : Nat} {x_1 : Int32} {x_2 : Int32} {σ : st_S} {p : Int32 × st_S} (H : F_200 N x_1 x_2 σ = some p) : gR p.2 = gR σ := by
  unfold F_200 at H
  exact (((L_200_R _ _ _ _ _ H)).trans rfl)
set_option maxHeartbeats 4000000 in
set_option maxRecDepth 100000 in
theorem F_200_ok {N d : Nat} {x_1 : Int32} {x_2 : Int32} {σ : st_S} {p : Int32 × st_S}  (H : F_200 N x_1 x_2 σ = some p) : vz_ev P0 (d + 3) 200 0 (lv_args 0 [.ref 66, .int x_1, .int x_2]) [] (hp σ) (.inl (some (.int p.1)), hp p.2) := by
  unfold F_200 at H
  refine ev_x (i := .iload_n 1) (len := 1) (p' := 1) (s' := [.int x_1]) rfl rfl rfl ?_
  refine ev_x (i := .istore_n 3) (len := 1) (p' := 2) (s' := []) (l' := [(3, .int x_1), (0, .ref 66), (1, .int x_1), (2, .int x_2)]) rfl rfl rfl ?_
  exact (L_200_ok (d := d) N) _ _ _ _ _ rfl rfl rfl rfl  H
/-- GameTextModel.rule(IIZZ)I -/
def F_201 (N : Nat) (g : Nat) (x : Nat) (x_1 : Int32) (x_2 : Int32) (x_3 : Int32) (x_4 : Int32) (σ : st_S) : Option (Int32 × st_S) :=
  (F_168 N g x x_1 x_2 (σ)).bind fun p_1 =>
  (F_179 N g x p_1.1 x_4 (p_1.2)).bind fun p_2 =>
  if (gI p_2.2 66 16) = 0 then
    if p_2.1 = x_3 then
      some (p_1.1, p_2.2)
    else
      (F_159 N x_1 (p_2.2)).bind fun p_5 =>
      (F_165 N 3 p_5.1 (p_5.2)).bind fun p_6 =>
      some (p_1.1, p_6)
  else
    some (p_1.1, p_2.2)
set_option maxRecDepth 100000 in
theorem F_201_R {N : Nat} {g : Nat} {x : Nat} {x_1 : Int32} {x_2 : Int32} {x_3 : Int32} {x_4 : Int32} {σ : st_S} {p : Int32 × st_S} (H : F_201 N g x x_1 x_2 x_3 x_4 σ = some p) : gR p.2 = gR σ := by
  unfold F_201 at H
  obtain ⟨p_1, G_1, H⟩ := F_bd H
  obtain ⟨p_2, G_2, H⟩ := F_bd H
  refine F_if H (fun _ H => ?_) (fun _ H => ?_)
  · refine F_if H (fun _ H => ?_) (fun _ H => ?_)
    · obtain rfl := Option.some.inj H
      exact ((F_179_R G_2).trans ((F_168_R G_1).trans rfl))
    · obtain ⟨p_5, G_5, H⟩ := F_bd H
      obtain ⟨p_6, G_6, H⟩ := F_bd H
      obtain rfl := Option.some.inj H
      exact ((F_165_R G_6).trans ((F_159_R G_5).trans ((F_179_R G_2).trans ((F_168_R G_1).trans rfl))))
  · obtain rfl := Option.some.inj H
    exact ((F_179_R G_2).trans ((F_168_R G_1).trans rfl))
set_option maxHeartbeats 4000000 in
set_option maxRecDepth 100000 in
theorem F_201_ok {N d : Nat} {g : Nat} (hg : g = 79 ∨ g = 115) {x : Nat} (hx : x = 67 ∨ x = 69) {x_1 : Int32} {x_2 : Int32} {x_3 : Int32} {x_4 : Int32} {σ : st_S} {p : Int32 × st_S} (hr_66_2 : gR σ 66 2 = x) (hr_66_10 : gR σ 66 10 = g) (H : F_201 N g x x_1 x_2 x_3 x_4 σ = some p) : vz_ev P0 (d + 8) 201 0 (lv_args 0 [.ref 66, .int x_1, .int x_2, .int x_3, .int x_4]) [] (hp σ) (.inl (some (.int p.1)), hp p.2) := by
  unfold F_201 at H
  refine ev_x (i := .aload_n 0) (len := 1) (p' := 1) (s' := [.ref 66]) rfl rfl rfl ?_
  refine ev_x (i := .iload_n 1) (len := 1) (p' := 2) (s' := [.int x_1, .ref 66]) rfl rfl rfl ?_
  refine ev_x (i := .iload_n 2) (len := 1) (p' := 3) (s' := [.int x_2, .int x_1, .ref 66]) rfl rfl rfl ?_
  obtain ⟨p_1, G_1, H⟩ := F_bd H
  refine ev_cv (d := d + 7) (As := [.int x_1, .int x_2]) (a := 66) (p' := 6) rfl rfl rfl ly_66 rfl rfl rfl rfl rfl rfl rfl (F_168_ok (d := d + 0) (hg := hg) (hx := hx) (hr_66_2 := hr_66_2) (hr_66_10 := hr_66_10) G_1) ?_
  refine ev_st (st' := [.int p_1.1]) rfl ?_
  have e_1 := F_168_R G_1
  refine ev_x (i := .istore 5) (len := 2) (p' := 8) (s' := []) (l' := [(5, .int p_1.1), (0, .ref 66), (1, .int x_1), (2, .int x_2), (3, .int x_3), (4, .int x_4)]) rfl rfl rfl ?_
  refine ev_x (i := .aload_n 0) (len := 1) (p' := 9) (s' := [.ref 66]) rfl rfl rfl ?_
  refine ev_x (i := .iload 5) (len := 2) (p' := 11) (s' := [.int p_1.1, .ref 66]) rfl rfl rfl ?_
  refine ev_x (i := .iload 4) (len := 2) (p' := 13) (s' := [.int x_4, .int p_1.1, .ref 66]) rfl rfl rfl ?_
  obtain ⟨p_2, G_2, H⟩ := F_bd H
  refine ev_cv (d := d + 7) (As := [.int p_1.1, .int x_4]) (a := 66) (p' := 16) rfl rfl rfl ly_66 rfl rfl rfl rfl rfl rfl rfl (F_179_ok (d := d + 0) (hg := hg) (hx := hx) (hr_66_2 := ((congrFun (congrFun e_1 66) 2).trans hr_66_2)) (hr_66_10 := ((congrFun (congrFun e_1 66) 10).trans hr_66_10)) G_2) ?_
  refine ev_st (st' := [.int p_2.1]) rfl ?_
  have e_2 := F_179_R G_2
  refine ev_x (i := .istore 6) (len := 2) (p' := 18) (s' := []) (l' := [(6, .int p_2.1), (5, .int p_1.1), (0, .ref 66), (1, .int x_1), (2, .int x_2), (3, .int x_3), (4, .int x_4)]) rfl rfl rfl ?_
  refine ev_x (i := .aload_n 0) (len := 1) (p' := 19) (s' := [.ref 66]) rfl rfl rfl ?_
  refine ev_gi (p' := 22) (v := (gI p_2.2 66 16)) rfl rfl rfl ly_66 rfl rfl rfl ?_
  refine F_if H (fun c_3 H => ?_) (fun c_3 H => ?_)
  · refine ev_b0 (t := 41) (p' := 25) rfl rfl rfl (if_neg (fun q => q c_3)) ?_
    refine ev_x (i := .iload 6) (len := 2) (p' := 27) (s' := [.int p_2.1]) rfl rfl rfl ?_
    refine ev_x (i := .iload_n 3) (len := 1) (p' := 28) (s' := [.int x_3, .int p_2.1]) rfl rfl rfl ?_
    refine F_if H (fun c_4 H => ?_) (fun c_4 H => ?_)
    · refine ev_b2 (t := 41) (p' := 41) rfl rfl rfl (if_pos c_4) ?_
      refine ev_x (i := .iload 5) (len := 2) (p' := 43) (s' := [.int p_1.1]) rfl rfl rfl ?_
      obtain rfl := Option.some.inj H
      exact ev_iret rfl rfl rfl rfl
    · refine ev_b2 (t := 41) (p' := 31) rfl rfl rfl (if_neg c_4) ?_
      refine ev_x (i := .aload_n 0) (len := 1) (p' := 32) (s' := [.ref 66]) rfl rfl rfl ?_
      refine ev_x (i := .iconst 3) (len := 1) (p' := 33) (s' := [.int 3, .ref 66]) rfl rfl rfl ?_
      refine ev_x (i := .aload_n 0) (len := 1) (p' := 34) (s' := [.ref 66, .int 3, .ref 66]) rfl rfl rfl ?_
      refine ev_x (i := .iload_n 1) (len := 1) (p' := 35) (s' := [.int x_1, .ref 66, .int 3, .ref 66]) rfl rfl rfl ?_
      obtain ⟨p_5, G_5, H⟩ := F_bd H
      refine ev_cv (d := d + 7) (As := [.int x_1]) (a := 66) (p' := 38) rfl rfl rfl ly_66 rfl rfl rfl rfl rfl rfl rfl (F_159_ok (d := d + 5)   G_5) ?_
      refine ev_st (st' := [.int p_5.1, .int 3, .ref 66]) rfl ?_
      have e_5 := F_159_R G_5
      obtain ⟨p_6, G_6, H⟩ := F_bd H
      refine ev_cv (d := d + 7) (As := [.int 3, .int p_5.1]) (a := 66) (p' := 41) rfl rfl rfl ly_66 rfl rfl rfl rfl rfl rfl rfl (F_165_ok (d := d + 6)   G_6) ?_
      refine ev_st (st' := []) rfl ?_
      have e_6 := F_165_R G_6
      refine ev_x (i := .iload 5) (len := 2) (p' := 43) (s' := [.int p_1.1]) rfl rfl rfl ?_
      obtain rfl := Option.some.inj H
      exact ev_iret rfl rfl rfl rfl
  · refine ev_b0 (t := 41) (p' := 41) rfl rfl rfl (if_pos c_3) ?_
    refine ev_x (i := .iload 5) (len := 2) (p' := 43) (s' := [.int p_1.1]) rfl rfl rfl ?_
    obtain rfl := Option.some.inj H
    exact ev_iret rfl rfl rfl rfl
/-- GameTextModel.wholeOf(II)I -/
def F_202 (N : Nat) (g : Nat) (x_1 : Int32) (x_2 : Int32) (σ : st_S) : Option (Int32 × st_S) :=
  if (gI σ 66 16) = 0 then
    (F_185 N g x_1 (σ)).bind fun p_2 =>
    if (gI p_2 66 16) = 0 then
      if aB 0 (gN p_2 164) then
      if (lg_cmp (gL (p_2) 164 (0 : Int32).toNatClampNeg) 1) = 0 then
        if aB 0 (gN p_2 163) then
        some (((gL (p_2) 163 (0 : Int32).toNatClampNeg) : Int64).toInt32, p_2)
        else none
      else
        (F_159 N x_2 (p_2)).bind fun p_7 =>
        (F_165 N 8 p_7.1 (p_7.2)).bind fun p_8 =>
        if aB 0 (gN p_8 163) then
        some (((gL (p_8) 163 (0 : Int32).toNatClampNeg) : Int64).toInt32, p_8)
        else none
      else none
    else
      if aB 0 (gN p_2 163) then
      some (((gL (p_2) 163 (0 : Int32).toNatClampNeg) : Int64).toInt32, p_2)
      else none
  else
    some (0, σ)
set_option maxRecDepth 100000 in
theorem F_202_R {N : Nat} {g : Nat} {x_1 : Int32} {x_2 : Int32} {σ : st_S} {p : Int32 × st_S} (H : F_202 N g x_1 x_2 σ = some p) : gR p.2 = gR σ := by
  unfold F_202 at H
  refine F_if H (fun _ H => ?_) (fun _ H => ?_)
  · obtain ⟨p_2, G_2, H⟩ := F_bd H
    refine F_if H (fun _ H => ?_) (fun _ H => ?_)
    · obtain ⟨_, H⟩ := F_gd H
      refine F_if H (fun _ H => ?_) (fun _ H => ?_)
      · obtain ⟨_, H⟩ := F_gd H
        obtain rfl := Option.some.inj H
        exact ((F_185_R G_2).trans rfl)
      · obtain ⟨p_7, G_7, H⟩ := F_bd H
        obtain ⟨p_8, G_8, H⟩ := F_bd H
        obtain ⟨_, H⟩ := F_gd H
        obtain rfl := Option.some.inj H
        exact ((F_165_R G_8).trans ((F_159_R G_7).trans ((F_185_R G_2).trans rfl)))
    · obtain ⟨_, H⟩ := F_gd H
      obtain rfl := Option.some.inj H
      exact ((F_185_R G_2).trans rfl)
  · obtain rfl := Option.some.inj H
    exact rfl
set_option maxHeartbeats 4000000 in
set_option maxRecDepth 100000 in
theorem F_202_ok {N d : Nat} {g : Nat} (hg : g = 79 ∨ g = 115) {x_1 : Int32} {x_2 : Int32} {σ : st_S} {p : Int32 × st_S} (hr_66_10 : gR σ 66 10 = g) (H : F_202 N g x_1 x_2 σ = some p) : vz_ev P0 (d + 6) 202 0 (lv_args 0 [.ref 66, .int x_1, .int x_2]) [] (hp σ) (.inl (some (.int p.1)), hp p.2) := by
  unfold F_202 at H
  rcases hg with rfl | rfl
  · refine ev_x (i := .aload_n 0) (len := 1) (p' := 1) (s' := [.ref 66]) rfl rfl rfl ?_
    refine ev_gi (p' := 4) (v := (gI σ 66 16)) rfl rfl rfl ly_66 rfl rfl rfl ?_
    refine F_if H (fun c_1 H => ?_) (fun c_1 H => ?_)
    · refine ev_b0 (t := 9) (p' := 9) rfl rfl rfl (if_pos c_1) ?_
      refine ev_x (i := .aload_n 0) (len := 1) (p' := 10) (s' := [.ref 66]) rfl rfl rfl ?_
      refine ev_x (i := .aload_n 0) (len := 1) (p' := 11) (s' := [.ref 66, .ref 66]) rfl rfl rfl ?_
      refine ev_gr (p' := 14) (v := 79) rfl rfl rfl ly_66 rfl rfl hr_66_10 ?_
      refine ev_x (i := .iload_n 1) (len := 1) (p' := 15) (s' := [.int x_1, .ref 79, .ref 66]) rfl rfl rfl ?_
      obtain ⟨p_2, G_2, H⟩ := F_bd H
      refine ev_cv (d := d + 5) (As := [.ref 79, .int x_1]) (a := 66) (p' := 18) rfl rfl rfl ly_66 rfl rfl rfl rfl rfl rfl rfl (F_185_ok (d := d + 0) (hg := (Or.inl rfl))  G_2) ?_
      refine ev_st (st' := []) rfl ?_
      have e_2 := F_185_R G_2
      refine ev_x (i := .aload_n 0) (len := 1) (p' := 19) (s' := [.ref 66]) rfl rfl rfl ?_
      refine ev_gi (p' := 22) (v := (gI p_2 66 16)) rfl rfl rfl ly_66 rfl rfl rfl ?_
      refine F_if H (fun c_3 H => ?_) (fun c_3 H => ?_)
      · refine ev_b0 (t := 47) (p' := 25) rfl rfl rfl (if_neg (fun q => q c_3)) ?_
        refine ev_x (i := .aload_n 0) (len := 1) (p' := 26) (s' := [.ref 66]) rfl rfl rfl ?_
        refine ev_gc (p' := 29) (v := 164) rfl rfl rfl ly_66 rfl rfl ?_
        refine ev_x (i := .iconst 0) (len := 1) (p' := 30) (s' := [.int 0, .ref 164]) rfl rfl rfl ?_
        obtain ⟨b_4, H⟩ := F_gd H
        refine ev_gL (p' := 31) (v := (gL (p_2) 164 (0 : Int32).toNatClampNeg)) rfl rfl ly_164 rfl (gd_in b_4) rfl ?_
        refine ev_x (i := .lconst 1) (len := 1) (p' := 32) (s' := [.long 1, .long (gL (p_2) 164 (0 : Int32).toNatClampNeg)]) rfl rfl rfl ?_
        refine ev_x (i := .lcmp) (len := 1) (p' := 33) (s' := [.int (lg_cmp (gL (p_2) 164 (0 : Int32).toNatClampNeg) 1)]) rfl rfl rfl ?_
        refine F_if H (fun c_5 H => ?_) (fun c_5 H => ?_)
        · refine ev_b0 (t := 47) (p' := 47) rfl rfl rfl (if_pos c_5) ?_
          refine ev_x (i := .aload_n 0) (len := 1) (p' := 48) (s' := [.ref 66]) rfl rfl rfl ?_
          refine ev_gc (p' := 51) (v := 163) rfl rfl rfl ly_66 rfl rfl ?_
          refine ev_x (i := .iconst 0) (len := 1) (p' := 52) (s' := [.int 0, .ref 163]) rfl rfl rfl ?_
          obtain ⟨b_6, H⟩ := F_gd H
          refine ev_gL (p' := 53) (v := (gL (p_2) 163 (0 : Int32).toNatClampNeg)) rfl rfl ly_163 rfl (gd_in b_6) rfl ?_
          refine ev_x (i := .l2i) (len := 1) (p' := 54) (s' := [.int ((gL (p_2) 163 (0 : Int32).toNatClampNeg) : Int64).toInt32]) rfl rfl rfl ?_
          obtain rfl := Option.some.inj H
          exact ev_iret rfl rfl rfl rfl
        · refine ev_b0 (t := 47) (p' := 36) rfl rfl rfl (if_neg c_5) ?_
          refine ev_x (i := .aload_n 0) (len := 1) (p' := 37) (s' := [.ref 66]) rfl rfl rfl ?_
          refine ev_x (i := .bipush 8) (len := 2) (p' := 39) (s' := [.int 8, .ref 66]) rfl rfl rfl ?_
          refine ev_x (i := .aload_n 0) (len := 1) (p' := 40) (s' := [.ref 66, .int 8, .ref 66]) rfl rfl rfl ?_
          refine ev_x (i := .iload_n 2) (len := 1) (p' := 41) (s' := [.int x_2, .ref 66, .int 8, .ref 66]) rfl rfl rfl ?_
          obtain ⟨p_7, G_7, H⟩ := F_bd H
          refine ev_cv (d := d + 5) (As := [.int x_2]) (a := 66) (p' := 44) rfl rfl rfl ly_66 rfl rfl rfl rfl rfl rfl rfl (F_159_ok (d := d + 3)   G_7) ?_
          refine ev_st (st' := [.int p_7.1, .int 8, .ref 66]) rfl ?_
          have e_7 := F_159_R G_7
          obtain ⟨p_8, G_8, H⟩ := F_bd H
          refine ev_cv (d := d + 5) (As := [.int 8, .int p_7.1]) (a := 66) (p' := 47) rfl rfl rfl ly_66 rfl rfl rfl rfl rfl rfl rfl (F_165_ok (d := d + 4)   G_8) ?_
          refine ev_st (st' := []) rfl ?_
          have e_8 := F_165_R G_8
          refine ev_x (i := .aload_n 0) (len := 1) (p' := 48) (s' := [.ref 66]) rfl rfl rfl ?_
          refine ev_gc (p' := 51) (v := 163) rfl rfl rfl ly_66 rfl rfl ?_
          refine ev_x (i := .iconst 0) (len := 1) (p' := 52) (s' := [.int 0, .ref 163]) rfl rfl rfl ?_
          obtain ⟨b_9, H⟩ := F_gd H
          refine ev_gL (p' := 53) (v := (gL (p_8) 163 (0 : Int32).toNatClampNeg)) rfl rfl ly_163 rfl (gd_in b_9) rfl ?_
          refine ev_x (i := .l2i) (len := 1) (p' := 54) (s' := [.int ((gL (p_8) 163 (0 : Int32).toNatClampNeg) : Int64).toInt32]) rfl rfl rfl ?_
          obtain rfl := Option.some.inj H
          exact ev_iret rfl rfl rfl rfl
      · refine ev_b0 (t := 47) (p' := 47) rfl rfl rfl (if_pos c_3) ?_
        refine ev_x (i := .aload_n 0) (len := 1) (p' := 48) (s' := [.ref 66]) rfl rfl rfl ?_
        refine ev_gc (p' := 51) (v := 163) rfl rfl rfl ly_66 rfl rfl ?_
        refine ev_x (i := .iconst 0) (len := 1) (p' := 52) (s' := [.int 0, .ref 163]) rfl rfl rfl ?_
        obtain ⟨b_10, H⟩ := F_gd H
        refine ev_gL (p' := 53) (v := (gL (p_2) 163 (0 : Int32).toNatClampNeg)) rfl rfl ly_163 rfl (gd_in b_10) rfl ?_
        refine ev_x (i := .l2i) (len := 1) (p' := 54) (s' := [.int ((gL (p_2) 163 (0 : Int32).toNatClampNeg) : Int64).toInt32]) rfl rfl rfl ?_
        obtain rfl := Option.some.inj H
        exact ev_iret rfl rfl rfl rfl
    · refine ev_b0 (t := 9) (p' := 7) rfl rfl rfl (if_neg c_1) ?_
      refine ev_x (i := .iconst 0) (len := 1) (p' := 8) (s' := [.int 0]) rfl rfl rfl ?_
      obtain rfl := Option.some.inj H
      exact ev_iret rfl rfl rfl rfl
  · refine ev_x (i := .aload_n 0) (len := 1) (p' := 1) (s' := [.ref 66]) rfl rfl rfl ?_
    refine ev_gi (p' := 4) (v := (gI σ 66 16)) rfl rfl rfl ly_66 rfl rfl rfl ?_
    refine F_if H (fun c_1 H => ?_) (fun c_1 H => ?_)
    · refine ev_b0 (t := 9) (p' := 9) rfl rfl rfl (if_pos c_1) ?_
      refine ev_x (i := .aload_n 0) (len := 1) (p' := 10) (s' := [.ref 66]) rfl rfl rfl ?_
      refine ev_x (i := .aload_n 0) (len := 1) (p' := 11) (s' := [.ref 66, .ref 66]) rfl rfl rfl ?_
      refine ev_gr (p' := 14) (v := 115) rfl rfl rfl ly_66 rfl rfl hr_66_10 ?_
      refine ev_x (i := .iload_n 1) (len := 1) (p' := 15) (s' := [.int x_1, .ref 115, .ref 66]) rfl rfl rfl ?_
      obtain ⟨p_2, G_2, H⟩ := F_bd H
      refine ev_cv (d := d + 5) (As := [.ref 115, .int x_1]) (a := 66) (p' := 18) rfl rfl rfl ly_66 rfl rfl rfl rfl rfl rfl rfl (F_185_ok (d := d + 0) (hg := (Or.inr rfl))  G_2) ?_
      refine ev_st (st' := []) rfl ?_
      have e_2 := F_185_R G_2
      refine ev_x (i := .aload_n 0) (len := 1) (p' := 19) (s' := [.ref 66]) rfl rfl rfl ?_
      refine ev_gi (p' := 22) (v := (gI p_2 66 16)) rfl rfl rfl ly_66 rfl rfl rfl ?_
      refine F_if H (fun c_3 H => ?_) (fun c_3 H => ?_)
      · refine ev_b0 (t := 47) (p' := 25) rfl rfl rfl (if_neg (fun q => q c_3)) ?_
        refine ev_x (i := .aload_n 0) (len := 1) (p' := 26) (s' := [.ref 66]) rfl rfl rfl ?_
        refine ev_gc (p' := 29) (v := 164) rfl rfl rfl ly_66 rfl rfl ?_
        refine ev_x (i := .iconst 0) (len := 1) (p' := 30) (s' := [.int 0, .ref 164]) rfl rfl rfl ?_
        obtain ⟨b_4, H⟩ := F_gd H
        refine ev_gL (p' := 31) (v := (gL (p_2) 164 (0 : Int32).toNatClampNeg)) rfl rfl ly_164 rfl (gd_in b_4) rfl ?_
        refine ev_x (i := .lconst 1) (len := 1) (p' := 32) (s' := [.long 1, .long (gL (p_2) 164 (0 : Int32).toNatClampNeg)]) rfl rfl rfl ?_
        refine ev_x (i := .lcmp) (len := 1) (p' := 33) (s' := [.int (lg_cmp (gL (p_2) 164 (0 : Int32).toNatClampNeg) 1)]) rfl rfl rfl ?_
        refine F_if H (fun c_5 H => ?_) (fun c_5 H => ?_)
        · refine ev_b0 (t := 47) (p' := 47) rfl rfl rfl (if_pos c_5) ?_
          refine ev_x (i := .aload_n 0) (len := 1) (p' := 48) (s' := [.ref 66]) rfl rfl rfl ?_
          refine ev_gc (p' := 51) (v := 163) rfl rfl rfl ly_66 rfl rfl ?_
          refine ev_x (i := .iconst 0) (len := 1) (p' := 52) (s' := [.int 0, .ref 163]) rfl rfl rfl ?_
          obtain ⟨b_6, H⟩ := F_gd H
          refine ev_gL (p' := 53) (v := (gL (p_2) 163 (0 : Int32).toNatClampNeg)) rfl rfl ly_163 rfl (gd_in b_6) rfl ?_
          refine ev_x (i := .l2i) (len := 1) (p' := 54) (s' := [.int ((gL (p_2) 163 (0 : Int32).toNatClampNeg) : Int64).toInt32]) rfl rfl rfl ?_
          obtain rfl := Option.some.inj H
          exact ev_iret rfl rfl rfl rfl
        · refine ev_b0 (t := 47) (p' := 36) rfl rfl rfl (if_neg c_5) ?_
          refine ev_x (i := .aload_n 0) (len := 1) (p' := 37) (s' := [.ref 66]) rfl rfl rfl ?_
          refine ev_x (i := .bipush 8) (len := 2) (p' := 39) (s' := [.int 8, .ref 66]) rfl rfl rfl ?_
          refine ev_x (i := .aload_n 0) (len := 1) (p' := 40) (s' := [.ref 66, .int 8, .ref 66]) rfl rfl rfl ?_
          refine ev_x (i := .iload_n 2) (len := 1) (p' := 41) (s' := [.int x_2, .ref 66, .int 8, .ref 66]) rfl rfl rfl ?_
          obtain ⟨p_7, G_7, H⟩ := F_bd H
          refine ev_cv (d := d + 5) (As := [.int x_2]) (a := 66) (p' := 44) rfl rfl rfl ly_66 rfl rfl rfl rfl rfl rfl rfl (F_159_ok (d := d + 3)   G_7) ?_
          refine ev_st (st' := [.int p_7.1, .int 8, .ref 66]) rfl ?_
          have e_7 := F_159_R G_7
          obtain ⟨p_8, G_8, H⟩ := F_bd H
          refine ev_cv (d := d + 5) (As := [.int 8, .int p_7.1]) (a := 66) (p' := 47) rfl rfl rfl ly_66 rfl rfl rfl rfl rfl rfl rfl (F_165_ok (d := d + 4)   G_8) ?_
          refine ev_st (st' := []) rfl ?_
          have e_8 := F_165_R G_8
          refine ev_x (i := .aload_n 0) (len := 1) (p' := 48) (s' := [.ref 66]) rfl rfl rfl ?_
          refine ev_gc (p' := 51) (v := 163) rfl rfl rfl ly_66 rfl rfl ?_
          refine ev_x (i := .iconst 0) (len := 1) (p' := 52) (s' := [.int 0, .ref 163]) rfl rfl rfl ?_
          obtain ⟨b_9, H⟩ := F_gd H
          refine ev_gL (p' := 53) (v := (gL (p_8) 163 (0 : Int32).toNatClampNeg)) rfl rfl ly_163 rfl (gd_in b_9) rfl ?_
          refine ev_x (i := .l2i) (len := 1) (p' := 54) (s' := [.int ((gL (p_8) 163 (0 : Int32).toNatClampNeg) : Int64).toInt32]) rfl rfl rfl ?_
          obtain rfl := Option.some.inj H
          exact ev_iret rfl rfl rfl rfl
      · refine ev_b0 (t := 47) (p' := 47) rfl rfl rfl (if_pos c_3) ?_
        refine ev_x (i := .aload_n 0) (len := 1) (p' := 48) (s' := [.ref 66]) rfl rfl rfl ?_
        refine ev_gc (p' := 51) (v := 163) rfl rfl rfl ly_66 rfl rfl ?_
        refine ev_x (i := .iconst 0) (len := 1) (p' := 52) (s' := [.int 0, .ref 163]) rfl rfl rfl ?_
        obtain ⟨b_10, H⟩ := F_gd H
        refine ev_gL (p' := 53) (v := (gL (p_2) 163 (0 : Int32).toNatClampNeg)) rfl rfl ly_163 rfl (gd_in b_10) rfl ?_
        refine ev_x (i := .l2i) (len := 1) (p' := 54) (s' := [.int ((gL (p_2) 163 (0 : Int32).toNatClampNeg) : Int64).toInt32]) rfl rfl rfl ?_
        obtain rfl := Option.some.inj H
        exact ev_iret rfl rfl rfl rfl
    · refine ev_b0 (t := 9) (p' := 7) rfl rfl rfl (if_neg c_1) ?_
      refine ev_x (i := .iconst 0) (len := 1) (p' := 8) (s' := [.int 0]) rfl rfl rfl ?_
      obtain rfl := Option.some.inj H
      exact ev_iret rfl rfl rfl rfl
/-- GameTextModel.begins(III)V, from 81 -/
def J_203_81 (N : Nat) (g : Nat) (l_1 : Int32) (l_3 : Int32) (l_4 : Int32) (σ : st_S) : Option (st_S) :=
  (F_159 N l_3 (σ)).bind fun p_14 =>
  (F_165 N 9 p_14.1 (p_14.2)).bind fun p_15 =>
  if aB l_1 (gN p_15 (g + 21)) then
  some (st_e (p_15) (g + 21) ((l_1 : Int32).toNatClampNeg) l_4)
  else none
set_option maxRecDepth 100000 in
theorem J_203_81_R {N : Nat} {g : Nat} {l_1 : Int32} {l_3 : Int32} {l_4 : Int32} {σ : st_S} {p : st_S} (H : J_203_81 N g l_1 l_3 l_4 σ = some p) : gR p = gR σ := by
  unfold J_203_81 at H
  obtain ⟨p_14, G_14, H⟩ := F_bd H
  obtain ⟨p_15, G_15, H⟩ := F_bd H
  obtain ⟨_, H⟩ := F_gd H
  obtain rfl := Option.some.inj H
  exact ((F_165_R G_15).trans ((F_159_R G_14).trans rfl))
set_option maxHeartbeats 4000000 in
set_option maxRecDepth 100000 in
theorem J_203_81_ok {N d : Nat} {g : Nat} (hg : g = 79 ∨ g = 115) {l_1 : Int32} {l_3 : Int32} {l_4 : Int32} {σ : st_S} {lv : vz_L} {p : st_S} (g_0 : vz_g lv 0 = some (.ref 66)) (g_1 : vz_g lv 1 = some (.int l_1)) (g_3 : vz_g lv 3 = some (.int l_3)) (g_4 : vz_g lv 4 = some (.int l_4)) (hnb : vz_nbL (vz_gr P0) lv = true) (hr_66_10 : gR σ 66 10 = g) (H : J_203_81 N g l_1 l_3 l_4 σ = some p) : vz_ev P0 (d + 7) 203 81 lv [] (hp σ) (.inl none, hp p) := by
  unfold J_203_81 at H
  rcases hg with rfl | rfl
  · refine ev_x (i := .aload_n 0) (len := 1) (p' := 82) (s' := [.ref 66]) rfl rfl (ld_a g_0) ?_
    refine ev_x (i := .bipush 9) (len := 2) (p' := 84) (s' := [.int 9, .ref 66]) rfl rfl rfl ?_
    refine ev_x (i := .aload_n 0) (len := 1) (p' := 85) (s' := [.ref 66, .int 9, .ref 66]) rfl rfl (ld_a g_0) ?_
    refine ev_x (i := .iload_n 3) (len := 1) (p' := 86) (s' := [.int l_3, .ref 66, .int 9, .ref 66]) rfl rfl (ld_i g_3) ?_
    obtain ⟨p_14, G_14, H⟩ := F_bd H
    refine ev_cv (d := d + 6) (As := [.int l_3]) (a := 66) (p' := 89) rfl rfl rfl ly_66 rfl rfl rfl rfl rfl hnb rfl (F_159_ok (d := d + 4)   G_14) ?_
    refine ev_st (st' := [.int p_14.1, .int 9, .ref 66]) rfl ?_
    have e_14 := F_159_R G_14
    obtain ⟨p_15, G_15, H⟩ := F_bd H
    refine ev_cv (d := d + 6) (As := [.int 9, .int p_14.1]) (a := 66) (p' := 92) rfl rfl rfl ly_66 rfl rfl rfl rfl rfl hnb rfl (F_165_ok (d := d + 5)   G_15) ?_
    refine ev_st (st' := []) rfl ?_
    have e_15 := F_165_R G_15
    refine ev_x (i := .aload_n 0) (len := 1) (p' := 93) (s' := [.ref 66]) rfl rfl (ld_a g_0) ?_
    refine ev_gr (p' := 96) (v := 79) rfl rfl rfl ly_66 rfl rfl ((congrFun (congrFun e_15 66) 10).trans ((congrFun (congrFun e_14 66) 10).trans hr_66_10)) ?_
    refine ev_gc (p' := 99) (v := 100) rfl rfl rfl ly_79 rfl rfl ?_
    refine ev_x (i := .iload_n 1) (len := 1) (p' := 100) (s' := [.int l_1, .ref 100]) rfl rfl (ld_i g_1) ?_
    refine ev_x (i := .iload 4) (len := 2) (p' := 102) (s' := [.int l_4, .int l_1, .ref 100]) rfl rfl (ld_i g_4) ?_
    obtain ⟨b_16, H⟩ := F_gd H
    refine ev_pa (j := (l_1 : Int32).toNatClampNeg) (p' := 103) rfl rfl ly_100 rfl (gd_in b_16) rfl ?_
    obtain rfl := Option.some.inj H
    exact ev_vret rfl rfl rfl
  · refine ev_x (i := .aload_n 0) (len := 1) (p' := 82) (s' := [.ref 66]) rfl rfl (ld_a g_0) ?_
    refine ev_x (i := .bipush 9) (len := 2) (p' := 84) (s' := [.int 9, .ref 66]) rfl rfl rfl ?_
    refine ev_x (i := .aload_n 0) (len := 1) (p' := 85) (s' := [.ref 66, .int 9, .ref 66]) rfl rfl (ld_a g_0) ?_
    refine ev_x (i := .iload_n 3) (len := 1) (p' := 86) (s' := [.int l_3, .ref 66, .int 9, .ref 66]) rfl rfl (ld_i g_3) ?_
    obtain ⟨p_14, G_14, H⟩ := F_bd H
    refine ev_cv (d := d + 6) (As := [.int l_3]) (a := 66) (p' := 89) rfl rfl rfl ly_66 rfl rfl rfl rfl rfl hnb rfl (F_159_ok (d := d + 4)   G_14) ?_
    refine ev_st (st' := [.int p_14.1, .int 9, .ref 66]) rfl ?_
    have e_14 := F_159_R G_14
    obtain ⟨p_15, G_15, H⟩ := F_bd H
    refine ev_cv (d := d + 6) (As := [.int 9, .int p_14.1]) (a := 66) (p' := 92) rfl rfl rfl ly_66 rfl rfl rfl rfl rfl hnb rfl (F_165_ok (d := d + 5)   G_15) ?_
    refine ev_st (st' := []) rfl ?_
    have e_15 := F_165_R G_15
    refine ev_x (i := .aload_n 0) (len := 1) (p' := 93) (s' := [.ref 66]) rfl rfl (ld_a g_0) ?_
    refine ev_gr (p' := 96) (v := 115) rfl rfl rfl ly_66 rfl rfl ((congrFun (congrFun e_15 66) 10).trans ((congrFun (congrFun e_14 66) 10).trans hr_66_10)) ?_
    refine ev_gc (p' := 99) (v := 136) rfl rfl rfl ly_115 rfl rfl ?_
    refine ev_x (i := .iload_n 1) (len := 1) (p' := 100) (s' := [.int l_1, .ref 136]) rfl rfl (ld_i g_1) ?_
    refine ev_x (i := .iload 4) (len := 2) (p' := 102) (s' := [.int l_4, .int l_1, .ref 136]) rfl rfl (ld_i g_4) ?_
    obtain ⟨b_16, H⟩ := F_gd H
    refine ev_pa (j := (l_1 : Int32).toNatClampNeg) (p' := 103) rfl rfl ly_136 rfl (gd_in b_16) rfl ?_
    obtain rfl := Option.some.inj H
    exact ev_vret rfl rfl rfl
/-- GameTextModel.begins(III)V -/
def F_203 (N : Nat) (g : Nat) (x_1 : Int32) (x_2 : Int32) (x_3 : Int32) (σ : st_S) : Option (st_S) :=
  if aB x_1 (gN σ (g + 18)) then
  if (gE (σ) (g + 18) (x_1 : Int32).toNatClampNeg) = 0 then
    (F_202 N g x_2 x_3 (σ)).bind fun p_3 =>
    if (gI p_3.2 66 16) = 0 then
      if aB x_1 (gN p_3.2 (g + 19)) then
      if p_3.1 < (gE (p_3.2) (g + 19) (x_1 : Int32).toNatClampNeg) then
        J_203_81 N g x_1 x_3 p_3.1 (p_3.2)
      else
        if aB x_1 (gN p_3.2 (g + 20)) then
        if p_3.1 ≤ (gE (p_3.2) (g + 20) (x_1 : Int32).toNatClampNeg) then
          if aB x_1 (gN p_3.2 (g + 21)) then
          some (st_e (p_3.2) (g + 21) ((x_1 : Int32).toNatClampNeg) p_3.1)
          else none
        else
          J_203_81 N g x_1 x_3 p_3.1 (p_3.2)
        else none
      else none
    else
      if aB x_1 (gN p_3.2 (g + 21)) then
      some (st_e (p_3.2) (g + 21) ((x_1 : Int32).toNatClampNeg) p_3.1)
      else none
  else
    (F_185 N g x_2 (σ)).bind fun p_11 =>
    if aB 0 (gN p_11 163) then
    if aB x_1 (gN p_11 (g + 21)) then
    some (st_e (p_11) (g + 21) ((x_1 : Int32).toNatClampNeg) ((gL (p_11) 163 (0 : Int32).toNatClampNeg) : Int64).toInt32)
    else none
    else none
  else none
set_option maxRecDepth 100000 in
theorem F_203_R {N : Nat} {g : Nat} {x_1 : Int32} {x_2 : Int32} {x_3 : Int32} {σ : st_S} {p : st_S} (H : F_203 N g x_1 x_2 x_3 σ = some p) : gR p = gR σ := by
  unfold F_203 at H
  obtain ⟨_, H⟩ := F_gd H
  refine F_if H (fun _ H => ?_) (fun _ H => ?_)
  · obtain ⟨p_3, G_3, H⟩ := F_bd H
    refine F_if H (fun _ H => ?_) (fun _ H => ?_)
    · obtain ⟨_, H⟩ := F_gd H
      refine F_if H (fun _ H => ?_) (fun _ H => ?_)
      · exact (((J_203_81_R H)).trans ((F_202_R G_3).trans rfl))
      · obtain ⟨_, H⟩ := F_gd H
        refine F_if H (fun _ H => ?_) (fun _ H => ?_)
        · obtain ⟨_, H⟩ := F_gd H
          obtain rfl := Option.some.inj H
          exact ((F_202_R G_3).trans rfl)
        · exact (((J_203_81_R H)).trans ((F_202_R G_3).trans rfl))
    · obtain ⟨_, H⟩ := F_gd H
      obtain rfl := Option.some.inj H
      exact ((F_202_R G_3).trans rfl)
  · obtain ⟨p_11, G_11, H⟩ := F_bd H
    obtain ⟨_, H⟩ := F_gd H
    obtain ⟨_, H⟩ := F_gd H
    obtain rfl := Option.some.inj H
    exact ((F_185_R G_11).trans rfl)
set_option maxHeartbeats 4000000 in
set_option maxRecDepth 100000 in
theorem F_203_ok {N d : Nat} {g : Nat} (hg : g = 79 ∨ g = 115) {x_1 : Int32} {x_2 : Int32} {x_3 : Int32} {σ : st_S} {p : st_S} (hr_66_10 : gR σ 66 10 = g) (H : F_203 N g x_1 x_2 x_3 σ = some p) : vz_ev P0 (d + 7) 203 0 (lv_args 0 [.ref 66, .int x_1, .int x_2, .int x_3]) [] (hp σ) (.inl none, hp p) := by
  unfold F_203 at H
  rcases hg with rfl | rfl
  · refine ev_x (i := .aload_n 0) (len := 1) (p' := 1) (s' := [.ref 66]) rfl rfl rfl ?_
    refine ev_gr (p' := 4) (v := 79) rfl rfl rfl ly_66 rfl rfl hr_66_10 ?_
    refine ev_gc (p' := 7) (v := 97) rfl rfl rfl ly_79 rfl rfl ?_
    refine ev_x (i := .iload_n 1) (len := 1) (p' := 8) (s' := [.int x_1, .ref 97]) rfl rfl rfl ?_
    obtain ⟨b_1, H⟩ := F_gd H
    refine ev_gb (p' := 9) (v := (gE (σ) 97 (x_1 : Int32).toNatClampNeg)) rfl rfl ly_97 rfl (gd_in b_1) rfl ?_
    refine F_if H (fun c_2 H => ?_) (fun c_2 H => ?_)
    · refine ev_b0 (t := 38) (p' := 38) rfl rfl rfl (if_pos c_2) ?_
      refine ev_x (i := .aload_n 0) (len := 1) (p' := 39) (s' := [.ref 66]) rfl rfl rfl ?_
      refine ev_x (i := .iload_n 2) (len := 1) (p' := 40) (s' := [.int x_2, .ref 66]) rfl rfl rfl ?_
      refine ev_x (i := .iload_n 3) (len := 1) (p' := 41) (s' := [.int x_3, .int x_2, .ref 66]) rfl rfl rfl ?_
      obtain ⟨p_3, G_3, H⟩ := F_bd H
      refine ev_cv (d := d + 6) (As := [.int x_2, .int x_3]) (a := 66) (p' := 44) rfl rfl rfl ly_66 rfl rfl rfl rfl rfl rfl rfl (F_202_ok (d := d + 0) (hg := (Or.inl rfl)) (hr_66_10 := hr_66_10) G_3) ?_
      refine ev_st (st' := [.int p_3.1]) rfl ?_
      have e_3 := F_202_R G_3
      refine ev_x (i := .istore 4) (len := 2) (p' := 46) (s' := []) (l' := [(4, .int p_3.1), (0, .ref 66), (1, .int x_1), (2, .int x_2), (3, .int x_3)]) rfl rfl rfl ?_
      refine ev_x (i := .aload_n 0) (len := 1) (p' := 47) (s' := [.ref 66]) rfl rfl rfl ?_
      refine ev_gi (p' := 50) (v := (gI p_3.2 66 16)) rfl rfl rfl ly_66 rfl rfl rfl ?_
      refine F_if H (fun c_4 H => ?_) (fun c_4 H => ?_)
      · refine ev_b0 (t := 92) (p' := 53) rfl rfl rfl (if_neg (fun q => q c_4)) ?_
        refine ev_x (i := .iload 4) (len := 2) (p' := 55) (s' := [.int p_3.1]) rfl rfl rfl ?_
        refine ev_x (i := .aload_n 0) (len := 1) (p' := 56) (s' := [.ref 66, .int p_3.1]) rfl rfl rfl ?_
        refine ev_gr (p' := 59) (v := 79) rfl rfl rfl ly_66 rfl rfl ((congrFun (congrFun e_3 66) 10).trans hr_66_10) ?_
        refine ev_gc (p' := 62) (v := 98) rfl rfl rfl ly_79 rfl rfl ?_
        refine ev_x (i := .iload_n 1) (len := 1) (p' := 63) (s' := [.int x_1, .ref 98, .int p_3.1]) rfl rfl rfl ?_
        obtain ⟨b_5, H⟩ := F_gd H
        refine ev_ga (p' := 64) (v := (gE (p_3.2) 98 (x_1 : Int32).toNatClampNeg)) rfl rfl ly_98 rfl (gd_in b_5) rfl ?_
        refine F_if H (fun c_6 H => ?_) (fun c_6 H => ?_)
        · refine ev_b2 (t := 81) (p' := 81) rfl rfl rfl (if_pos c_6) ?_
          exact J_203_81_ok (d := d) (Or.inl rfl) rfl rfl rfl rfl rfl ((congrFun (congrFun e_3 66) 10).trans hr_66_10) H
        · refine ev_b2 (t := 81) (p' := 67) rfl rfl rfl (if_neg c_6) ?_
          refine ev_x (i := .iload 4) (len := 2) (p' := 69) (s' := [.int p_3.1]) rfl rfl rfl ?_
          refine ev_x (i := .aload_n 0) (len := 1) (p' := 70) (s' := [.ref 66, .int p_3.1]) rfl rfl rfl ?_
          refine ev_gr (p' := 73) (v := 79) rfl rfl rfl ly_66 rfl rfl ((congrFun (congrFun e_3 66) 10).trans hr_66_10) ?_
          refine ev_gc (p' := 76) (v := 99) rfl rfl rfl ly_79 rfl rfl ?_
          refine ev_x (i := .iload_n 1) (len := 1) (p' := 77) (s' := [.int x_1, .ref 99, .int p_3.1]) rfl rfl rfl ?_
          obtain ⟨b_7, H⟩ := F_gd H
          refine ev_ga (p' := 78) (v := (gE (p_3.2) 99 (x_1 : Int32).toNatClampNeg)) rfl rfl ly_99 rfl (gd_in b_7) rfl ?_
          refine F_if H (fun c_8 H => ?_) (fun c_8 H => ?_)
          · refine ev_b2 (t := 92) (p' := 92) rfl rfl rfl (if_pos c_8) ?_
            refine ev_x (i := .aload_n 0) (len := 1) (p' := 93) (s' := [.ref 66]) rfl rfl rfl ?_
            refine ev_gr (p' := 96) (v := 79) rfl rfl rfl ly_66 rfl rfl ((congrFun (congrFun e_3 66) 10).trans hr_66_10) ?_
            refine ev_gc (p' := 99) (v := 100) rfl rfl rfl ly_79 rfl rfl ?_
            refine ev_x (i := .iload_n 1) (len := 1) (p' := 100) (s' := [.int x_1, .ref 100]) rfl rfl rfl ?_
            refine ev_x (i := .iload 4) (len := 2) (p' := 102) (s' := [.int p_3.1, .int x_1, .ref 100]) rfl rfl rfl ?_
            obtain ⟨b_9, H⟩ := F_gd H
            refine ev_pa (j := (x_1 : Int32).toNatClampNeg) (p' := 103) rfl rfl ly_100 rfl (gd_in b_9) rfl ?_
            obtain rfl := Option.some.inj H
            exact ev_vret rfl rfl rfl
          · refine ev_b2 (t := 92) (p' := 81) rfl rfl rfl (if_neg c_8) ?_
            exact J_203_81_ok (d := d) (Or.inl rfl) rfl rfl rfl rfl rfl ((congrFun (congrFun e_3 66) 10).trans hr_66_10) H
      · refine ev_b0 (t := 92) (p' := 92) rfl rfl rfl (if_pos c_4) ?_
        refine ev_x (i := .aload_n 0) (len := 1) (p' := 93) (s' := [.ref 66]) rfl rfl rfl ?_
        refine ev_gr (p' := 96) (v := 79) rfl rfl rfl ly_66 rfl rfl ((congrFun (congrFun e_3 66) 10).trans hr_66_10) ?_
        refine ev_gc (p' := 99) (v := 100) rfl rfl rfl ly_79 rfl rfl ?_
        refine ev_x (i := .iload_n 1) (len := 1) (p' := 100) (s' := [.int x_1, .ref 100]) rfl rfl rfl ?_
        refine ev_x (i := .iload 4) (len := 2) (p' := 102) (s' := [.int p_3.1, .int x_1, .ref 100]) rfl rfl rfl ?_
        obtain ⟨b_10, H⟩ := F_gd H
        refine ev_pa (j := (x_1 : Int32).toNatClampNeg) (p' := 103) rfl rfl ly_100 rfl (gd_in b_10) rfl ?_
        obtain rfl := Option.some.inj H
        exact ev_vret rfl rfl rfl
    · refine ev_b0 (t := 38) (p' := 12) rfl rfl rfl (if_neg c_2) ?_
      refine ev_x (i := .aload_n 0) (len := 1) (p' := 13) (s' := [.ref 66]) rfl rfl rfl ?_
      refine ev_x (i := .aload_n 0) (len := 1) (p' := 14) (s' := [.ref 66, .ref 66]) rfl rfl rfl ?_
      refine ev_gr (p' := 17) (v := 79) rfl rfl rfl ly_66 rfl rfl hr_66_10 ?_
      refine ev_x (i := .iload_n 2) (len := 1) (p' := 18) (s' := [.int x_2, .ref 79, .ref 66]) rfl rfl rfl ?_
      obtain ⟨p_11, G_11, H⟩ := F_bd H
      refine ev_cv (d := d + 6) (As := [.ref 79, .int x_2]) (a := 66) (p' := 21) rfl rfl rfl ly_66 rfl rfl rfl rfl rfl rfl rfl (F_185_ok (d := d + 1) (hg := (Or.inl rfl))  G_11) ?_
      refine ev_st (st' := []) rfl ?_
      have e_11 := F_185_R G_11
      refine ev_x (i := .aload_n 0) (len := 1) (p' := 22) (s' := [.ref 66]) rfl rfl rfl ?_
      refine ev_gr (p' := 25) (v := 79) rfl rfl rfl ly_66 rfl rfl ((congrFun (congrFun e_11 66) 10).trans hr_66_10) ?_
      refine ev_gc (p' := 28) (v := 100) rfl rfl rfl ly_79 rfl rfl ?_
      refine ev_x (i := .iload_n 1) (len := 1) (p' := 29) (s' := [.int x_1, .ref 100]) rfl rfl rfl ?_
      refine ev_x (i := .aload_n 0) (len := 1) (p' := 30) (s' := [.ref 66, .int x_1, .ref 100]) rfl rfl rfl ?_
      refine ev_gc (p' := 33) (v := 163) rfl rfl rfl ly_66 rfl rfl ?_
      refine ev_x (i := .iconst 0) (len := 1) (p' := 34) (s' := [.int 0, .ref 163, .int x_1, .ref 100]) rfl rfl rfl ?_
      obtain ⟨b_12, H⟩ := F_gd H
      refine ev_gL (p' := 35) (v := (gL (p_11) 163 (0 : Int32).toNatClampNeg)) rfl rfl ly_163 rfl (gd_in b_12) rfl ?_
      refine ev_x (i := .l2i) (len := 1) (p' := 36) (s' := [.int ((gL (p_11) 163 (0 : Int32).toNatClampNeg) : Int64).toInt32, .int x_1, .ref 100]) rfl rfl rfl ?_
      obtain ⟨b_13, H⟩ := F_gd H
      refine ev_pa (j := (x_1 : Int32).toNatClampNeg) (p' := 37) rfl rfl ly_100 rfl (gd_in b_13) rfl ?_
      obtain rfl := Option.some.inj H
      exact ev_vret rfl rfl rfl
  · refine ev_x (i := .aload_n 0) (len := 1) (p' := 1) (s' := [.ref 66]) rfl rfl rfl ?_
    refine ev_gr (p' := 4) (v := 115) rfl rfl rfl ly_66 rfl rfl hr_66_10 ?_
    refine ev_gc (p' := 7) (v := 133) rfl rfl rfl ly_115 rfl rfl ?_
    refine ev_x (i := .iload_n 1) (len := 1) (p' := 8) (s' := [.int x_1, .ref 133]) rfl rfl rfl ?_
    obtain ⟨b_1, H⟩ := F_gd H
    refine ev_gb (p' := 9) (v := (gE (σ) 133 (x_1 : Int32).toNatClampNeg)) rfl rfl ly_133 rfl (gd_in b_1) rfl ?_
    refine F_if H (fun c_2 H => ?_) (fun c_2 H => ?_)
    · refine ev_b0 (t := 38) (p' := 38) rfl rfl rfl (if_pos c_2) ?_
      refine ev_x (i := .aload_n 0) (len := 1) (p' := 39) (s' := [.ref 66]) rfl rfl rfl ?_
      refine ev_x (i := .iload_n 2) (len := 1) (p' := 40) (s' := [.int x_2, .ref 66]) rfl rfl rfl ?_
      refine ev_x (i := .iload_n 3) (len := 1) (p' := 41) (s' := [.int x_3, .int x_2, .ref 66]) rfl rfl rfl ?_
      obtain ⟨p_3, G_3, H⟩ := F_bd H
      refine ev_cv (d := d + 6) (As := [.int x_2, .int x_3]) (a := 66) (p' := 44) rfl rfl rfl ly_66 rfl rfl rfl rfl rfl rfl rfl (F_202_ok (d := d + 0) (hg := (Or.inr rfl)) (hr_66_10 := hr_66_10) G_3) ?_
      refine ev_st (st' := [.int p_3.1]) rfl ?_
      have e_3 := F_202_R G_3
      refine ev_x (i := .istore 4) (len := 2) (p' := 46) (s' := []) (l' := [(4, .int p_3.1), (0, .ref 66), (1, .int x_1), (2, .int x_2), (3, .int x_3)]) rfl rfl rfl ?_
      refine ev_x (i := .aload_n 0) (len := 1) (p' := 47) (s' := [.ref 66]) rfl rfl rfl ?_
      refine ev_gi (p' := 50) (v := (gI p_3.2 66 16)) rfl rfl rfl ly_66 rfl rfl rfl ?_
      refine F_if H (fun c_4 H => ?_) (fun c_4 H => ?_)
      · refine ev_b0 (t := 92) (p' := 53) rfl rfl rfl (if_neg (fun q => q c_4)) ?_
        refine ev_x (i := .iload 4) (len := 2) (p' := 55) (s' := [.int p_3.1]) rfl rfl rfl ?_
        refine ev_x (i := .aload_n 0) (len := 1) (p' := 56) (s' := [.ref 66, .int p_3.1]) rfl rfl rfl ?_
        refine ev_gr (p' := 59) (v := 115) rfl rfl rfl ly_66 rfl rfl ((congrFun (congrFun e_3 66) 10).trans hr_66_10) ?_
        refine ev_gc (p' := 62) (v := 134) rfl rfl rfl ly_115 rfl rfl ?_
        refine ev_x (i := .iload_n 1) (len := 1) (p' := 63) (s' := [.int x_1, .ref 134, .int p_3.1]) rfl rfl rfl ?_
        obtain ⟨b_5, H⟩ := F_gd H
        refine ev_ga (p' := 64) (v := (gE (p_3.2) 134 (x_1 : Int32).toNatClampNeg)) rfl rfl ly_134 rfl (gd_in b_5) rfl ?_
        refine F_if H (fun c_6 H => ?_) (fun c_6 H => ?_)
        · refine ev_b2 (t := 81) (p' := 81) rfl rfl rfl (if_pos c_6) ?_
          exact J_203_81_ok (d := d) (Or.inr rfl) rfl rfl rfl rfl rfl ((congrFun (congrFun e_3 66) 10).trans hr_66_10) H
        · refine ev_b2 (t := 81) (p' := 67) rfl rfl rfl (if_neg c_6) ?_
          refine ev_x (i := .iload 4) (len := 2) (p' := 69) (s' := [.int p_3.1]) rfl rfl rfl ?_
          refine ev_x (i := .aload_n 0) (len := 1) (p' := 70) (s' := [.ref 66, .int p_3.1]) rfl rfl rfl ?_
          refine ev_gr (p' := 73) (v := 115) rfl rfl rfl ly_66 rfl rfl ((congrFun (congrFun e_3 66) 10).trans hr_66_10) ?_
          refine ev_gc (p' := 76) (v := 135) rfl rfl rfl ly_115 rfl rfl ?_
          refine ev_x (i := .iload_n 1) (len := 1) (p' := 77) (s' := [.int x_1, .ref 135, .int p_3.1]) rfl rfl rfl ?_
          obtain ⟨b_7, H⟩ := F_gd H
          refine ev_ga (p' := 78) (v := (gE (p_3.2) 135 (x_1 : Int32).toNatClampNeg)) rfl rfl ly_135 rfl (gd_in b_7) rfl ?_
          refine F_if H (fun c_8 H => ?_) (fun c_8 H => ?_)
          · refine ev_b2 (t := 92) (p' := 92) rfl rfl rfl (if_pos c_8) ?_
            refine ev_x (i := .aload_n 0) (len := 1) (p' := 93) (s' := [.ref 66]) rfl rfl rfl ?_
            refine ev_gr (p' := 96) (v := 115) rfl rfl rfl ly_66 rfl rfl ((congrFun (congrFun e_3 66) 10).trans hr_66_10) ?_
            refine ev_gc (p' := 99) (v := 136) rfl rfl rfl ly_115 rfl rfl ?_
            refine ev_x (i := .iload_n 1) (len := 1) (p' := 100) (s' := [.int x_1, .ref 136]) rfl rfl rfl ?_
            refine ev_x (i := .iload 4) (len := 2) (p' := 102) (s' := [.int p_3.1, .int x_1, .ref 136]) rfl rfl rfl ?_
            obtain ⟨b_9, H⟩ := F_gd H
            refine ev_pa (j := (x_1 : Int32).toNatClampNeg) (p' := 103) rfl rfl ly_136 rfl (gd_in b_9) rfl ?_
            obtain rfl := Option.some.inj H
            exact ev_vret rfl rfl rfl
          · refine ev_b2 (t := 92) (p' := 81) rfl rfl rfl (if_neg c_8) ?_
            exact J_203_81_ok (d := d) (Or.inr rfl) rfl rfl rfl rfl rfl ((congrFun (congrFun e_3 66) 10).trans hr_66_10) H
      · refine ev_b0 (t := 92) (p' := 92) rfl rfl rfl (if_pos c_4) ?_
        refine ev_x (i := .aload_n 0) (len := 1) (p' := 93) (s' := [.ref 66]) rfl rfl rfl ?_
        refine ev_gr (p' := 96) (v := 115) rfl rfl rfl ly_66 rfl rfl ((congrFun (congrFun e_3 66) 10).trans hr_66_10) ?_
        refine ev_gc (p' := 99) (v := 136) rfl rfl rfl ly_115 rfl rfl ?_
        refine ev_x (i := .iload_n 1) (len := 1) (p' := 100) (s' := [.int x_1, .ref 136]) rfl rfl rfl ?_
        refine ev_x (i := .iload 4) (len := 2) (p' := 102) (s' := [.int p_3.1, .int x_1, .ref 136]) rfl rfl rfl ?_
        obtain ⟨b_10, H⟩ := F_gd H
        refine ev_pa (j := (x_1 : Int32).toNatClampNeg) (p' := 103) rfl rfl ly_136 rfl (gd_in b_10) rfl ?_
        obtain rfl := Option.some.inj H
        exact ev_vret rfl rfl rfl
    · refine ev_b0 (t := 38) (p' := 12) rfl rfl rfl (if_neg c_2) ?_
      refine ev_x (i := .aload_n 0) (len := 1) (p' := 13) (s' := [.ref 66]) rfl rfl rfl ?_
      refine ev_x (i := .aload_n 0) (len := 1) (p' := 14) (s' := [.ref 66, .ref 66]) rfl rfl rfl ?_
      refine ev_gr (p' := 17) (v := 115) rfl rfl rfl ly_66 rfl rfl hr_66_10 ?_
      refine ev_x (i := .iload_n 2) (len := 1) (p' := 18) (s' := [.int x_2, .ref 115, .ref 66]) rfl rfl rfl ?_
      obtain ⟨p_11, G_11, H⟩ := F_bd H
      refine ev_cv (d := d + 6) (As := [.ref 115, .int x_2]) (a := 66) (p' := 21) rfl rfl rfl ly_66 rfl rfl rfl rfl rfl rfl rfl (F_185_ok (d := d + 1) (hg := (Or.inr rfl))  G_11) ?_
      refine ev_st (st' := []) rfl ?_
      have e_11 := F_185_R G_11
      refine ev_x (i := .aload_n 0) (len := 1) (p' := 22) (s' := [.ref 66]) rfl rfl rfl ?_
      refine ev_gr (p' := 25) (v := 115) rfl rfl rfl ly_66 rfl rfl ((congrFun (congrFun e_11 66) 10).trans hr_66_10) ?_
      refine ev_gc (p' := 28) (v := 136) rfl rfl rfl ly_115 rfl rfl ?_
      refine ev_x (i := .iload_n 1) (len := 1) (p' := 29) (s' := [.int x_1, .ref 136]) rfl rfl rfl ?_
      refine ev_x (i := .aload_n 0) (len := 1) (p' := 30) (s' := [.ref 66, .int x_1, .ref 136]) rfl rfl rfl ?_
      refine ev_gc (p' := 33) (v := 163) rfl rfl rfl ly_66 rfl rfl ?_
      refine ev_x (i := .iconst 0) (len := 1) (p' := 34) (s' := [.int 0, .ref 163, .int x_1, .ref 136]) rfl rfl rfl ?_
      obtain ⟨b_12, H⟩ := F_gd H
      refine ev_gL (p' := 35) (v := (gL (p_11) 163 (0 : Int32).toNatClampNeg)) rfl rfl ly_163 rfl (gd_in b_12) rfl ?_
      refine ev_x (i := .l2i) (len := 1) (p' := 36) (s' := [.int ((gL (p_11) 163 (0 : Int32).toNatClampNeg) : Int64).toInt32, .int x_1, .ref 136]) rfl rfl rfl ?_
      obtain ⟨b_13, H⟩ := F_gd H
      refine ev_pa (j := (x_1 : Int32).toNatClampNeg) (p' := 37) rfl rfl ly_136 rfl (gd_in b_13) rfl ?_
      obtain rfl := Option.some.inj H
      exact ev_vret rfl rfl rfl
/-- GameTextModel.varItem(II)V, from 410 -/
def J_199_410 (N : Nat) (g : Nat) (x : Nat) (l_1 : Int32) (l_3 : Int32) (σ : st_S) : Option (st_S) :=
  (F_198 N (l_1 + 1) 3 l_3 (st_i (σ) g 12 (l_3 + 1))).bind fun p_57 =>
  some (p_57)
set_option maxRecDepth 100000 in
theorem J_199_410_R {N : Nat} {g : Nat} {x : Nat} {l_1 : Int32} {l_3 : Int32} {σ : st_S} {p : st_S} (H : J_199_410 N g x l_1 l_3 σ = some p) : gR p = gR σ := by
  unfold J_199_410 at H
  obtain ⟨p_57, G_57, H⟩ := F_bd H
  obtain rfl := Option.some.inj H
  exact ((F_198_R G_57).trans rfl)
set_option maxHeartbeats 4000000 in
set_option maxRecDepth 100000 in
theorem J_199_410_ok {N d : Nat} {g : Nat} (hg : g = 79 ∨ g = 115) {x : Nat} (hx : x = 67 ∨ x = 69) {l_1 : Int32} {l_3 : Int32} {σ : st_S} {lv : vz_L} {p : st_S} (g_0 : vz_g lv 0 = some (.ref 66)) (g_1 : vz_g lv 1 = some (.int l_1)) (g_3 : vz_g lv 3 = some (.int l_3)) (hnb : vz_nbL (vz_gr P0) lv = true) (hr_66_2 : gR σ 66 2 = x) (hr_66_10 : gR σ 66 10 = g) (H : J_199_410 N g x l_1 l_3 σ = some p) : vz_ev P0 (d + 9) 199 410 lv [] (hp σ) (.inl none, hp p) := by
  unfold J_199_410 at H
  rcases hg with rfl | rfl
  · refine ev_x (i := .aload_n 0) (len := 1) (p' := 411) (s' := [.ref 66]) rfl rfl (ld_a g_0) ?_
    refine ev_gr (p' := 414) (v := 79) rfl rfl rfl ly_66 rfl rfl hr_66_10 ?_
    refine ev_x (i := .iload_n 3) (len := 1) (p' := 415) (s' := [.int l_3, .ref 79]) rfl rfl (ld_i g_3) ?_
    refine ev_x (i := .iconst 1) (len := 1) (p' := 416) (s' := [.int 1, .int l_3, .ref 79]) rfl rfl rfl ?_
    refine ev_x (i := .iadd) (len := 1) (p' := 417) (s' := [.int (l_3 + 1), .ref 79]) rfl rfl rfl ?_
    refine ev_pi (p' := 420) rfl rfl rfl ly_79 rfl rfl rfl rfl ?_
    refine ev_x (i := .aload_n 0) (len := 1) (p' := 421) (s' := [.ref 66]) rfl rfl (ld_a g_0) ?_
    refine ev_x (i := .iload_n 1) (len := 1) (p' := 422) (s' := [.int l_1, .ref 66]) rfl rfl (ld_i g_1) ?_
    refine ev_x (i := .iconst 1) (len := 1) (p' := 423) (s' := [.int 1, .int l_1, .ref 66]) rfl rfl rfl ?_
    refine ev_x (i := .iadd) (len := 1) (p' := 424) (s' := [.int (l_1 + 1), .ref 66]) rfl rfl rfl ?_
    refine ev_x (i := .iconst 3) (len := 1) (p' := 425) (s' := [.int 3, .int (l_1 + 1), .ref 66]) rfl rfl rfl ?_
    refine ev_x (i := .iload_n 3) (len := 1) (p' := 426) (s' := [.int l_3, .int 3, .int (l_1 + 1), .ref 66]) rfl rfl (ld_i g_3) ?_
    obtain ⟨p_57, G_57, H⟩ := F_bd H
    refine ev_cv (d := d + 8) (As := [.int (l_1 + 1), .int 3, .int l_3]) (a := 66) (p' := 429) rfl rfl rfl ly_66 rfl rfl rfl rfl rfl hnb rfl (F_198_ok (d := d + 6)   G_57) ?_
    refine ev_st (st' := []) rfl ?_
    have e_57 := F_198_R G_57
    obtain rfl := Option.some.inj H
    exact ev_vret rfl rfl rfl
  · refine ev_x (i := .aload_n 0) (len := 1) (p' := 411) (s' := [.ref 66]) rfl rfl (ld_a g_0) ?_
    refine ev_gr (p' := 414) (v := 115) rfl rfl rfl ly_66 rfl rfl hr_66_10 ?_
    refine ev_x (i := .iload_n 3) (len := 1) (p' := 415) (s' := [.int l_3, .ref 115]) rfl rfl (ld_i g_3) ?_
    refine ev_x (i := .iconst 1) (len := 1) (p' := 416) (s' := [.int 1, .int l_3, .ref 115]) rfl rfl rfl ?_
    refine ev_x (i := .iadd) (len := 1) (p' := 417) (s' := [.int (l_3 + 1), .ref 115]) rfl rfl rfl ?_
    refine ev_pi (p' := 420) rfl rfl rfl ly_115 rfl rfl rfl rfl ?_
    refine ev_x (i := .aload_n 0) (len := 1) (p' := 421) (s' := [.ref 66]) rfl rfl (ld_a g_0) ?_
    refine ev_x (i := .iload_n 1) (len := 1) (p' := 422) (s' := [.int l_1, .ref 66]) rfl rfl (ld_i g_1) ?_
    refine ev_x (i := .iconst 1) (len := 1) (p' := 423) (s' := [.int 1, .int l_1, .ref 66]) rfl rfl rfl ?_
    refine ev_x (i := .iadd) (len := 1) (p' := 424) (s' := [.int (l_1 + 1), .ref 66]) rfl rfl rfl ?_
    refine ev_x (i := .iconst 3) (len := 1) (p' := 425) (s' := [.int 3, .int (l_1 + 1), .ref 66]) rfl rfl rfl ?_
    refine ev_x (i := .iload_n 3) (len := 1) (p' := 426) (s' := [.int l_3, .int 3, .int (l_1 + 1), .ref 66]) rfl rfl (ld_i g_3) ?_
    obtain ⟨p_57, G_57, H⟩ := F_bd H
    refine ev_cv (d := d + 8) (As := [.int (l_1 + 1), .int 3, .int l_3]) (a := 66) (p' := 429) rfl rfl rfl ly_66 rfl rfl rfl rfl rfl hnb rfl (F_198_ok (d := d + 6)   G_57) ?_
    refine ev_st (st' := []) rfl ?_
    have e_57 := F_198_R G_57
    obtain rfl := Option.some.inj H
    exact ev_vret rfl rfl rfl
/-- GameTextModel.varItem(II)V, from 369 -/
def J_199_369 (N : Nat) (g : Nat) (x : Nat) (l_1 : Int32) (l_3 : Int32) (l_5 : Int32) (l_6 : Int32) (l_10 : Int32) (σ : st_S) : Option (st_S) :=
  if aB l_3 (gN σ (g + 19)) then
  if aB l_3 (gN σ (g + 21)) then
  if l_6 = 0 then
    J_199_410 N g x l_1 l_3 (st_e (σ) (g + 21) ((l_3 : Int32).toNatClampNeg) (gE (σ) (g + 19) (l_3 : Int32).toNatClampNeg))
  else
    if (gI σ 66 16) = 0 then
      (F_203 N g l_3 l_10 (l_5 + 1) (st_e (σ) (g + 21) ((l_3 : Int32).toNatClampNeg) (gE (σ) (g + 19) (l_3 : Int32).toNatClampNeg))).bind fun p_56 =>
      J_199_410 N g x l_1 l_3 (p_56)
    else
      J_199_410 N g x l_1 l_3 (st_e (σ) (g + 21) ((l_3 : Int32).toNatClampNeg) (gE (σ) (g + 19) (l_3 : Int32).toNatClampNeg))
  else none
  else none
set_option maxRecDepth 100000 in
theorem J_199_369_R {N : Nat} {g : Nat} {x : Nat} {l_1 : Int32} {l_3 : Int32} {l_5 : Int32} {l_6 : Int32} {l_10 : Int32} {σ : st_S} {p : st_S} (H : J_199_369 N g x l_1 l_3 l_5 l_6 l_10 σ = some p) : gR p = gR σ := by
  unfold J_199_369 at H
  obtain ⟨_, H⟩ := F_gd H
  obtain ⟨_, H⟩ := F_gd H
  refine F_if H (fun _ H => ?_) (fun _ H => ?_)
  · exact (((J_199_410_R H)).trans rfl)
  · refine F_if H (fun _ H => ?_) (fun _ H => ?_)
    · obtain ⟨p_56, G_56, H⟩ := F_bd H
      exact (((J_199_410_R H)).trans ((F_203_R G_56).trans rfl))
    · exact (((J_199_410_R H)).trans rfl)
set_option maxHeartbeats 4000000 in
set_option maxRecDepth 100000 in
theorem J_199_369_ok {N d : Nat} {g : Nat} (hg : g = 79 ∨ g = 115) {x : Nat} (hx : x = 67 ∨ x = 69) {l_1 : Int32} {l_3 : Int32} {l_5 : Int32} {l_6 : Int32} {l_10 : Int32} {σ : st_S} {lv : vz_L} {p : st_S} (g_0 : vz_g lv 0 = some (.ref 66)) (g_1 : vz_g lv 1 = some (.int l_1)) (g_3 : vz_g lv 3 = some (.int l_3)) (g_5 : vz_g lv 5 = some (.int l_5)) (g_6 : vz_g lv 6 = some (.int l_6)) (g_10 : vz_g lv 10 = some (.int l_10)) (hnb : vz_nbL (vz_gr P0) lv = true) (hr_66_2 : gR σ 66 2 = x) (hr_66_10 : gR σ 66 10 = g) (H : J_199_369 N g x l_1 l_3 l_5 l_6 l_10 σ = some p) : vz_ev P0 (d + 9) 199 369 lv [] (hp σ) (.inl none, hp p) := by
  unfold J_199_369 at H
  rcases hg with rfl | rfl
  · refine ev_x (i := .aload_n 0) (len := 1) (p' := 370) (s' := [.ref 66]) rfl rfl (ld_a g_0) ?_
    refine ev_gr (p' := 373) (v := 79) rfl rfl rfl ly_66 rfl rfl hr_66_10 ?_
    refine ev_gc (p' := 376) (v := 100) rfl rfl rfl ly_79 rfl rfl ?_
    refine ev_x (i := .iload_n 3) (len := 1) (p' := 377) (s' := [.int l_3, .ref 100]) rfl rfl (ld_i g_3) ?_
    refine ev_x (i := .aload_n 0) (len := 1) (p' := 378) (s' := [.ref 66, .int l_3, .ref 100]) rfl rfl (ld_a g_0) ?_
    refine ev_gr (p' := 381) (v := 79) rfl rfl rfl ly_66 rfl rfl hr_66_10 ?_
    refine ev_gc (p' := 384) (v := 98) rfl rfl rfl ly_79 rfl rfl ?_
    refine ev_x (i := .iload_n 3) (len := 1) (p' := 385) (s' := [.int l_3, .ref 98, .int l_3, .ref 100]) rfl rfl (ld_i g_3) ?_
    obtain ⟨b_52, H⟩ := F_gd H
    refine ev_ga (p' := 386) (v := (gE (σ) 98 (l_3 : Int32).toNatClampNeg)) rfl rfl ly_98 rfl (gd_in b_52) rfl ?_
    obtain ⟨b_53, H⟩ := F_gd H
    refine ev_pa (j := (l_3 : Int32).toNatClampNeg) (p' := 387) rfl rfl ly_100 rfl (gd_in b_53) rfl ?_
    refine ev_x (i := .iload 6) (len := 2) (p' := 389) (s' := [.int l_6]) rfl rfl (ld_i g_6) ?_
    refine F_if H (fun c_54 H => ?_) (fun c_54 H => ?_)
    · refine ev_b0 (t := 410) (p' := 410) rfl rfl rfl (if_pos c_54) ?_
      exact J_199_410_ok (d := d) (Or.inl rfl) hx g_0 g_1 g_3 hnb hr_66_2 hr_66_10 H
    · refine ev_b0 (t := 410) (p' := 392) rfl rfl rfl (if_neg c_54) ?_
      refine ev_x (i := .aload_n 0) (len := 1) (p' := 393) (s' := [.ref 66]) rfl rfl (ld_a g_0) ?_
      refine ev_gi (p' := 396) (v := (gI σ 66 16)) rfl rfl rfl ly_66 rfl rfl rfl ?_
      refine F_if H (fun c_55 H => ?_) (fun c_55 H => ?_)
      · refine ev_b0 (t := 410) (p' := 399) rfl rfl rfl (if_neg (fun q => q c_55)) ?_
        refine ev_x (i := .aload_n 0) (len := 1) (p' := 400) (s' := [.ref 66]) rfl rfl (ld_a g_0) ?_
        refine ev_x (i := .iload_n 3) (len := 1) (p' := 401) (s' := [.int l_3, .ref 66]) rfl rfl (ld_i g_3) ?_
        refine ev_x (i := .iload 10) (len := 2) (p' := 403) (s' := [.int l_10, .int l_3, .ref 66]) rfl rfl (ld_i g_10) ?_
        refine ev_x (i := .iload 5) (len := 2) (p' := 405) (s' := [.int l_5, .int l_10, .int l_3, .ref 66]) rfl rfl (ld_i g_5) ?_
        refine ev_x (i := .iconst 1) (len := 1) (p' := 406) (s' := [.int 1, .int l_5, .int l_10, .int l_3, .ref 66]) rfl rfl rfl ?_
        refine ev_x (i := .iadd) (len := 1) (p' := 407) (s' := [.int (l_5 + 1), .int l_10, .int l_3, .ref 66]) rfl rfl rfl ?_
        obtain ⟨p_56, G_56, H⟩ := F_bd H
        refine ev_cv (d := d + 8) (As := [.int l_3, .int l_10, .int (l_5 + 1)]) (a := 66) (p' := 410) rfl rfl rfl ly_66 rfl rfl rfl rfl rfl hnb rfl (F_203_ok (d := d + 1) (hg := (Or.inl rfl)) (hr_66_10 := hr_66_10) G_56) ?_
        refine ev_st (st' := []) rfl ?_
        have e_56 := F_203_R G_56
        exact J_199_410_ok (d := d) (Or.inl rfl) hx g_0 g_1 g_3 hnb ((congrFun (congrFun e_56 66) 2).trans hr_66_2) ((congrFun (congrFun e_56 66) 10).trans hr_66_10) H
      · refine ev_b0 (t := 410) (p' := 410) rfl rfl rfl (if_pos c_55) ?_
        exact J_199_410_ok (d := d) (Or.inl rfl) hx g_0 g_1 g_3 hnb hr_66_2 hr_66_10 H
  · refine ev_x (i := .aload_n 0) (len := 1) (p' := 370) (s' := [.ref 66]) rfl rfl (ld_a g_0) ?_
    refine ev_gr (p' := 373) (v := 115) rfl rfl rfl ly_66 rfl rfl hr_66_10 ?_
    refine ev_gc (p' := 376) (v := 136) rfl rfl rfl ly_115 rfl rfl ?_
    refine ev_x (i := .iload_n 3) (len := 1) (p' := 377) (s' := [.int l_3, .ref 136]) rfl rfl (ld_i g_3) ?_
    refine ev_x (i := .aload_n 0) (len := 1) (p' := 378) (s' := [.ref 66, .int l_3, .ref 136]) rfl rfl (ld_a g_0) ?_
    refine ev_gr (p' := 381) (v := 115) rfl rfl rfl ly_66 rfl rfl hr_66_10 ?_
    refine ev_gc (p' := 384) (v := 134) rfl rfl rfl ly_115 rfl rfl ?_
    refine ev_x (i := .iload_n 3) (len := 1) (p' := 385) (s' := [.int l_3, .ref 134, .int l_3, .ref 136]) rfl rfl (ld_i g_3) ?_
    obtain ⟨b_52, H⟩ := F_gd H
    refine ev_ga (p' := 386) (v := (gE (σ) 134 (l_3 : Int32).toNatClampNeg)) rfl rfl ly_134 rfl (gd_in b_52) rfl ?_
    obtain ⟨b_53, H⟩ := F_gd H
    refine ev_pa (j := (l_3 : Int32).toNatClampNeg) (p' := 387) rfl rfl ly_136 rfl (gd_in b_53) rfl ?_
    refine ev_x (i := .iload 6) (len := 2) (p' := 389) (s' := [.int l_6]) rfl rfl (ld_i g_6) ?_
    refine F_if H (fun c_54 H => ?_) (fun c_54 H => ?_)
    · refine ev_b0 (t := 410) (p' := 410) rfl rfl rfl (if_pos c_54) ?_
      exact J_199_410_ok (d := d) (Or.inr rfl) hx g_0 g_1 g_3 hnb hr_66_2 hr_66_10 H
    · refine ev_b0 (t := 410) (p' := 392) rfl rfl rfl (if_neg c_54) ?_
      refine ev_x (i := .aload_n 0) (len := 1) (p' := 393) (s' := [.ref 66]) rfl rfl (ld_a g_0) ?_
      refine ev_gi (p' := 396) (v := (gI σ 66 16)) rfl rfl rfl ly_66 rfl rfl rfl ?_
      refine F_if H (fun c_55 H => ?_) (fun c_55 H => ?_)
      · refine ev_b0 (t := 410) (p' := 399) rfl rfl rfl (if_neg (fun q => q c_55)) ?_
        refine ev_x (i := .aload_n 0) (len := 1) (p' := 400) (s' := [.ref 66]) rfl rfl (ld_a g_0) ?_
        refine ev_x (i := .iload_n 3) (len := 1) (p' := 401) (s' := [.int l_3, .ref 66]) rfl rfl (ld_i g_3) ?_
        refine ev_x (i := .iload 10) (len := 2) (p' := 403) (s' := [.int l_10, .int l_3, .ref 66]) rfl rfl (ld_i g_10) ?_
        refine ev_x (i := .iload 5) (len := 2) (p' := 405) (s' := [.int l_5, .int l_10, .int l_3, .ref 66]) rfl rfl (ld_i g_5) ?_
        refine ev_x (i := .iconst 1) (len := 1) (p' := 406) (s' := [.int 1, .int l_5, .int l_10, .int l_3, .ref 66]) rfl rfl rfl ?_
        refine ev_x (i := .iadd) (len := 1) (p' := 407) (s' := [.int (l_5 + 1), .int l_10, .int l_3, .ref 66]) rfl rfl rfl ?_
        obtain ⟨p_56, G_56, H⟩ := F_bd H
        refine ev_cv (d := d + 8) (As := [.int l_3, .int l_10, .int (l_5 + 1)]) (a := 66) (p' := 410) rfl rfl rfl ly_66 rfl rfl rfl rfl rfl hnb rfl (F_203_ok (d := d + 1) (hg := (Or.inr rfl)) (hr_66_10 := hr_66_10) G_56) ?_
        refine ev_st (st' := []) rfl ?_
        have e_56 := F_203_R G_56
        exact J_199_410_ok (d := d) (Or.inr rfl) hx g_0 g_1 g_3 hnb ((congrFun (congrFun e_56 66) 2).trans hr_66_2) ((congrFun (congrFun e_56 66) 10).trans hr_66_10) H
      · refine ev_b0 (t := 410) (p' := 410) rfl rfl rfl (if_pos c_55) ?_
        exact J_199_410_ok (d := d) (Or.inr rfl) hx g_0 g_1 g_3 hnb hr_66_2 hr_66_10 H
/-- GameTextModel.varItem(II)V, from 340 -/
def J_199_340 (N : Nat) (g : Nat) (x : Nat) (l_1 : Int32) (l_3 : Int32) (l_5 : Int32) (l_6 : Int32) (l_9 : Int32) (l_10 : Int32) (σ : st_S) : Option (st_S) :=
  if (gI σ 66 16) = 0 then
    (F_159 N (l_9 + 1) (σ)).bind fun p_50 =>
    (F_165 N 9 p_50.1 (p_50.2)).bind fun p_51 =>
    J_199_369 N g x l_1 l_3 l_5 l_6 l_10 (p_51)
  else
    J_199_369 N g x l_1 l_3 l_5 l_6 l_10 (σ)
set_option maxRecDepth 100000 in
theorem J_199_340_R {N : Nat} {g : Nat} {x : Nat} {l_1 : Int32} {l_3 : Int32} {l_5 : Int32} {l_6 : Int32} {l_9 : Int32} {l_10 : Int32} {σ : st_S} {p : st_S} (H : J_199_340 N g x l_1 l_3 l_5 l_6 l_9 l_10 σ = some p) : gR p = gR σ := by
  unfold J_199_340 at H
  refine F_if H (fun _ H => ?_) (fun _ H => ?_)
  · obtain ⟨p_50, G_50, H⟩ := F_bd H
    obtain ⟨p_51, G_51, H⟩ := F_bd H
    exact (((J_199_369_R H)).trans ((F_165_R G_51).trans ((F_159_R G_50).trans rfl)))
  · exact (((J_199_369_R H)).trans rfl)
set_option maxHeartbeats 4000000 in
set_option maxRecDepth 100000 in
theorem J_199_340_ok {N d : Nat} {g : Nat} (hg : g = 79 ∨ g = 115) {x : Nat} (hx : x = 67 ∨ x = 69) {l_1 : Int32} {l_3 : Int32} {l_5 : Int32} {l_6 : Int32} {l_9 : Int32} {l_10 : Int32} {σ : st_S} {lv : vz_L} {p : st_S} (g_0 : vz_g lv 0 = some (.ref 66)) (g_1 : vz_g lv 1 = some (.int l_1)) (g_3 : vz_g lv 3 = some (.int l_3)) (g_5 : vz_g lv 5 = some (.int l_5)) (g_6 : vz_g lv 6 = some (.int l_6)) (g_9 : vz_g lv 9 = some (.int l_9)) (g_10 : vz_g lv 10 = some (.int l_10)) (hnb : vz_nbL (vz_gr P0) lv = true) (hr_66_2 : gR σ 66 2 = x) (hr_66_10 : gR σ 66 10 = g) (H : J_199_340 N g x l_1 l_3 l_5 l_6 l_9 l_10 σ = some p) : vz_ev P0 (d + 9) 199 340 lv [] (hp σ) (.inl none, hp p) := by
  unfold J_199_340 at H
  refine ev_x (i := .iconst 0) (len := 1) (p' := 341) (s' := [.int 0]) rfl rfl rfl ?_
  refine ev_x (i := .istore 11) (len := 2) (p' := 343) (s' := []) (l' := vz_s1 (lv) 11 (.int 0)) rfl rfl rfl ?_
  refine ev_x (i := .aload_n 0) (len := 1) (p' := 344) (s' := [.ref 66]) rfl rfl (ld_a (vg_o (i := 11) (v := .int 0) g_0 (by decide) (Or.inl rfl))) ?_
  refine ev_gi (p' := 347) (v := (gI σ 66 16)) rfl rfl rfl ly_66 rfl rfl rfl ?_
  refine F_if H (fun c_49 H => ?_) (fun c_49 H => ?_)
  · refine ev_b0 (t := 369) (p' := 350) rfl rfl rfl (if_neg (fun q => q c_49)) ?_
    refine ev_x (i := .iload 11) (len := 2) (p' := 352) (s' := [.int 0]) rfl rfl (ld_i (vg_s (lv) 11 (.int 0))) ?_
    refine ev_b0 (t := 369) (p' := 355) rfl rfl rfl (by decide) ?_
    refine ev_x (i := .aload_n 0) (len := 1) (p' := 356) (s' := [.ref 66]) rfl rfl (ld_a (vg_o (i := 11) (v := .int 0) g_0 (by decide) (Or.inl rfl))) ?_
    refine ev_x (i := .bipush 9) (len := 2) (p' := 358) (s' := [.int 9, .ref 66]) rfl rfl rfl ?_
    refine ev_x (i := .aload_n 0) (len := 1) (p' := 359) (s' := [.ref 66, .int 9, .ref 66]) rfl rfl (ld_a (vg_o (i := 11) (v := .int 0) g_0 (by decide) (Or.inl rfl))) ?_
    refine ev_x (i := .iload 9) (len := 2) (p' := 361) (s' := [.int l_9, .ref 66, .int 9, .ref 66]) rfl rfl (ld_i (vg_o (i := 11) (v := .int 0) g_9 (by decide) (Or.inl rfl))) ?_
    refine ev_x (i := .iconst 1) (len := 1) (p' := 362) (s' := [.int 1, .int l_9, .ref 66, .int 9, .ref 66]) rfl rfl rfl ?_
    refine ev_x (i := .iadd) (len := 1) (p' := 363) (s' := [.int (l_9 + 1), .ref 66, .int 9, .ref 66]) rfl rfl rfl ?_
    obtain ⟨p_50, G_50, H⟩ := F_bd H
    refine ev_cv (d := d + 8) (As := [.int (l_9 + 1)]) (a := 66) (p' := 366) rfl rfl rfl ly_66 rfl rfl rfl rfl rfl (nb_s1 hnb rfl) rfl (F_159_ok (d := d + 6)   G_50) ?_
    refine ev_st (st' := [.int p_50.1, .int 9, .ref 66]) rfl ?_
    have e_50 := F_159_R G_50
    obtain ⟨p_51, G_51, H⟩ := F_bd H
    refine ev_cv (d := d + 8) (As := [.int 9, .int p_50.1]) (a := 66) (p' := 369) rfl rfl rfl ly_66 rfl rfl rfl rfl rfl (nb_s1 hnb rfl) rfl (F_165_ok (d := d + 7)   G_51) ?_
    refine ev_st (st' := []) rfl ?_
    have e_51 := F_165_R G_51
    exact J_199_369_ok (d := d) hg hx (vg_o (i := 11) (v := .int 0) g_0 (by decide) (Or.inl rfl)) (vg_o (i := 11) (v := .int 0) g_1 (by decide) (Or.inl rfl)) (vg_o (i := 11) (v := .int 0) g_3 (by decide) (Or.inl rfl)) (vg_o (i := 11) (v := .int 0) g_5 (by decide) (Or.inl rfl)) (vg_o (i := 11) (v := .int 0) g_6 (by decide) (Or.inl rfl)) (vg_o (i := 11) (v := .int 0) g_10 (by decide) (Or.inl rfl)) (nb_s1 hnb rfl) ((congrFun (congrFun e_51 66) 2).trans ((congrFun (congrFun e_50 66) 2).trans hr_66_2)) ((congrFun (congrFun e_51 66) 10).trans ((congrFun (congrFun e_50 66) 10).trans hr_66_10)) H
  · refine ev_b0 (t := 369) (p' := 369) rfl rfl rfl (if_pos c_49) ?_
    exact J_199_369_ok (d := d) hg hx (vg_o (i := 11) (v := .int 0) g_0 (by decide) (Or.inl rfl)) (vg_o (i := 11) (v := .int 0) g_1 (by decide) (Or.inl rfl)) (vg_o (i := 11) (v := .int 0) g_3 (by decide) (Or.inl rfl)) (vg_o (i := 11) (v := .int 0) g_5 (by decide) (Or.inl rfl)) (vg_o (i := 11) (v := .int 0) g_6 (by decide) (Or.inl rfl)) (vg_o (i := 11) (v := .int 0) g_10 (by decide) (Or.inl rfl)) (nb_s1 hnb rfl) hr_66_2 hr_66_10 H
/-- GameTextModel.varItem(II)V, from 214 -/
def J_199_214 (N : Nat) (g : Nat) (x : Nat) (l_1 : Int32) (l_3 : Int32) (l_4 : Int32) (l_5 : Int32) (l_6 : Int32) (l_7 : Int32) (l_8 : Int32) (l_9 : Int32) (σ : st_S) : Option (st_S) :=
  if (gI σ 66 16) = 0 then
    if l_4 = 0 then
      (F_202 N g l_7 (l_1 + 3) (σ)).bind fun p_39 =>
      if aB l_3 (gN p_39.2 (g + 19)) then
      (F_202 N g l_8 (l_9 + 1) (st_e (p_39.2) (g + 19) ((l_3 : Int32).toNatClampNeg) p_39.1)).bind fun p_41 =>
      if aB l_3 (gN p_41.2 (g + 20)) then
      if aB l_3 (gN p_41.2 (g + 19)) then
      if (gE (st_e (p_41.2) (g + 20) ((l_3 : Int32).toNatClampNeg) p_41.1) (g + 20) (l_3 : Int32).toNatClampNeg) < (gE (p_41.2) (g + 19) (l_3 : Int32).toNatClampNeg) then
        J_199_340 N g x l_1 l_3 l_5 l_6 l_9 (-1) (st_e (p_41.2) (g + 20) ((l_3 : Int32).toNatClampNeg) p_41.1)
      else
        if 10000 ≤ ((gE (st_e (p_41.2) (g + 20) ((l_3 : Int32).toNatClampNeg) p_41.1) (g + 20) (l_3 : Int32).toNatClampNeg) - (gE (p_41.2) (g + 19) (l_3 : Int32).toNatClampNeg)) then
          J_199_340 N g x l_1 l_3 l_5 l_6 l_9 (-1) (st_e (p_41.2) (g + 20) ((l_3 : Int32).toNatClampNeg) p_41.1)
        else
          if (gI p_41.2 66 16) = 0 then
            J_199_369 N g x l_1 l_3 l_5 l_6 (-1) (st_e (p_41.2) (g + 20) ((l_3 : Int32).toNatClampNeg) p_41.1)
          else
            J_199_369 N g x l_1 l_3 l_5 l_6 (-1) (st_e (p_41.2) (g + 20) ((l_3 : Int32).toNatClampNeg) p_41.1)
      else none
      else none
      else none
    else
      if aB l_3 (gN σ (g + 19)) then
      if aB l_3 (gN σ (g + 20)) then
      J_199_369 N g x l_1 l_3 l_5 l_6 (-1) (st_e (st_e (σ) (g + 19) ((l_3 : Int32).toNatClampNeg) 0) (g + 20) ((l_3 : Int32).toNatClampNeg) 1)
      else none
      else none
  else
    some (σ)
set_option maxRecDepth 100000 in
theorem J_199_214_R {N : Nat} {g : Nat} {x : Nat} {l_1 : Int32} {l_3 : Int32} {l_4 : Int32} {l_5 : Int32} {l_6 : Int32} {l_7 : Int32} {l_8 : Int32} {l_9 : Int32} {σ : st_S} {p : st_S} (H : J_199_214 N g x l_1 l_3 l_4 l_5 l_6 l_7 l_8 l_9 σ = some p) : gR p = gR σ := by
  unfold J_199_214 at H
  refine F_if H (fun _ H => ?_) (fun _ H => ?_)
  · refine F_if H (fun _ H => ?_) (fun _ H => ?_)
    · obtain ⟨p_39, G_39, H⟩ := F_bd H
      obtain ⟨_, H⟩ := F_gd H
      obtain ⟨p_41, G_41, H⟩ := F_bd H
      obtain ⟨_, H⟩ := F_gd H
      obtain ⟨_, H⟩ := F_gd H
      refine F_if H (fun _ H => ?_) (fun _ H => ?_)
      · exact (((J_199_340_R H)).trans ((F_202_R G_41).trans ((F_202_R G_39).trans rfl)))
      · refine F_if H (fun _ H => ?_) (fun _ H => ?_)
        · exact (((J_199_340_R H)).trans ((F_202_R G_41).trans ((F_202_R G_39).trans rfl)))
        · refine F_if H (fun _ H => ?_) (fun _ H => ?_)
          · exact (((J_199_369_R H)).trans ((F_202_R G_41).trans ((F_202_R G_39).trans rfl)))
          · exact (((J_199_369_R H)).trans ((F_202_R G_41).trans ((F_202_R G_39).trans rfl)))
    · obtain ⟨_, H⟩ := F_gd H
      obtain ⟨_, H⟩ := F_gd H
      exact (((J_199_369_R H)).trans rfl)
  · obtain rfl := Option.some.inj H
    exact rfl
set_option maxHeartbeats 4000000 in
set_option maxRecDepth 100000 in
theorem J_199_214_ok {N d : Nat} {g : Nat} (hg : g = 79 ∨ g = 115) {x : Nat} (hx : x = 67 ∨ x = 69) {l_1 : Int32} {l_3 : Int32} {l_4 : Int32} {l_5 : Int32} {l_6 : Int32} {l_7 : Int32} {l_8 : Int32} {l_9 : Int32} {σ : st_S} {lv : vz_L} {p : st_S} (g_0 : vz_g lv 0 = some (.ref 66)) (g_1 : vz_g lv 1 = some (.int l_1)) (g_3 : vz_g lv 3 = some (.int l_3)) (g_4 : vz_g lv 4 = some (.int l_4)) (g_5 : vz_g lv 5 = some (.int l_5)) (g_6 : vz_g lv 6 = some (.int l_6)) (g_7 : vz_g lv 7 = some (.int l_7)) (g_8 : vz_g lv 8 = some (.int l_8)) (g_9 : vz_g lv 9 = some (.int l_9)) (hnb : vz_nbL (vz_gr P0) lv = true) (hr_66_2 : gR σ 66 2 = x) (hr_66_10 : gR σ 66 10 = g) (H : J_199_214 N g x l_1 l_3 l_4 l_5 l_6 l_7 l_8 l_9 σ = some p) : vz_ev P0 (d + 9) 199 214 lv [] (hp σ) (.inl none, hp p) := by
  unfold J_199_214 at H
  rcases hg with rfl | rfl
  · refine ev_x (i := .iconst (-1)) (len := 1) (p' := 215) (s' := [.int (-1)]) rfl rfl rfl ?_
    refine ev_x (i := .istore 10) (len := 2) (p' := 217) (s' := []) (l' := vz_s1 (lv) 10 (.int (-1))) rfl rfl rfl ?_
    refine ev_x (i := .aload_n 0) (len := 1) (p' := 218) (s' := [.ref 66]) rfl rfl (ld_a (vg_o (i := 10) (v := .int (-1)) g_0 (by decide) (Or.inl rfl))) ?_
    refine ev_gi (p' := 221) (v := (gI σ 66 16)) rfl rfl rfl ly_66 rfl rfl rfl ?_
    refine F_if H (fun c_37 H => ?_) (fun c_37 H => ?_)
    · refine ev_b0 (t := 225) (p' := 225) rfl rfl rfl (if_pos c_37) ?_
      refine ev_x (i := .iload 4) (len := 2) (p' := 227) (s' := [.int l_4]) rfl rfl (ld_i (vg_o (i := 10) (v := .int (-1)) g_4 (by decide) (Or.inl rfl))) ?_
      refine F_if H (fun c_38 H => ?_) (fun c_38 H => ?_)
      · refine ev_b0 (t := 253) (p' := 253) rfl rfl rfl (if_pos c_38) ?_
        refine ev_x (i := .aload_n 0) (len := 1) (p' := 254) (s' := [.ref 66]) rfl rfl (ld_a (vg_o (i := 10) (v := .int (-1)) g_0 (by decide) (Or.inl rfl))) ?_
        refine ev_gr (p' := 257) (v := 79) rfl rfl rfl ly_66 rfl rfl hr_66_10 ?_
        refine ev_gc (p' := 260) (v := 98) rfl rfl rfl ly_79 rfl rfl ?_
        refine ev_x (i := .iload_n 3) (len := 1) (p' := 261) (s' := [.int l_3, .ref 98]) rfl rfl (ld_i (vg_o (i := 10) (v := .int (-1)) g_3 (by decide) (Or.inl rfl))) ?_
        refine ev_x (i := .aload_n 0) (len := 1) (p' := 262) (s' := [.ref 66, .int l_3, .ref 98]) rfl rfl (ld_a (vg_o (i := 10) (v := .int (-1)) g_0 (by decide) (Or.inl rfl))) ?_
        refine ev_x (i := .iload 7) (len := 2) (p' := 264) (s' := [.int l_7, .ref 66, .int l_3, .ref 98]) rfl rfl (ld_i (vg_o (i := 10) (v := .int (-1)) g_7 (by decide) (Or.inl rfl))) ?_
        refine ev_x (i := .iload_n 1) (len := 1) (p' := 265) (s' := [.int l_1, .int l_7, .ref 66, .int l_3, .ref 98]) rfl rfl (ld_i (vg_o (i := 10) (v := .int (-1)) g_1 (by decide) (Or.inl rfl))) ?_
        refine ev_x (i := .iconst 3) (len := 1) (p' := 266) (s' := [.int 3, .int l_1, .int l_7, .ref 66, .int l_3, .ref 98]) rfl rfl rfl ?_
        refine ev_x (i := .iadd) (len := 1) (p' := 267) (s' := [.int (l_1 + 3), .int l_7, .ref 66, .int l_3, .ref 98]) rfl rfl rfl ?_
        obtain ⟨p_39, G_39, H⟩ := F_bd H
        refine ev_cv (d := d + 8) (As := [.int l_7, .int (l_1 + 3)]) (a := 66) (p' := 270) rfl rfl rfl ly_66 rfl rfl rfl rfl rfl (nb_s1 hnb rfl) rfl (F_202_ok (d := d + 2) (hg := (Or.inl rfl)) (hr_66_10 := hr_66_10) G_39) ?_
        refine ev_st (st' := [.int p_39.1, .int l_3, .ref 98]) rfl ?_
        have e_39 := F_202_R G_39
        obtain ⟨b_40, H⟩ := F_gd H
        refine ev_pa (j := (l_3 : Int32).toNatClampNeg) (p' := 271) rfl rfl ly_98 rfl (gd_in b_40) rfl ?_
        refine ev_x (i := .aload_n 0) (len := 1) (p' := 272) (s' := [.ref 66]) rfl rfl (ld_a (vg_o (i := 10) (v := .int (-1)) g_0 (by decide) (Or.inl rfl))) ?_
        refine ev_gr (p' := 275) (v := 79) rfl rfl rfl ly_66 rfl rfl ((congrFun (congrFun e_39 66) 10).trans hr_66_10) ?_
        refine ev_gc (p' := 278) (v := 99) rfl rfl rfl ly_79 rfl rfl ?_
        refine ev_x (i := .iload_n 3) (len := 1) (p' := 279) (s' := [.int l_3, .ref 99]) rfl rfl (ld_i (vg_o (i := 10) (v := .int (-1)) g_3 (by decide) (Or.inl rfl))) ?_
        refine ev_x (i := .aload_n 0) (len := 1) (p' := 280) (s' := [.ref 66, .int l_3, .ref 99]) rfl rfl (ld_a (vg_o (i := 10) (v := .int (-1)) g_0 (by decide) (Or.inl rfl))) ?_
        refine ev_x (i := .iload 8) (len := 2) (p' := 282) (s' := [.int l_8, .ref 66, .int l_3, .ref 99]) rfl rfl (ld_i (vg_o (i := 10) (v := .int (-1)) g_8 (by decide) (Or.inl rfl))) ?_
        refine ev_x (i := .iload 9) (len := 2) (p' := 284) (s' := [.int l_9, .int l_8, .ref 66, .int l_3, .ref 99]) rfl rfl (ld_i (vg_o (i := 10) (v := .int (-1)) g_9 (by decide) (Or.inl rfl))) ?_
        refine ev_x (i := .iconst 1) (len := 1) (p' := 285) (s' := [.int 1, .int l_9, .int l_8, .ref 66, .int l_3, .ref 99]) rfl rfl rfl ?_
        refine ev_x (i := .iadd) (len := 1) (p' := 286) (s' := [.int (l_9 + 1), .int l_8, .ref 66, .int l_3, .ref 99]) rfl rfl rfl ?_
        obtain ⟨p_41, G_41, H⟩ := F_bd H
        refine ev_cv (d := d + 8) (As := [.int l_8, .int (l_9 + 1)]) (a := 66) (p' := 289) rfl rfl rfl ly_66 rfl rfl rfl rfl rfl (nb_s1 hnb rfl) rfl (F_202_ok (d := d + 2) (hg := (Or.inl rfl)) (hr_66_10 := ((congrFun (congrFun e_39 66) 10).trans hr_66_10)) G_41) ?_
        refine ev_st (st' := [.int p_41.1, .int l_3, .ref 99]) rfl ?_
        have e_41 := F_202_R G_41
        obtain ⟨b_42, H⟩ := F_gd H
        refine ev_pa (j := (l_3 : Int32).toNatClampNeg) (p' := 290) rfl rfl ly_99 rfl (gd_in b_42) rfl ?_
        refine ev_x (i := .aload_n 0) (len := 1) (p' := 291) (s' := [.ref 66]) rfl rfl (ld_a (vg_o (i := 10) (v := .int (-1)) g_0 (by decide) (Or.inl rfl))) ?_
        refine ev_gr (p' := 294) (v := 79) rfl rfl rfl ly_66 rfl rfl ((congrFun (congrFun e_41 66) 10).trans ((congrFun (congrFun e_39 66) 10).trans hr_66_10)) ?_
        refine ev_gc (p' := 297) (v := 98) rfl rfl rfl ly_79 rfl rfl ?_
        refine ev_x (i := .iload_n 3) (len := 1) (p' := 298) (s' := [.int l_3, .ref 98]) rfl rfl (ld_i (vg_o (i := 10) (v := .int (-1)) g_3 (by decide) (Or.inl rfl))) ?_
        obtain ⟨b_43, H⟩ := F_gd H
        refine ev_ga (p' := 299) (v := (gE (p_41.2) 98 (l_3 : Int32).toNatClampNeg)) rfl rfl ly_98 rfl (gd_in b_43) rfl ?_
        refine ev_x (i := .aload_n 0) (len := 1) (p' := 300) (s' := [.ref 66, .int (gE (p_41.2) 98 (l_3 : Int32).toNatClampNeg)]) rfl rfl (ld_a (vg_o (i := 10) (v := .int (-1)) g_0 (by decide) (Or.inl rfl))) ?_
        refine ev_gr (p' := 303) (v := 79) rfl rfl rfl ly_66 rfl rfl ((congrFun (congrFun e_41 66) 10).trans ((congrFun (congrFun e_39 66) 10).trans hr_66_10)) ?_
        refine ev_gc (p' := 306) (v := 99) rfl rfl rfl ly_79 rfl rfl ?_
        refine ev_x (i := .iload_n 3) (len := 1) (p' := 307) (s' := [.int l_3, .ref 99, .int (gE (p_41.2) 98 (l_3 : Int32).toNatClampNeg)]) rfl rfl (ld_i (vg_o (i := 10) (v := .int (-1)) g_3 (by decide) (Or.inl rfl))) ?_
        refine ev_ga (p' := 308) (v := (gE (st_e (p_41.2) 99 ((l_3 : Int32).toNatClampNeg) p_41.1) 99 (l_3 : Int32).toNatClampNeg)) rfl rfl ly_99 rfl (gd_in b_42) rfl ?_
        refine F_if H (fun c_44 H => ?_) (fun c_44 H => ?_)
        · refine ev_b2 (t := 340) (p' := 340) rfl rfl rfl (if_pos c_44) ?_
          exact J_199_340_ok (d := d) (Or.inl rfl) hx (vg_o (i := 10) (v := .int (-1)) g_0 (by decide) (Or.inl rfl)) (vg_o (i := 10) (v := .int (-1)) g_1 (by decide) (Or.inl rfl)) (vg_o (i := 10) (v := .int (-1)) g_3 (by decide) (Or.inl rfl)) (vg_o (i := 10) (v := .int (-1)) g_5 (by decide) (Or.inl rfl)) (vg_o (i := 10) (v := .int (-1)) g_6 (by decide) (Or.inl rfl)) (vg_o (i := 10) (v := .int (-1)) g_9 (by decide) (Or.inl rfl)) (vg_s (lv) 10 (.int (-1))) (nb_s1 hnb rfl) ((congrFun (congrFun e_41 66) 2).trans ((congrFun (congrFun e_39 66) 2).trans hr_66_2)) ((congrFun (congrFun e_41 66) 10).trans ((congrFun (congrFun e_39 66) 10).trans hr_66_10)) H
        · refine ev_b2 (t := 340) (p' := 311) rfl rfl rfl (if_neg c_44) ?_
          refine ev_x (i := .aload_n 0) (len := 1) (p' := 312) (s' := [.ref 66]) rfl rfl (ld_a (vg_o (i := 10) (v := .int (-1)) g_0 (by decide) (Or.inl rfl))) ?_
          refine ev_gr (p' := 315) (v := 79) rfl rfl rfl ly_66 rfl rfl ((congrFun (congrFun e_41 66) 10).trans ((congrFun (congrFun e_39 66) 10).trans hr_66_10)) ?_
          refine ev_gc (p' := 318) (v := 99) rfl rfl rfl ly_79 rfl rfl ?_
          refine ev_x (i := .iload_n 3) (len := 1) (p' := 319) (s' := [.int l_3, .ref 99]) rfl rfl (ld_i (vg_o (i := 10) (v := .int (-1)) g_3 (by decide) (Or.inl rfl))) ?_
          refine ev_ga (p' := 320) (v := (gE (st_e (p_41.2) 99 ((l_3 : Int32).toNatClampNeg) p_41.1) 99 (l_3 : Int32).toNatClampNeg)) rfl rfl ly_99 rfl (gd_in b_42) rfl ?_
          refine ev_x (i := .aload_n 0) (len := 1) (p' := 321) (s' := [.ref 66, .int (gE (st_e (p_41.2) 99 ((l_3 : Int32).toNatClampNeg) p_41.1) 99 (l_3 : Int32).toNatClampNeg)]) rfl rfl (ld_a (vg_o (i := 10) (v := .int (-1)) g_0 (by decide) (Or.inl rfl))) ?_
          refine ev_gr (p' := 324) (v := 79) rfl rfl rfl ly_66 rfl rfl ((congrFun (congrFun e_41 66) 10).trans ((congrFun (congrFun e_39 66) 10).trans hr_66_10)) ?_
          refine ev_gc (p' := 327) (v := 98) rfl rfl rfl ly_79 rfl rfl ?_
          refine ev_x (i := .iload_n 3) (len := 1) (p' := 328) (s' := [.int l_3, .ref 98, .int (gE (st_e (p_41.2) 99 ((l_3 : Int32).toNatClampNeg) p_41.1) 99 (l_3 : Int32).toNatClampNeg)]) rfl rfl (ld_i (vg_o (i := 10) (v := .int (-1)) g_3 (by decide) (Or.inl rfl))) ?_
          refine ev_ga (p' := 329) (v := (gE (p_41.2) 98 (l_3 : Int32).toNatClampNeg)) rfl rfl ly_98 rfl (gd_in b_43) rfl ?_
          refine ev_x (i := .isub) (len := 1) (p' := 330) (s' := [.int ((gE (st_e (p_41.2) 99 ((l_3 : Int32).toNatClampNeg) p_41.1) 99 (l_3 : Int32).toNatClampNeg) - (gE (p_41.2) 98 (l_3 : Int32).toNatClampNeg))]) rfl rfl rfl ?_
          refine ev_x (i := .sipush 10000) (len := 3) (p' := 333) (s' := [.int 10000, .int ((gE (st_e (p_41.2) 99 ((l_3 : Int32).toNatClampNeg) p_41.1) 99 (l_3 : Int32).toNatClampNeg) - (gE (p_41.2) 98 (l_3 : Int32).toNatClampNeg))]) rfl rfl rfl ?_
          refine F_if H (fun c_45 H => ?_) (fun c_45 H => ?_)
          · refine ev_b2 (t := 340) (p' := 340) rfl rfl rfl (if_pos c_45) ?_
            exact J_199_340_ok (d := d) (Or.inl rfl) hx (vg_o (i := 10) (v := .int (-1)) g_0 (by decide) (Or.inl rfl)) (vg_o (i := 10) (v := .int (-1)) g_1 (by decide) (Or.inl rfl)) (vg_o (i := 10) (v := .int (-1)) g_3 (by decide) (Or.inl rfl)) (vg_o (i := 10) (v := .int (-1)) g_5 (by decide) (Or.inl rfl)) (vg_o (i := 10) (v := .int (-1)) g_6 (by decide) (Or.inl rfl)) (vg_o (i := 10) (v := .int (-1)) g_9 (by decide) (Or.inl rfl)) (vg_s (lv) 10 (.int (-1))) (nb_s1 hnb rfl) ((congrFun (congrFun e_41 66) 2).trans ((congrFun (congrFun e_39 66) 2).trans hr_66_2)) ((congrFun (congrFun e_41 66) 10).trans ((congrFun (congrFun e_39 66) 10).trans hr_66_10)) H
          · refine ev_b2 (t := 340) (p' := 336) rfl rfl rfl (if_neg c_45) ?_
            refine ev_x (i := .iconst 1) (len := 1) (p' := 337) (s' := [.int 1]) rfl rfl rfl ?_
            refine ev_x (i := .goto 4) (len := 3) (p' := 341) (s' := [.int 1]) rfl rfl rfl ?_
            refine ev_x (i := .istore 11) (len := 2) (p' := 343) (s' := []) (l' := vz_s1 (vz_s1 (lv) 10 (.int (-1))) 11 (.int 1)) rfl rfl rfl ?_
            refine ev_x (i := .aload_n 0) (len := 1) (p' := 344) (s' := [.ref 66]) rfl rfl (ld_a (vg_o (i := 11) (v := .int 1) (vg_o (i := 10) (v := .int (-1)) g_0 (by decide) (Or.inl rfl)) (by decide) (Or.inl rfl))) ?_
            refine ev_gi (p' := 347) (v := (gI p_41.2 66 16)) rfl rfl rfl ly_66 rfl rfl rfl ?_
            refine F_if H (fun c_46 H => ?_) (fun c_46 H => ?_)
            · refine ev_b0 (t := 369) (p' := 350) rfl rfl rfl (if_neg (fun q => q c_46)) ?_
              refine ev_x (i := .iload 11) (len := 2) (p' := 352) (s' := [.int 1]) rfl rfl (ld_i (vg_s (vz_s1 (lv) 10 (.int (-1))) 11 (.int 1))) ?_
              refine ev_b0 (t := 369) (p' := 369) rfl rfl rfl (by decide) ?_
              exact J_199_369_ok (d := d) (Or.inl rfl) hx (vg_o (i := 11) (v := .int 1) (vg_o (i := 10) (v := .int (-1)) g_0 (by decide) (Or.inl rfl)) (by decide) (Or.inl rfl)) (vg_o (i := 11) (v := .int 1) (vg_o (i := 10) (v := .int (-1)) g_1 (by decide) (Or.inl rfl)) (by decide) (Or.inl rfl)) (vg_o (i := 11) (v := .int 1) (vg_o (i := 10) (v := .int (-1)) g_3 (by decide) (Or.inl rfl)) (by decide) (Or.inl rfl)) (vg_o (i := 11) (v := .int 1) (vg_o (i := 10) (v := .int (-1)) g_5 (by decide) (Or.inl rfl)) (by decide) (Or.inl rfl)) (vg_o (i := 11) (v := .int 1) (vg_o (i := 10) (v := .int (-1)) g_6 (by decide) (Or.inl rfl)) (by decide) (Or.inl rfl)) (vg_o (i := 11) (v := .int 1) (vg_s (lv) 10 (.int (-1))) (by decide) (Or.inl rfl)) (nb_s1 (nb_s1 hnb rfl) rfl) ((congrFun (congrFun e_41 66) 2).trans ((congrFun (congrFun e_39 66) 2).trans hr_66_2)) ((congrFun (congrFun e_41 66) 10).trans ((congrFun (congrFun e_39 66) 10).trans hr_66_10)) H
            · refine ev_b0 (t := 369) (p' := 369) rfl rfl rfl (if_pos c_46) ?_
              exact J_199_369_ok (d := d) (Or.inl rfl) hx (vg_o (i := 11) (v := .int 1) (vg_o (i := 10) (v := .int (-1)) g_0 (by decide) (Or.inl rfl)) (by decide) (Or.inl rfl)) (vg_o (i := 11) (v := .int 1) (vg_o (i := 10) (v := .int (-1)) g_1 (by decide) (Or.inl rfl)) (by decide) (Or.inl rfl)) (vg_o (i := 11) (v := .int 1) (vg_o (i := 10) (v := .int (-1)) g_3 (by decide) (Or.inl rfl)) (by decide) (Or.inl rfl)) (vg_o (i := 11) (v := .int 1) (vg_o (i := 10) (v := .int (-1)) g_5 (by decide) (Or.inl rfl)) (by decide) (Or.inl rfl)) (vg_o (i := 11) (v := .int 1) (vg_o (i := 10) (v := .int (-1)) g_6 (by decide) (Or.inl rfl)) (by decide) (Or.inl rfl)) (vg_o (i := 11) (v := .int 1) (vg_s (lv) 10 (.int (-1))) (by decide) (Or.inl rfl)) (nb_s1 (nb_s1 hnb rfl) rfl) ((congrFun (congrFun e_41 66) 2).trans ((congrFun (congrFun e_39 66) 2).trans hr_66_2)) ((congrFun (congrFun e_41 66) 10).trans ((congrFun (congrFun e_39 66) 10).trans hr_66_10)) H
      · refine ev_b0 (t := 253) (p' := 230) rfl rfl rfl (if_neg c_38) ?_
        refine ev_x (i := .aload_n 0) (len := 1) (p' := 231) (s' := [.ref 66]) rfl rfl (ld_a (vg_o (i := 10) (v := .int (-1)) g_0 (by decide) (Or.inl rfl))) ?_
        refine ev_gr (p' := 234) (v := 79) rfl rfl rfl ly_66 rfl rfl hr_66_10 ?_
        refine ev_gc (p' := 237) (v := 98) rfl rfl rfl ly_79 rfl rfl ?_
        refine ev_x (i := .iload_n 3) (len := 1) (p' := 238) (s' := [.int l_3, .ref 98]) rfl rfl (ld_i (vg_o (i := 10) (v := .int (-1)) g_3 (by decide) (Or.inl rfl))) ?_
        refine ev_x (i := .iconst 0) (len := 1) (p' := 239) (s' := [.int 0, .int l_3, .ref 98]) rfl rfl rfl ?_
        obtain ⟨b_47, H⟩ := F_gd H
        refine ev_pa (j := (l_3 : Int32).toNatClampNeg) (p' := 240) rfl rfl ly_98 rfl (gd_in b_47) rfl ?_
        refine ev_x (i := .aload_n 0) (len := 1) (p' := 241) (s' := [.ref 66]) rfl rfl (ld_a (vg_o (i := 10) (v := .int (-1)) g_0 (by decide) (Or.inl rfl))) ?_
        refine ev_gr (p' := 244) (v := 79) rfl rfl rfl ly_66 rfl rfl hr_66_10 ?_
        refine ev_gc (p' := 247) (v := 99) rfl rfl rfl ly_79 rfl rfl ?_
        refine ev_x (i := .iload_n 3) (len := 1) (p' := 248) (s' := [.int l_3, .ref 99]) rfl rfl (ld_i (vg_o (i := 10) (v := .int (-1)) g_3 (by decide) (Or.inl rfl))) ?_
        refine ev_x (i := .iconst 1) (len := 1) (p' := 249) (s' := [.int 1, .int l_3, .ref 99]) rfl rfl rfl ?_
        obtain ⟨b_48, H⟩ := F_gd H
        refine ev_pa (j := (l_3 : Int32).toNatClampNeg) (p' := 250) rfl rfl ly_99 rfl (gd_in b_48) rfl ?_
        refine ev_x (i := .goto 119) (len := 3) (p' := 369) (s' := []) rfl rfl rfl ?_
        exact J_199_369_ok (d := d) (Or.inl rfl) hx (vg_o (i := 10) (v := .int (-1)) g_0 (by decide) (Or.inl rfl)) (vg_o (i := 10) (v := .int (-1)) g_1 (by decide) (Or.inl rfl)) (vg_o (i := 10) (v := .int (-1)) g_3 (by decide) (Or.inl rfl)) (vg_o (i := 10) (v := .int (-1)) g_5 (by decide) (Or.inl rfl)) (vg_o (i := 10) (v := .int (-1)) g_6 (by decide) (Or.inl rfl)) (vg_s (lv) 10 (.int (-1))) (nb_s1 hnb rfl) hr_66_2 hr_66_10 H
    · refine ev_b0 (t := 225) (p' := 224) rfl rfl rfl (if_neg c_37) ?_
      obtain rfl := Option.some.inj H
      exact ev_vret rfl rfl rfl
  · refine ev_x (i := .iconst (-1)) (len := 1) (p' := 215) (s' := [.int (-1)]) rfl rfl rfl ?_
    refine ev_x (i := .istore 10) (len := 2) (p' := 217) (s' := []) (l' := vz_s1 (lv) 10 (.int (-1))) rfl rfl rfl ?_
    refine ev_x (i := .aload_n 0) (len := 1) (p' := 218) (s' := [.ref 66]) rfl rfl (ld_a (vg_o (i := 10) (v := .int (-1)) g_0 (by decide) (Or.inl rfl))) ?_
    refine ev_gi (p' := 221) (v := (gI σ 66 16)) rfl rfl rfl ly_66 rfl rfl rfl ?_
    refine F_if H (fun c_37 H => ?_) (fun c_37 H => ?_)
    · refine ev_b0 (t := 225) (p' := 225) rfl rfl rfl (if_pos c_37) ?_
      refine ev_x (i := .iload 4) (len := 2) (p' := 227) (s' := [.int l_4]) rfl rfl (ld_i (vg_o (i := 10) (v := .int (-1)) g_4 (by decide) (Or.inl rfl))) ?_
      refine F_if H (fun c_38 H => ?_) (fun c_38 H => ?_)
      · refine ev_b0 (t := 253) (p' := 253) rfl rfl rfl (if_pos c_38) ?_
        refine ev_x (i := .aload_n 0) (len := 1) (p' := 254) (s' := [.ref 66]) rfl rfl (ld_a (vg_o (i := 10) (v := .int (-1)) g_0 (by decide) (Or.inl rfl))) ?_
        refine ev_gr (p' := 257) (v := 115) rfl rfl rfl ly_66 rfl rfl hr_66_10 ?_
        refine ev_gc (p' := 260) (v := 134) rfl rfl rfl ly_115 rfl rfl ?_
        refine ev_x (i := .iload_n 3) (len := 1) (p' := 261) (s' := [.int l_3, .ref 134]) rfl rfl (ld_i (vg_o (i := 10) (v := .int (-1)) g_3 (by decide) (Or.inl rfl))) ?_
        refine ev_x (i := .aload_n 0) (len := 1) (p' := 262) (s' := [.ref 66, .int l_3, .ref 134]) rfl rfl (ld_a (vg_o (i := 10) (v := .int (-1)) g_0 (by decide) (Or.inl rfl))) ?_
        refine ev_x (i := .iload 7) (len := 2) (p' := 264) (s' := [.int l_7, .ref 66, .int l_3, .ref 134]) rfl rfl (ld_i (vg_o (i := 10) (v := .int (-1)) g_7 (by decide) (Or.inl rfl))) ?_
        refine ev_x (i := .iload_n 1) (len := 1) (p' := 265) (s' := [.int l_1, .int l_7, .ref 66, .int l_3, .ref 134]) rfl rfl (ld_i (vg_o (i := 10) (v := .int (-1)) g_1 (by decide) (Or.inl rfl))) ?_
        refine ev_x (i := .iconst 3) (len := 1) (p' := 266) (s' := [.int 3, .int l_1, .int l_7, .ref 66, .int l_3, .ref 134]) rfl rfl rfl ?_
        refine ev_x (i := .iadd) (len := 1) (p' := 267) (s' := [.int (l_1 + 3), .int l_7, .ref 66, .int l_3, .ref 134]) rfl rfl rfl ?_
        obtain ⟨p_39, G_39, H⟩ := F_bd H
        refine ev_cv (d := d + 8) (As := [.int l_7, .int (l_1 + 3)]) (a := 66) (p' := 270) rfl rfl rfl ly_66 rfl rfl rfl rfl rfl (nb_s1 hnb rfl) rfl (F_202_ok (d := d + 2) (hg := (Or.inr rfl)) (hr_66_10 := hr_66_10) G_39) ?_
        refine ev_st (st' := [.int p_39.1, .int l_3, .ref 134]) rfl ?_
        have e_39 := F_202_R G_39
        obtain ⟨b_40, H⟩ := F_gd H
        refine ev_pa (j := (l_3 : Int32).toNatClampNeg) (p' := 271) rfl rfl ly_134 rfl (gd_in b_40) rfl ?_
        refine ev_x (i := .aload_n 0) (len := 1) (p' := 272) (s' := [.ref 66]) rfl rfl (ld_a (vg_o (i := 10) (v := .int (-1)) g_0 (by decide) (Or.inl rfl))) ?_
        refine ev_gr (p' := 275) (v := 115) rfl rfl rfl ly_66 rfl rfl ((congrFun (congrFun e_39 66) 10).trans hr_66_10) ?_
        refine ev_gc (p' := 278) (v := 135) rfl rfl rfl ly_115 rfl rfl ?_
        refine ev_x (i := .iload_n 3) (len := 1) (p' := 279) (s' := [.int l_3, .ref 135]) rfl rfl (ld_i (vg_o (i := 10) (v := .int (-1)) g_3 (by decide) (Or.inl rfl))) ?_
        refine ev_x (i := .aload_n 0) (len := 1) (p' := 280) (s' := [.ref 66, .int l_3, .ref 135]) rfl rfl (ld_a (vg_o (i := 10) (v := .int (-1)) g_0 (by decide) (Or.inl rfl))) ?_
        refine ev_x (i := .iload 8) (len := 2) (p' := 282) (s' := [.int l_8, .ref 66, .int l_3, .ref 135]) rfl rfl (ld_i (vg_o (i := 10) (v := .int (-1)) g_8 (by decide) (Or.inl rfl))) ?_
        refine ev_x (i := .iload 9) (len := 2) (p' := 284) (s' := [.int l_9, .int l_8, .ref 66, .int l_3, .ref 135]) rfl rfl (ld_i (vg_o (i := 10) (v := .int (-1)) g_9 (by decide) (Or.inl rfl))) ?_
        refine ev_x (i := .iconst 1) (len := 1) (p' := 285) (s' := [.int 1, .int l_9, .int l_8, .ref 66, .int l_3, .ref 135]) rfl rfl rfl ?_
        refine ev_x (i := .iadd) (len := 1) (p' := 286) (s' := [.int (l_9 + 1), .int l_8, .ref 66, .int l_3, .ref 135]) rfl rfl rfl ?_
        obtain ⟨p_41, G_41, H⟩ := F_bd H
        refine ev_cv (d := d + 8) (As := [.int l_8, .int (l_9 + 1)]) (a := 66) (p' := 289) rfl rfl rfl ly_66 rfl rfl rfl rfl rfl (nb_s1 hnb rfl) rfl (F_202_ok (d := d + 2) (hg := (Or.inr rfl)) (hr_66_10 := ((congrFun (congrFun e_39 66) 10).trans hr_66_10)) G_41) ?_
        refine ev_st (st' := [.int p_41.1, .int l_3, .ref 135]) rfl ?_
        have e_41 := F_202_R G_41
        obtain ⟨b_42, H⟩ := F_gd H
        refine ev_pa (j := (l_3 : Int32).toNatClampNeg) (p' := 290) rfl rfl ly_135 rfl (gd_in b_42) rfl ?_
        refine ev_x (i := .aload_n 0) (len := 1) (p' := 291) (s' := [.ref 66]) rfl rfl (ld_a (vg_o (i := 10) (v := .int (-1)) g_0 (by decide) (Or.inl rfl))) ?_
        refine ev_gr (p' := 294) (v := 115) rfl rfl rfl ly_66 rfl rfl ((congrFun (congrFun e_41 66) 10).trans ((congrFun (congrFun e_39 66) 10).trans hr_66_10)) ?_
        refine ev_gc (p' := 297) (v := 134) rfl rfl rfl ly_115 rfl rfl ?_
        refine ev_x (i := .iload_n 3) (len := 1) (p' := 298) (s' := [.int l_3, .ref 134]) rfl rfl (ld_i (vg_o (i := 10) (v := .int (-1)) g_3 (by decide) (Or.inl rfl))) ?_
        obtain ⟨b_43, H⟩ := F_gd H
        refine ev_ga (p' := 299) (v := (gE (p_41.2) 134 (l_3 : Int32).toNatClampNeg)) rfl rfl ly_134 rfl (gd_in b_43) rfl ?_
        refine ev_x (i := .aload_n 0) (len := 1) (p' := 300) (s' := [.ref 66, .int (gE (p_41.2) 134 (l_3 : Int32).toNatClampNeg)]) rfl rfl (ld_a (vg_o (i := 10) (v := .int (-1)) g_0 (by decide) (Or.inl rfl))) ?_
        refine ev_gr (p' := 303) (v := 115) rfl rfl rfl ly_66 rfl rfl ((congrFun (congrFun e_41 66) 10).trans ((congrFun (congrFun e_39 66) 10).trans hr_66_10)) ?_
        refine ev_gc (p' := 306) (v := 135) rfl rfl rfl ly_115 rfl rfl ?_
        refine ev_x (i := .iload_n 3) (len := 1) (p' := 307) (s' := [.int l_3, .ref 135, .int (gE (p_41.2) 134 (l_3 : Int32).toNatClampNeg)]) rfl rfl (ld_i (vg_o (i := 10) (v := .int (-1)) g_3 (by decide) (Or.inl rfl))) ?_
        refine ev_ga (p' := 308) (v := (gE (st_e (p_41.2) 135 ((l_3 : Int32).toNatClampNeg) p_41.1) 135 (l_3 : Int32).toNatClampNeg)) rfl rfl ly_135 rfl (gd_in b_42) rfl ?_
        refine F_if H (fun c_44 H => ?_) (fun c_44 H => ?_)
        · refine ev_b2 (t := 340) (p' := 340) rfl rfl rfl (if_pos c_44) ?_
          exact J_199_340_ok (d := d) (Or.inr rfl) hx (vg_o (i := 10) (v := .int (-1)) g_0 (by decide) (Or.inl rfl)) (vg_o (i := 10) (v := .int (-1)) g_1 (by decide) (Or.inl rfl)) (vg_o (i := 10) (v := .int (-1)) g_3 (by decide) (Or.inl rfl)) (vg_o (i := 10) (v := .int (-1)) g_5 (by decide) (Or.inl rfl)) (vg_o (i := 10) (v := .int (-1)) g_6 (by decide) (Or.inl rfl)) (vg_o (i := 10) (v := .int (-1)) g_9 (by decide) (Or.inl rfl)) (vg_s (lv) 10 (.int (-1))) (nb_s1 hnb rfl) ((congrFun (congrFun e_41 66) 2).trans ((congrFun (congrFun e_39 66) 2).trans hr_66_2)) ((congrFun (congrFun e_41 66) 10).trans ((congrFun (congrFun e_39 66) 10).trans hr_66_10)) H
        · refine ev_b2 (t := 340) (p' := 311) rfl rfl rfl (if_neg c_44) ?_
          refine ev_x (i := .aload_n 0) (len := 1) (p' := 312) (s' := [.ref 66]) rfl rfl (ld_a (vg_o (i := 10) (v := .int (-1)) g_0 (by decide) (Or.inl rfl))) ?_
          refine ev_gr (p' := 315) (v := 115) rfl rfl rfl ly_66 rfl rfl ((congrFun (congrFun e_41 66) 10).trans ((congrFun (congrFun e_39 66) 10).trans hr_66_10)) ?_
          refine ev_gc (p' := 318) (v := 135) rfl rfl rfl ly_115 rfl rfl ?_
          refine ev_x (i := .iload_n 3) (len := 1) (p' := 319) (s' := [.int l_3, .ref 135]) rfl rfl (ld_i (vg_o (i := 10) (v := .int (-1)) g_3 (by decide) (Or.inl rfl))) ?_
          refine ev_ga (p' := 320) (v := (gE (st_e (p_41.2) 135 ((l_3 : Int32).toNatClampNeg) p_41.1) 135 (l_3 : Int32).toNatClampNeg)) rfl rfl ly_135 rfl (gd_in b_42) rfl ?_
          refine ev_x (i := .aload_n 0) (len := 1) (p' := 321) (s' := [.ref 66, .int (gE (st_e (p_41.2) 135 ((l_3 : Int32).toNatClampNeg) p_41.1) 135 (l_3 : Int32).toNatClampNeg)]) rfl rfl (ld_a (vg_o (i := 10) (v := .int (-1)) g_0 (by decide) (Or.inl rfl))) ?_
          refine ev_gr (p' := 324) (v := 115) rfl rfl rfl ly_66 rfl rfl ((congrFun (congrFun e_41 66) 10).trans ((congrFun (congrFun e_39 66) 10).trans hr_66_10)) ?_
          refine ev_gc (p' := 327) (v := 134) rfl rfl rfl ly_115 rfl rfl ?_
          refine ev_x (i := .iload_n 3) (len := 1) (p' := 328) (s' := [.int l_3, .ref 134, .int (gE (st_e (p_41.2) 135 ((l_3 : Int32).toNatClampNeg) p_41.1) 135 (l_3 : Int32).toNatClampNeg)]) rfl rfl (ld_i (vg_o (i := 10) (v := .int (-1)) g_3 (by decide) (Or.inl rfl))) ?_
          refine ev_ga (p' := 329) (v := (gE (p_41.2) 134 (l_3 : Int32).toNatClampNeg)) rfl rfl ly_134 rfl (gd_in b_43) rfl ?_
          refine ev_x (i := .isub) (len := 1) (p' := 330) (s' := [.int ((gE (st_e (p_41.2) 135 ((l_3 : Int32).toNatClampNeg) p_41.1) 135 (l_3 : Int32).toNatClampNeg) - (gE (p_41.2) 134 (l_3 : Int32).toNatClampNeg))]) rfl rfl rfl ?_
          refine ev_x (i := .sipush 10000) (len := 3) (p' := 333) (s' := [.int 10000, .int ((gE (st_e (p_41.2) 135 ((l_3 : Int32).toNatClampNeg) p_41.1) 135 (l_3 : Int32).toNatClampNeg) - (gE (p_41.2) 134 (l_3 : Int32).toNatClampNeg))]) rfl rfl rfl ?_
          refine F_if H (fun c_45 H => ?_) (fun c_45 H => ?_)
          · refine ev_b2 (t := 340) (p' := 340) rfl rfl rfl (if_pos c_45) ?_
            exact J_199_340_ok (d := d) (Or.inr rfl) hx (vg_o (i := 10) (v := .int (-1)) g_0 (by decide) (Or.inl rfl)) (vg_o (i := 10) (v := .int (-1)) g_1 (by decide) (Or.inl rfl)) (vg_o (i := 10) (v := .int (-1)) g_3 (by decide) (Or.inl rfl)) (vg_o (i := 10) (v := .int (-1)) g_5 (by decide) (Or.inl rfl)) (vg_o (i := 10) (v := .int (-1)) g_6 (by decide) (Or.inl rfl)) (vg_o (i := 10) (v := .int (-1)) g_9 (by decide) (Or.inl rfl)) (vg_s (lv) 10 (.int (-1))) (nb_s1 hnb rfl) ((congrFun (congrFun e_41 66) 2).trans ((congrFun (congrFun e_39 66) 2).trans hr_66_2)) ((congrFun (congrFun e_41 66) 10).trans ((congrFun (congrFun e_39 66) 10).trans hr_66_10)) H
          · refine ev_b2 (t := 340) (p' := 336) rfl rfl rfl (if_neg c_45) ?_
            refine ev_x (i := .iconst 1) (len := 1) (p' := 337) (s' := [.int 1]) rfl rfl rfl ?_
            refine ev_x (i := .goto 4) (len := 3) (p' := 341) (s' := [.int 1]) rfl rfl rfl ?_
            refine ev_x (i := .istore 11) (len := 2) (p' := 343) (s' := []) (l' := vz_s1 (vz_s1 (lv) 10 (.int (-1))) 11 (.int 1)) rfl rfl rfl ?_
            refine ev_x (i := .aload_n 0) (len := 1) (p' := 344) (s' := [.ref 66]) rfl rfl (ld_a (vg_o (i := 11) (v := .int 1) (vg_o (i := 10) (v := .int (-1)) g_0 (by decide) (Or.inl rfl)) (by decide) (Or.inl rfl))) ?_
            refine ev_gi (p' := 347) (v := (gI p_41.2 66 16)) rfl rfl rfl ly_66 rfl rfl rfl ?_
            refine F_if H (fun c_46 H => ?_) (fun c_46 H => ?_)
            · refine ev_b0 (t := 369) (p' := 350) rfl rfl rfl (if_neg (fun q => q c_46)) ?_
              refine ev_x (i := .iload 11) (len := 2) (p' := 352) (s' := [.int 1]) rfl rfl (ld_i (vg_s (vz_s1 (lv) 10 (.int (-1))) 11 (.int 1))) ?_
              refine ev_b0 (t := 369) (p' := 369) rfl rfl rfl (by decide) ?_
              exact J_199_369_ok (d := d) (Or.inr rfl) hx (vg_o (i := 11) (v := .int 1) (vg_o (i := 10) (v := .int (-1)) g_0 (by decide) (Or.inl rfl)) (by decide) (Or.inl rfl)) (vg_o (i := 11) (v := .int 1) (vg_o (i := 10) (v := .int (-1)) g_1 (by decide) (Or.inl rfl)) (by decide) (Or.inl rfl)) (vg_o (i := 11) (v := .int 1) (vg_o (i := 10) (v := .int (-1)) g_3 (by decide) (Or.inl rfl)) (by decide) (Or.inl rfl)) (vg_o (i := 11) (v := .int 1) (vg_o (i := 10) (v := .int (-1)) g_5 (by decide) (Or.inl rfl)) (by decide) (Or.inl rfl)) (vg_o (i := 11) (v := .int 1) (vg_o (i := 10) (v := .int (-1)) g_6 (by decide) (Or.inl rfl)) (by decide) (Or.inl rfl)) (vg_o (i := 11) (v := .int 1) (vg_s (lv) 10 (.int (-1))) (by decide) (Or.inl rfl)) (nb_s1 (nb_s1 hnb rfl) rfl) ((congrFun (congrFun e_41 66) 2).trans ((congrFun (congrFun e_39 66) 2).trans hr_66_2)) ((congrFun (congrFun e_41 66) 10).trans ((congrFun (congrFun e_39 66) 10).trans hr_66_10)) H
            · refine ev_b0 (t := 369) (p' := 369) rfl rfl rfl (if_pos c_46) ?_
              exact J_199_369_ok (d := d) (Or.inr rfl) hx (vg_o (i := 11) (v := .int 1) (vg_o (i := 10) (v := .int (-1)) g_0 (by decide) (Or.inl rfl)) (by decide) (Or.inl rfl)) (vg_o (i := 11) (v := .int 1) (vg_o (i := 10) (v := .int (-1)) g_1 (by decide) (Or.inl rfl)) (by decide) (Or.inl rfl)) (vg_o (i := 11) (v := .int 1) (vg_o (i := 10) (v := .int (-1)) g_3 (by decide) (Or.inl rfl)) (by decide) (Or.inl rfl)) (vg_o (i := 11) (v := .int 1) (vg_o (i := 10) (v := .int (-1)) g_5 (by decide) (Or.inl rfl)) (by decide) (Or.inl rfl)) (vg_o (i := 11) (v := .int 1) (vg_o (i := 10) (v := .int (-1)) g_6 (by decide) (Or.inl rfl)) (by decide) (Or.inl rfl)) (vg_o (i := 11) (v := .int 1) (vg_s (lv) 10 (.int (-1))) (by decide) (Or.inl rfl)) (nb_s1 (nb_s1 hnb rfl) rfl) ((congrFun (congrFun e_41 66) 2).trans ((congrFun (congrFun e_39 66) 2).trans hr_66_2)) ((congrFun (congrFun e_41 66) 10).trans ((congrFun (congrFun e_39 66) 10).trans hr_66_10)) H
      · refine ev_b0 (t := 253) (p' := 230) rfl rfl rfl (if_neg c_38) ?_
        refine ev_x (i := .aload_n 0) (len := 1) (p' := 231) (s' := [.ref 66]) rfl rfl (ld_a (vg_o (i := 10) (v := .int (-1)) g_0 (by decide) (Or.inl rfl))) ?_
        refine ev_gr (p' := 234) (v := 115) rfl rfl rfl ly_66 rfl rfl hr_66_10 ?_
        refine ev_gc (p' := 237) (v := 134) rfl rfl rfl ly_115 rfl rfl ?_
        refine ev_x (i := .iload_n 3) (len := 1) (p' := 238) (s' := [.int l_3, .ref 134]) rfl rfl (ld_i (vg_o (i := 10) (v := .int (-1)) g_3 (by decide) (Or.inl rfl))) ?_
        refine ev_x (i := .iconst 0) (len := 1) (p' := 239) (s' := [.int 0, .int l_3, .ref 134]) rfl rfl rfl ?_
        obtain ⟨b_47, H⟩ := F_gd H
        refine ev_pa (j := (l_3 : Int32).toNatClampNeg) (p' := 240) rfl rfl ly_134 rfl (gd_in b_47) rfl ?_
        refine ev_x (i := .aload_n 0) (len := 1) (p' := 241) (s' := [.ref 66]) rfl rfl (ld_a (vg_o (i := 10) (v := .int (-1)) g_0 (by decide) (Or.inl rfl))) ?_
        refine ev_gr (p' := 244) (v := 115) rfl rfl rfl ly_66 rfl rfl hr_66_10 ?_
        refine ev_gc (p' := 247) (v := 135) rfl rfl rfl ly_115 rfl rfl ?_
        refine ev_x (i := .iload_n 3) (len := 1) (p' := 248) (s' := [.int l_3, .ref 135]) rfl rfl (ld_i (vg_o (i := 10) (v := .int (-1)) g_3 (by decide) (Or.inl rfl))) ?_
        refine ev_x (i := .iconst 1) (len := 1) (p' := 249) (s' := [.int 1, .int l_3, .ref 135]) rfl rfl rfl ?_
        obtain ⟨b_48, H⟩ := F_gd H
        refine ev_pa (j := (l_3 : Int32).toNatClampNeg) (p' := 250) rfl rfl ly_135 rfl (gd_in b_48) rfl ?_
        refine ev_x (i := .goto 119) (len := 3) (p' := 369) (s' := []) rfl rfl rfl ?_
        exact J_199_369_ok (d := d) (Or.inr rfl) hx (vg_o (i := 10) (v := .int (-1)) g_0 (by decide) (Or.inl rfl)) (vg_o (i := 10) (v := .int (-1)) g_1 (by decide) (Or.inl rfl)) (vg_o (i := 10) (v := .int (-1)) g_3 (by decide) (Or.inl rfl)) (vg_o (i := 10) (v := .int (-1)) g_5 (by decide) (Or.inl rfl)) (vg_o (i := 10) (v := .int (-1)) g_6 (by decide) (Or.inl rfl)) (vg_s (lv) 10 (.int (-1))) (nb_s1 hnb rfl) hr_66_2 hr_66_10 H
    · refine ev_b0 (t := 225) (p' := 224) rfl rfl rfl (if_neg c_37) ?_
      obtain rfl := Option.some.inj H
      exact ev_vret rfl rfl rfl
/-- GameTextModel.varItem(II)V, from 187 -/
def J_199_187 (N : Nat) (g : Nat) (x : Nat) (l_1 : Int32) (l_2 : Int32) (l_3 : Int32) (l_4 : Int32) (l_5 : Int32) (l_6 : Int32) (l_7 : Int32) (l_8 : Int32) (l_9 : Int32) (σ : st_S) : Option (st_S) :=
  if l_6 = 0 then
    J_199_214 N g x l_1 l_3 l_4 l_5 l_6 l_7 l_8 l_9 (σ)
  else
    if (gI σ 66 16) = 0 then
      (F_201 N g x (l_5 + 1) l_2 l_4 1 (σ)).bind fun p_24 =>
      if (gI p_24.2 66 16) = 0 then
        if l_4 = 0 then
          (F_202 N g l_7 (l_1 + 3) (p_24.2)).bind fun p_27 =>
          if aB l_3 (gN p_27.2 (g + 19)) then
          (F_202 N g l_8 (l_9 + 1) (st_e (p_27.2) (g + 19) ((l_3 : Int32).toNatClampNeg) p_27.1)).bind fun p_29 =>
          if aB l_3 (gN p_29.2 (g + 20)) then
          if aB l_3 (gN p_29.2 (g + 19)) then
          if (gE (st_e (p_29.2) (g + 20) ((l_3 : Int32).toNatClampNeg) p_29.1) (g + 20) (l_3 : Int32).toNatClampNeg) < (gE (p_29.2) (g + 19) (l_3 : Int32).toNatClampNeg) then
            J_199_340 N g x l_1 l_3 l_5 l_6 l_9 p_24.1 (st_e (p_29.2) (g + 20) ((l_3 : Int32).toNatClampNeg) p_29.1)
          else
            if 10000 ≤ ((gE (st_e (p_29.2) (g + 20) ((l_3 : Int32).toNatClampNeg) p_29.1) (g + 20) (l_3 : Int32).toNatClampNeg) - (gE (p_29.2) (g + 19) (l_3 : Int32).toNatClampNeg)) then
              J_199_340 N g x l_1 l_3 l_5 l_6 l_9 p_24.1 (st_e (p_29.2) (g + 20) ((l_3 : Int32).toNatClampNeg) p_29.1)
            else
              if (gI p_29.2 66 16) = 0 then
                J_199_369 N g x l_1 l_3 l_5 l_6 p_24.1 (st_e (p_29.2) (g + 20) ((l_3 : Int32).toNatClampNeg) p_29.1)
              else
                J_199_369 N g x l_1 l_3 l_5 l_6 p_24.1 (st_e (p_29.2) (g + 20) ((l_3 : Int32).toNatClampNeg) p_29.1)
          else none
          else none
          else none
        else
          if aB l_3 (gN p_24.2 (g + 19)) then
          if aB l_3 (gN p_24.2 (g + 20)) then
          J_199_369 N g x l_1 l_3 l_5 l_6 p_24.1 (st_e (st_e (p_24.2) (g + 19) ((l_3 : Int32).toNatClampNeg) 0) (g + 20) ((l_3 : Int32).toNatClampNeg) 1)
          else none
          else none
      else
        some (p_24.2)
    else
      J_199_214 N g x l_1 l_3 l_4 l_5 l_6 l_7 l_8 l_9 (σ)
set_option maxRecDepth 100000 in
theorem J_199_187_R {N : Nat} {g : Nat} {x : Nat} {l_1 : Int32} {l_2 : Int32} {l_3 : Int32} {l_4 : Int32} {l_5 : Int32} {l_6 : Int32} {l_7 : Int32} {l_8 : Int32} {l_9 : Int32} {σ : st_S} {p : st_S} (H : J_199_187 N g x l_1 l_2 l_3 l_4 l_5 l_6 l_7 l_8 l_9 σ = some p) : gR p = gR σ := by
  unfold J_199_187 at H
  refine F_if H (fun _ H => ?_) (fun _ H => ?_)
  · exact (((J_199_214_R H)).trans rfl)
  · refine F_if H (fun _ H => ?_) (fun _ H => ?_)
    · obtain ⟨p_24, G_24, H⟩ := F_bd H
      refine F_if H (fun _ H => ?_) (fun _ H => ?_)
      · refine F_if H (fun _ H => ?_) (fun _ H => ?_)
        · obtain ⟨p_27, G_27, H⟩ := F_bd H
          obtain ⟨_, H⟩ := F_gd H
          obtain ⟨p_29, G_29, H⟩ := F_bd H
          obtain ⟨_, H⟩ := F_gd H
          obtain ⟨_, H⟩ := F_gd H
          refine F_if H (fun _ H => ?_) (fun _ H => ?_)
          · exact (((J_199_340_R H)).trans ((F_202_R G_29).trans ((F_202_R G_27).trans ((F_201_R G_24).trans rfl))))
          · refine F_if H (fun _ H => ?_) (fun _ H => ?_)
            · exact (((J_199_340_R H)).trans ((F_202_R G_29).trans ((F_202_R G_27).trans ((F_201_R G_24).trans rfl))))
            · refine F_if H (fun _ H => ?_) (fun _ H => ?_)
              · exact (((J_199_369_R H)).trans ((F_202_R G_29).trans ((F_202_R G_27).trans ((F_201_R G_24).trans rfl))))
              · exact (((J_199_369_R H)).trans ((F_202_R G_29).trans ((F_202_R G_27).trans ((F_201_R G_24).trans rfl))))
        · obtain ⟨_, H⟩ := F_gd H
          obtain ⟨_, H⟩ := F_gd H
          exact (((J_199_369_R H)).trans ((F_201_R G_24).trans rfl))
      · obtain rfl := Option.some.inj H
        exact ((F_201_R G_24).trans rfl)
    · exact (((J_199_214_R H)).trans rfl)
set_option maxHeartbeats 4000000 in
set_option maxRecDepth 100000 in
theorem J_199_187_ok {N d : Nat} {g : Nat} (hg : g = 79 ∨ g = 115) {x : Nat} (hx : x = 67 ∨ x = 69) {l_1 : Int32} {l_2 : Int32} {l_3 : Int32} {l_4 : Int32} {l_5 : Int32} {l_6 : Int32} {l_7 : Int32} {l_8 : Int32} {l_9 : Int32} {σ : st_S} {lv : vz_L} {p : st_S} (g_0 : vz_g lv 0 = some (.ref 66)) (g_1 : vz_g lv 1 = some (.int l_1)) (g_2 : vz_g lv 2 = some (.int l_2)) (g_3 : vz_g lv 3 = some (.int l_3)) (g_4 : vz_g lv 4 = some (.int l_4)) (g_5 : vz_g lv 5 = some (.int l_5)) (g_6 : vz_g lv 6 = some (.int l_6)) (g_7 : vz_g lv 7 = some (.int l_7)) (g_8 : vz_g lv 8 = some (.int l_8)) (g_9 : vz_g lv 9 = some (.int l_9)) (hnb : vz_nbL (vz_gr P0) lv = true) (hr_66_2 : gR σ 66 2 = x) (hr_66_10 : gR σ 66 10 = g) (H : J_199_187 N g x l_1 l_2 l_3 l_4 l_5 l_6 l_7 l_8 l_9 σ = some p) : vz_ev P0 (d + 9) 199 187 lv [] (hp σ) (.inl none, hp p) := by
  unfold J_199_187 at H
  rcases hg with rfl | rfl
  · refine ev_x (i := .iload 6) (len := 2) (p' := 189) (s' := [.int l_6]) rfl rfl (ld_i g_6) ?_
    refine F_if H (fun c_22 H => ?_) (fun c_22 H => ?_)
    · refine ev_b0 (t := 214) (p' := 214) rfl rfl rfl (if_pos c_22) ?_
      exact J_199_214_ok (d := d) (Or.inl rfl) hx g_0 g_1 g_3 g_4 g_5 g_6 g_7 g_8 g_9 hnb hr_66_2 hr_66_10 H
    · refine ev_b0 (t := 214) (p' := 192) rfl rfl rfl (if_neg c_22) ?_
      refine ev_x (i := .aload_n 0) (len := 1) (p' := 193) (s' := [.ref 66]) rfl rfl (ld_a g_0) ?_
      refine ev_gi (p' := 196) (v := (gI σ 66 16)) rfl rfl rfl ly_66 rfl rfl rfl ?_
      refine F_if H (fun c_23 H => ?_) (fun c_23 H => ?_)
      · refine ev_b0 (t := 214) (p' := 199) rfl rfl rfl (if_neg (fun q => q c_23)) ?_
        refine ev_x (i := .aload_n 0) (len := 1) (p' := 200) (s' := [.ref 66]) rfl rfl (ld_a g_0) ?_
        refine ev_x (i := .iload 5) (len := 2) (p' := 202) (s' := [.int l_5, .ref 66]) rfl rfl (ld_i g_5) ?_
        refine ev_x (i := .iconst 1) (len := 1) (p' := 203) (s' := [.int 1, .int l_5, .ref 66]) rfl rfl rfl ?_
        refine ev_x (i := .iadd) (len := 1) (p' := 204) (s' := [.int (l_5 + 1), .ref 66]) rfl rfl rfl ?_
        refine ev_x (i := .iload_n 2) (len := 1) (p' := 205) (s' := [.int l_2, .int (l_5 + 1), .ref 66]) rfl rfl (ld_i g_2) ?_
        refine ev_x (i := .iload 4) (len := 2) (p' := 207) (s' := [.int l_4, .int l_2, .int (l_5 + 1), .ref 66]) rfl rfl (ld_i g_4) ?_
        refine ev_x (i := .iconst 1) (len := 1) (p' := 208) (s' := [.int 1, .int l_4, .int l_2, .int (l_5 + 1), .ref 66]) rfl rfl rfl ?_
        obtain ⟨p_24, G_24, H⟩ := F_bd H
        refine ev_cv (d := d + 8) (As := [.int (l_5 + 1), .int l_2, .int l_4, .int 1]) (a := 66) (p' := 211) rfl rfl rfl ly_66 rfl rfl rfl rfl rfl hnb rfl (F_201_ok (d := d + 0) (hg := (Or.inl rfl)) (hx := hx) (hr_66_2 := hr_66_2) (hr_66_10 := hr_66_10) G_24) ?_
        refine ev_st (st' := [.int p_24.1]) rfl ?_
        have e_24 := F_201_R G_24
        refine ev_x (i := .goto 4) (len := 3) (p' := 215) (s' := [.int p_24.1]) rfl rfl rfl ?_
        refine ev_x (i := .istore 10) (len := 2) (p' := 217) (s' := []) (l' := vz_s1 (lv) 10 (.int p_24.1)) rfl rfl rfl ?_
        refine ev_x (i := .aload_n 0) (len := 1) (p' := 218) (s' := [.ref 66]) rfl rfl (ld_a (vg_o (i := 10) (v := .int p_24.1) g_0 (by decide) (Or.inl rfl))) ?_
        refine ev_gi (p' := 221) (v := (gI p_24.2 66 16)) rfl rfl rfl ly_66 rfl rfl rfl ?_
        refine F_if H (fun c_25 H => ?_) (fun c_25 H => ?_)
        · refine ev_b0 (t := 225) (p' := 225) rfl rfl rfl (if_pos c_25) ?_
          refine ev_x (i := .iload 4) (len := 2) (p' := 227) (s' := [.int l_4]) rfl rfl (ld_i (vg_o (i := 10) (v := .int p_24.1) g_4 (by decide) (Or.inl rfl))) ?_
          refine F_if H (fun c_26 H => ?_) (fun c_26 H => ?_)
          · refine ev_b0 (t := 253) (p' := 253) rfl rfl rfl (if_pos c_26) ?_
            refine ev_x (i := .aload_n 0) (len := 1) (p' := 254) (s' := [.ref 66]) rfl rfl (ld_a (vg_o (i := 10) (v := .int p_24.1) g_0 (by decide) (Or.inl rfl))) ?_
            refine ev_gr (p' := 257) (v := 79) rfl rfl rfl ly_66 rfl rfl ((congrFun (congrFun e_24 66) 10).trans hr_66_10) ?_
            refine ev_gc (p' := 260) (v := 98) rfl rfl rfl ly_79 rfl rfl ?_
            refine ev_x (i := .iload_n 3) (len := 1) (p' := 261) (s' := [.int l_3, .ref 98]) rfl rfl (ld_i (vg_o (i := 10) (v := .int p_24.1) g_3 (by decide) (Or.inl rfl))) ?_
            refine ev_x (i := .aload_n 0) (len := 1) (p' := 262) (s' := [.ref 66, .int l_3, .ref 98]) rfl rfl (ld_a (vg_o (i := 10) (v := .int p_24.1) g_0 (by decide) (Or.inl rfl))) ?_
            refine ev_x (i := .iload 7) (len := 2) (p' := 264) (s' := [.int l_7, .ref 66, .int l_3, .ref 98]) rfl rfl (ld_i (vg_o (i := 10) (v := .int p_24.1) g_7 (by decide) (Or.inl rfl))) ?_
            refine ev_x (i := .iload_n 1) (len := 1) (p' := 265) (s' := [.int l_1, .int l_7, .ref 66, .int l_3, .ref 98]) rfl rfl (ld_i (vg_o (i := 10) (v := .int p_24.1) g_1 (by decide) (Or.inl rfl))) ?_
            refine ev_x (i := .iconst 3) (len := 1) (p' := 266) (s' := [.int 3, .int l_1, .int l_7, .ref 66, .int l_3, .ref 98]) rfl rfl rfl ?_
            refine ev_x (i := .iadd) (len := 1) (p' := 267) (s' := [.int (l_1 + 3), .int l_7, .ref 66, .int l_3, .ref 98]) rfl rfl rfl ?_
            obtain ⟨p_27, G_27, H⟩ := F_bd H
            refine ev_cv (d := d + 8) (As := [.int l_7, .int (l_1 + 3)]) (a := 66) (p' := 270) rfl rfl rfl ly_66 rfl rfl rfl rfl rfl (nb_s1 hnb rfl) rfl (F_202_ok (d := d + 2) (hg := (Or.inl rfl)) (hr_66_10 := ((congrFun (congrFun e_24 66) 10).trans hr_66_10)) G_27) ?_
            refine ev_st (st' := [.int p_27.1, .int l_3, .ref 98]) rfl ?_
            have e_27 := F_202_R G_27
            obtain ⟨b_28, H⟩ := F_gd H
            refine ev_pa (j := (l_3 : Int32).toNatClampNeg) (p' := 271) rfl rfl ly_98 rfl (gd_in b_28) rfl ?_
            refine ev_x (i := .aload_n 0) (len := 1) (p' := 272) (s' := [.ref 66]) rfl rfl (ld_a (vg_o (i := 10) (v := .int p_24.1) g_0 (by decide) (Or.inl rfl))) ?_
            refine ev_gr (p' := 275) (v := 79) rfl rfl rfl ly_66 rfl rfl ((congrFun (congrFun e_27 66) 10).trans ((congrFun (congrFun e_24 66) 10).trans hr_66_10)) ?_
            refine ev_gc (p' := 278) (v := 99) rfl rfl rfl ly_79 rfl rfl ?_
            refine ev_x (i := .iload_n 3) (len := 1) (p' := 279) (s' := [.int l_3, .ref 99]) rfl rfl (ld_i (vg_o (i := 10) (v := .int p_24.1) g_3 (by decide) (Or.inl rfl))) ?_
            refine ev_x (i := .aload_n 0) (len := 1) (p' := 280) (s' := [.ref 66, .int l_3, .ref 99]) rfl rfl (ld_a (vg_o (i := 10) (v := .int p_24.1) g_0 (by decide) (Or.inl rfl))) ?_
            refine ev_x (i := .iload 8) (len := 2) (p' := 282) (s' := [.int l_8, .ref 66, .int l_3, .ref 99]) rfl rfl (ld_i (vg_o (i := 10) (v := .int p_24.1) g_8 (by decide) (Or.inl rfl))) ?_
            refine ev_x (i := .iload 9) (len := 2) (p' := 284) (s' := [.int l_9, .int l_8, .ref 66, .int l_3, .ref 99]) rfl rfl (ld_i (vg_o (i := 10) (v := .int p_24.1) g_9 (by decide) (Or.inl rfl))) ?_
            refine ev_x (i := .iconst 1) (len := 1) (p' := 285) (s' := [.int 1, .int l_9, .int l_8, .ref 66, .int l_3, .ref 99]) rfl rfl rfl ?_
            refine ev_x (i := .iadd) (len := 1) (p' := 286) (s' := [.int (l_9 + 1), .int l_8, .ref 66, .int l_3, .ref 99]) rfl rfl rfl ?_
            obtain ⟨p_29, G_29, H⟩ := F_bd H
            refine ev_cv (d := d + 8) (As := [.int l_8, .int (l_9 + 1)]) (a := 66) (p' := 289) rfl rfl rfl ly_66 rfl rfl rfl rfl rfl (nb_s1 hnb rfl) rfl (F_202_ok (d := d + 2) (hg := (Or.inl rfl)) (hr_66_10 := ((congrFun (congrFun e_27 66) 10).trans ((congrFun (congrFun e_24 66) 10).trans hr_66_10))) G_29) ?_
            refine ev_st (st' := [.int p_29.1, .int l_3, .ref 99]) rfl ?_
            have e_29 := F_202_R G_29
            obtain ⟨b_30, H⟩ := F_gd H
            refine ev_pa (j := (l_3 : Int32).toNatClampNeg) (p' := 290) rfl rfl ly_99 rfl (gd_in b_30) rfl ?_
            refine ev_x (i := .aload_n 0) (len := 1) (p' := 291) (s' := [.ref 66]) rfl rfl (ld_a (vg_o (i := 10) (v := .int p_24.1) g_0 (by decide) (Or.inl rfl))) ?_
            refine ev_gr (p' := 294) (v := 79) rfl rfl rfl ly_66 rfl rfl ((congrFun (congrFun e_29 66) 10).trans ((congrFun (congrFun e_27 66) 10).trans ((congrFun (congrFun e_24 66) 10).trans hr_66_10))) ?_
            refine ev_gc (p' := 297) (v := 98) rfl rfl rfl ly_79 rfl rfl ?_
            refine ev_x (i := .iload_n 3) (len := 1) (p' := 298) (s' := [.int l_3, .ref 98]) rfl rfl (ld_i (vg_o (i := 10) (v := .int p_24.1) g_3 (by decide) (Or.inl rfl))) ?_
            obtain ⟨b_31, H⟩ := F_gd H
            refine ev_ga (p' := 299) (v := (gE (p_29.2) 98 (l_3 : Int32).toNatClampNeg)) rfl rfl ly_98 rfl (gd_in b_31) rfl ?_
            refine ev_x (i := .aload_n 0) (len := 1) (p' := 300) (s' := [.ref 66, .int (gE (p_29.2) 98 (l_3 : Int32).toNatClampNeg)]) rfl rfl (ld_a (vg_o (i := 10) (v := .int p_24.1) g_0 (by decide) (Or.inl rfl))) ?_
            refine ev_gr (p' := 303) (v := 79) rfl rfl rfl ly_66 rfl rfl ((congrFun (congrFun e_29 66) 10).trans ((congrFun (congrFun e_27 66) 10).trans ((congrFun (congrFun e_24 66) 10).trans hr_66_10))) ?_
            refine ev_gc (p' := 306) (v := 99) rfl rfl rfl ly_79 rfl rfl ?_
            refine ev_x (i := .iload_n 3) (len := 1) (p' := 307) (s' := [.int l_3, .ref 99, .int (gE (p_29.2) 98 (l_3 : Int32).toNatClampNeg)]) rfl rfl (ld_i (vg_o (i := 10) (v := .int p_24.1) g_3 (by decide) (Or.inl rfl))) ?_
            refine ev_ga (p' := 308) (v := (gE (st_e (p_29.2) 99 ((l_3 : Int32).toNatClampNeg) p_29.1) 99 (l_3 : Int32).toNatClampNeg)) rfl rfl ly_99 rfl (gd_in b_30) rfl ?_
            refine F_if H (fun c_32 H => ?_) (fun c_32 H => ?_)
            · refine ev_b2 (t := 340) (p' := 340) rfl rfl rfl (if_pos c_32) ?_
              exact J_199_340_ok (d := d) (Or.inl rfl) hx (vg_o (i := 10) (v := .int p_24.1) g_0 (by decide) (Or.inl rfl)) (vg_o (i := 10) (v := .int p_24.1) g_1 (by decide) (Or.inl rfl)) (vg_o (i := 10) (v := .int p_24.1) g_3 (by decide) (Or.inl rfl)) (vg_o (i := 10) (v := .int p_24.1) g_5 (by decide) (Or.inl rfl)) (vg_o (i := 10) (v := .int p_24.1) g_6 (by decide) (Or.inl rfl)) (vg_o (i := 10) (v := .int p_24.1) g_9 (by decide) (Or.inl rfl)) (vg_s (lv) 10 (.int p_24.1)) (nb_s1 hnb rfl) ((congrFun (congrFun e_29 66) 2).trans ((congrFun (congrFun e_27 66) 2).trans ((congrFun (congrFun e_24 66) 2).trans hr_66_2))) ((congrFun (congrFun e_29 66) 10).trans ((congrFun (congrFun e_27 66) 10).trans ((congrFun (congrFun e_24 66) 10).trans hr_66_10))) H
            · refine ev_b2 (t := 340) (p' := 311) rfl rfl rfl (if_neg c_32) ?_
              refine ev_x (i := .aload_n 0) (len := 1) (p' := 312) (s' := [.ref 66]) rfl rfl (ld_a (vg_o (i := 10) (v := .int p_24.1) g_0 (by decide) (Or.inl rfl))) ?_
              refine ev_gr (p' := 315) (v := 79) rfl rfl rfl ly_66 rfl rfl ((congrFun (congrFun e_29 66) 10).trans ((congrFun (congrFun e_27 66) 10).trans ((congrFun (congrFun e_24 66) 10).trans hr_66_10))) ?_
              refine ev_gc (p' := 318) (v := 99) rfl rfl rfl ly_79 rfl rfl ?_
              refine ev_x (i := .iload_n 3) (len := 1) (p' := 319) (s' := [.int l_3, .ref 99]) rfl rfl (ld_i (vg_o (i := 10) (v := .int p_24.1) g_3 (by decide) (Or.inl rfl))) ?_
              refine ev_ga (p' := 320) (v := (gE (st_e (p_29.2) 99 ((l_3 : Int32).toNatClampNeg) p_29.1) 99 (l_3 : Int32).toNatClampNeg)) rfl rfl ly_99 rfl (gd_in b_30) rfl ?_
              refine ev_x (i := .aload_n 0) (len := 1) (p' := 321) (s' := [.ref 66, .int (gE (st_e (p_29.2) 99 ((l_3 : Int32).toNatClampNeg) p_29.1) 99 (l_3 : Int32).toNatClampNeg)]) rfl rfl (ld_a (vg_o (i := 10) (v := .int p_24.1) g_0 (by decide) (Or.inl rfl))) ?_
              refine ev_gr (p' := 324) (v := 79) rfl rfl rfl ly_66 rfl rfl ((congrFun (congrFun e_29 66) 10).trans ((congrFun (congrFun e_27 66) 10).trans ((congrFun (congrFun e_24 66) 10).trans hr_66_10))) ?_
              refine ev_gc (p' := 327) (v := 98) rfl rfl rfl ly_79 rfl rfl ?_
              refine ev_x (i := .iload_n 3) (len := 1) (p' := 328) (s' := [.int l_3, .ref 98, .int (gE (st_e (p_29.2) 99 ((l_3 : Int32).toNatClampNeg) p_29.1) 99 (l_3 : Int32).toNatClampNeg)]) rfl rfl (ld_i (vg_o (i := 10) (v := .int p_24.1) g_3 (by decide) (Or.inl rfl))) ?_
              refine ev_ga (p' := 329) (v := (gE (p_29.2) 98 (l_3 : Int32).toNatClampNeg)) rfl rfl ly_98 rfl (gd_in b_31) rfl ?_
              refine ev_x (i := .isub) (len := 1) (p' := 330) (s' := [.int ((gE (st_e (p_29.2) 99 ((l_3 : Int32).toNatClampNeg) p_29.1) 99 (l_3 : Int32).toNatClampNeg) - (gE (p_29.2) 98 (l_3 : Int32).toNatClampNeg))]) rfl rfl rfl ?_
              refine ev_x (i := .sipush 10000) (len := 3) (p' := 333) (s' := [.int 10000, .int ((gE (st_e (p_29.2) 99 ((l_3 : Int32).toNatClampNeg) p_29.1) 99 (l_3 : Int32).toNatClampNeg) - (gE (p_29.2) 98 (l_3 : Int32).toNatClampNeg))]) rfl rfl rfl ?_
              refine F_if H (fun c_33 H => ?_) (fun c_33 H => ?_)
              · refine ev_b2 (t := 340) (p' := 340) rfl rfl rfl (if_pos c_33) ?_
                exact J_199_340_ok (d := d) (Or.inl rfl) hx (vg_o (i := 10) (v := .int p_24.1) g_0 (by decide) (Or.inl rfl)) (vg_o (i := 10) (v := .int p_24.1) g_1 (by decide) (Or.inl rfl)) (vg_o (i := 10) (v := .int p_24.1) g_3 (by decide) (Or.inl rfl)) (vg_o (i := 10) (v := .int p_24.1) g_5 (by decide) (Or.inl rfl)) (vg_o (i := 10) (v := .int p_24.1) g_6 (by decide) (Or.inl rfl)) (vg_o (i := 10) (v := .int p_24.1) g_9 (by decide) (Or.inl rfl)) (vg_s (lv) 10 (.int p_24.1)) (nb_s1 hnb rfl) ((congrFun (congrFun e_29 66) 2).trans ((congrFun (congrFun e_27 66) 2).trans ((congrFun (congrFun e_24 66) 2).trans hr_66_2))) ((congrFun (congrFun e_29 66) 10).trans ((congrFun (congrFun e_27 66) 10).trans ((congrFun (congrFun e_24 66) 10).trans hr_66_10))) H
              · refine ev_b2 (t := 340) (p' := 336) rfl rfl rfl (if_neg c_33) ?_
                refine ev_x (i := .iconst 1) (len := 1) (p' := 337) (s' := [.int 1]) rfl rfl rfl ?_
                refine ev_x (i := .goto 4) (len := 3) (p' := 341) (s' := [.int 1]) rfl rfl rfl ?_
                refine ev_x (i := .istore 11) (len := 2) (p' := 343) (s' := []) (l' := vz_s1 (vz_s1 (lv) 10 (.int p_24.1)) 11 (.int 1)) rfl rfl rfl ?_
                refine ev_x (i := .aload_n 0) (len := 1) (p' := 344) (s' := [.ref 66]) rfl rfl (ld_a (vg_o (i := 11) (v := .int 1) (vg_o (i := 10) (v := .int p_24.1) g_0 (by decide) (Or.inl rfl)) (by decide) (Or.inl rfl))) ?_
                refine ev_gi (p' := 347) (v := (gI p_29.2 66 16)) rfl rfl rfl ly_66 rfl rfl rfl ?_
                refine F_if H (fun c_34 H => ?_) (fun c_34 H => ?_)
                · refine ev_b0 (t := 369) (p' := 350) rfl rfl rfl (if_neg (fun q => q c_34)) ?_
                  refine ev_x (i := .iload 11) (len := 2) (p' := 352) (s' := [.int 1]) rfl rfl (ld_i (vg_s (vz_s1 (lv) 10 (.int p_24.1)) 11 (.int 1))) ?_
                  refine ev_b0 (t := 369) (p' := 369) rfl rfl rfl (by decide) ?_
                  exact J_199_369_ok (d := d) (Or.inl rfl) hx (vg_o (i := 11) (v := .int 1) (vg_o (i := 10) (v := .int p_24.1) g_0 (by decide) (Or.inl rfl)) (by decide) (Or.inl rfl)) (vg_o (i := 11) (v := .int 1) (vg_o (i := 10) (v := .int p_24.1) g_1 (by decide) (Or.inl rfl)) (by decide) (Or.inl rfl)) (vg_o (i := 11) (v := .int 1) (vg_o (i := 10) (v := .int p_24.1) g_3 (by decide) (Or.inl rfl)) (by decide) (Or.inl rfl)) (vg_o (i := 11) (v := .int 1) (vg_o (i := 10) (v := .int p_24.1) g_5 (by decide) (Or.inl rfl)) (by decide) (Or.inl rfl)) (vg_o (i := 11) (v := .int 1) (vg_o (i := 10) (v := .int p_24.1) g_6 (by decide) (Or.inl rfl)) (by decide) (Or.inl rfl)) (vg_o (i := 11) (v := .int 1) (vg_s (lv) 10 (.int p_24.1)) (by decide) (Or.inl rfl)) (nb_s1 (nb_s1 hnb rfl) rfl) ((congrFun (congrFun e_29 66) 2).trans ((congrFun (congrFun e_27 66) 2).trans ((congrFun (congrFun e_24 66) 2).trans hr_66_2))) ((congrFun (congrFun e_29 66) 10).trans ((congrFun (congrFun e_27 66) 10).trans ((congrFun (congrFun e_24 66) 10).trans hr_66_10))) H
                · refine ev_b0 (t := 369) (p' := 369) rfl rfl rfl (if_pos c_34) ?_
                  exact J_199_369_ok (d := d) (Or.inl rfl) hx (vg_o (i := 11) (v := .int 1) (vg_o (i := 10) (v := .int p_24.1) g_0 (by decide) (Or.inl rfl)) (by decide) (Or.inl rfl)) (vg_o (i := 11) (v := .int 1) (vg_o (i := 10) (v := .int p_24.1) g_1 (by decide) (Or.inl rfl)) (by decide) (Or.inl rfl)) (vg_o (i := 11) (v := .int 1) (vg_o (i := 10) (v := .int p_24.1) g_3 (by decide) (Or.inl rfl)) (by decide) (Or.inl rfl)) (vg_o (i := 11) (v := .int 1) (vg_o (i := 10) (v := .int p_24.1) g_5 (by decide) (Or.inl rfl)) (by decide) (Or.inl rfl)) (vg_o (i := 11) (v := .int 1) (vg_o (i := 10) (v := .int p_24.1) g_6 (by decide) (Or.inl rfl)) (by decide) (Or.inl rfl)) (vg_o (i := 11) (v := .int 1) (vg_s (lv) 10 (.int p_24.1)) (by decide) (Or.inl rfl)) (nb_s1 (nb_s1 hnb rfl) rfl) ((congrFun (congrFun e_29 66) 2).trans ((congrFun (congrFun e_27 66) 2).trans ((congrFun (congrFun e_24 66) 2).trans hr_66_2))) ((congrFun (congrFun e_29 66) 10).trans ((congrFun (congrFun e_27 66) 10).trans ((congrFun (congrFun e_24 66) 10).trans hr_66_10))) H
          · refine ev_b0 (t := 253) (p' := 230) rfl rfl rfl (if_neg c_26) ?_
            refine ev_x (i := .aload_n 0) (len := 1) (p' := 231) (s' := [.ref 66]) rfl rfl (ld_a (vg_o (i := 10) (v := .int p_24.1) g_0 (by decide) (Or.inl rfl))) ?_
            refine ev_gr (p' := 234) (v := 79) rfl rfl rfl ly_66 rfl rfl ((congrFun (congrFun e_24 66) 10).trans hr_66_10) ?_
            refine ev_gc (p' := 237) (v := 98) rfl rfl rfl ly_79 rfl rfl ?_
            refine ev_x (i := .iload_n 3) (len := 1) (p' := 238) (s' := [.int l_3, .ref 98]) rfl rfl (ld_i (vg_o (i := 10) (v := .int p_24.1) g_3 (by decide) (Or.inl rfl))) ?_
            refine ev_x (i := .iconst 0) (len := 1) (p' := 239) (s' := [.int 0, .int l_3, .ref 98]) rfl rfl rfl ?_
            obtain ⟨b_35, H⟩ := F_gd H
            refine ev_pa (j := (l_3 : Int32).toNatClampNeg) (p' := 240) rfl rfl ly_98 rfl (gd_in b_35) rfl ?_
            refine ev_x (i := .aload_n 0) (len := 1) (p' := 241) (s' := [.ref 66]) rfl rfl (ld_a (vg_o (i := 10) (v := .int p_24.1) g_0 (by decide) (Or.inl rfl))) ?_
            refine ev_gr (p' := 244) (v := 79) rfl rfl rfl ly_66 rfl rfl ((congrFun (congrFun e_24 66) 10).trans hr_66_10) ?_
            refine ev_gc (p' := 247) (v := 99) rfl rfl rfl ly_79 rfl rfl ?_
            refine ev_x (i := .iload_n 3) (len := 1) (p' := 248) (s' := [.int l_3, .ref 99]) rfl rfl (ld_i (vg_o (i := 10) (v := .int p_24.1) g_3 (by decide) (Or.inl rfl))) ?_
            refine ev_x (i := .iconst 1) (len := 1) (p' := 249) (s' := [.int 1, .int l_3, .ref 99]) rfl rfl rfl ?_
            obtain ⟨b_36, H⟩ := F_gd H
            refine ev_pa (j := (l_3 : Int32).toNatClampNeg) (p' := 250) rfl rfl ly_99 rfl (gd_in b_36) rfl ?_
            refine ev_x (i := .goto 119) (len := 3) (p' := 369) (s' := []) rfl rfl rfl ?_
            exact J_199_369_ok (d := d) (Or.inl rfl) hx (vg_o (i := 10) (v := .int p_24.1) g_0 (by decide) (Or.inl rfl)) (vg_o (i := 10) (v := .int p_24.1) g_1 (by decide) (Or.inl rfl)) (vg_o (i := 10) (v := .int p_24.1) g_3 (by decide) (Or.inl rfl)) (vg_o (i := 10) (v := .int p_24.1) g_5 (by decide) (Or.inl rfl)) (vg_o (i := 10) (v := .int p_24.1) g_6 (by decide) (Or.inl rfl)) (vg_s (lv) 10 (.int p_24.1)) (nb_s1 hnb rfl) ((congrFun (congrFun e_24 66) 2).trans hr_66_2) ((congrFun (congrFun e_24 66) 10).trans hr_66_10) H
        · refine ev_b0 (t := 225) (p' := 224) rfl rfl rfl (if_neg c_25) ?_
          obtain rfl := Option.some.inj H
          exact ev_vret rfl rfl rfl
      · refine ev_b0 (t := 214) (p' := 214) rfl rfl rfl (if_pos c_23) ?_
        exact J_199_214_ok (d := d) (Or.inl rfl) hx g_0 g_1 g_3 g_4 g_5 g_6 g_7 g_8 g_9 hnb hr_66_2 hr_66_10 H
  · refine ev_x (i := .iload 6) (len := 2) (p' := 189) (s' := [.int l_6]) rfl rfl (ld_i g_6) ?_
    refine F_if H (fun c_22 H => ?_) (fun c_22 H => ?_)
    · refine ev_b0 (t := 214) (p' := 214) rfl rfl rfl (if_pos c_22) ?_
      exact J_199_214_ok (d := d) (Or.inr rfl) hx g_0 g_1 g_3 g_4 g_5 g_6 g_7 g_8 g_9 hnb hr_66_2 hr_66_10 H
    · refine ev_b0 (t := 214) (p' := 192) rfl rfl rfl (if_neg c_22) ?_
      refine ev_x (i := .aload_n 0) (len := 1) (p' := 193) (s' := [.ref 66]) rfl rfl (ld_a g_0) ?_
      refine ev_gi (p' := 196) (v := (gI σ 66 16)) rfl rfl rfl ly_66 rfl rfl rfl ?_
      refine F_if H (fun c_23 H => ?_) (fun c_23 H => ?_)
      · refine ev_b0 (t := 214) (p' := 199) rfl rfl rfl (if_neg (fun q => q c_23)) ?_
        refine ev_x (i := .aload_n 0) (len := 1) (p' := 200) (s' := [.ref 66]) rfl rfl (ld_a g_0) ?_
        refine ev_x (i := .iload 5) (len := 2) (p' := 202) (s' := [.int l_5, .ref 66]) rfl rfl (ld_i g_5) ?_
        refine ev_x (i := .iconst 1) (len := 1) (p' := 203) (s' := [.int 1, .int l_5, .ref 66]) rfl rfl rfl ?_
        refine ev_x (i := .iadd) (len := 1) (p' := 204) (s' := [.int (l_5 + 1), .ref 66]) rfl rfl rfl ?_
        refine ev_x (i := .iload_n 2) (len := 1) (p' := 205) (s' := [.int l_2, .int (l_5 + 1), .ref 66]) rfl rfl (ld_i g_2) ?_
        refine ev_x (i := .iload 4) (len := 2) (p' := 207) (s' := [.int l_4, .int l_2, .int (l_5 + 1), .ref 66]) rfl rfl (ld_i g_4) ?_
        refine ev_x (i := .iconst 1) (len := 1) (p' := 208) (s' := [.int 1, .int l_4, .int l_2, .int (l_5 + 1), .ref 66]) rfl rfl rfl ?_
        obtain ⟨p_24, G_24, H⟩ := F_bd H
        refine ev_cv (d := d + 8) (As := [.int (l_5 + 1), .int l_2, .int l_4, .int 1]) (a := 66) (p' := 211) rfl rfl rfl ly_66 rfl rfl rfl rfl rfl hnb rfl (F_201_ok (d := d + 0) (hg := (Or.inr rfl)) (hx := hx) (hr_66_2 := hr_66_2) (hr_66_10 := hr_66_10) G_24) ?_
        refine ev_st (st' := [.int p_24.1]) rfl ?_
        have e_24 := F_201_R G_24
        refine ev_x (i := .goto 4) (len := 3) (p' := 215) (s' := [.int p_24.1]) rfl rfl rfl ?_
        refine ev_x (i := .istore 10) (len := 2) (p' := 217) (s' := []) (l' := vz_s1 (lv) 10 (.int p_24.1)) rfl rfl rfl ?_
        refine ev_x (i := .aload_n 0) (len := 1) (p' := 218) (s' := [.ref 66]) rfl rfl (ld_a (vg_o (i := 10) (v := .int p_24.1) g_0 (by decide) (Or.inl rfl))) ?_
        refine ev_gi (p' := 221) (v := (gI p_24.2 66 16)) rfl rfl rfl ly_66 rfl rfl rfl ?_
        refine F_if H (fun c_25 H => ?_) (fun c_25 H => ?_)
        · refine ev_b0 (t := 225) (p' := 225) rfl rfl rfl (if_pos c_25) ?_
          refine ev_x (i := .iload 4) (len := 2) (p' := 227) (s' := [.int l_4]) rfl rfl (ld_i (vg_o (i := 10) (v := .int p_24.1) g_4 (by decide) (Or.inl rfl))) ?_
          refine F_if H (fun c_26 H => ?_) (fun c_26 H => ?_)
          · refine ev_b0 (t := 253) (p' := 253) rfl rfl rfl (if_pos c_26) ?_
            refine ev_x (i := .aload_n 0) (len := 1) (p' := 254) (s' := [.ref 66]) rfl rfl (ld_a (vg_o (i := 10) (v := .int p_24.1) g_0 (by decide) (Or.inl rfl))) ?_
            refine ev_gr (p' := 257) (v := 115) rfl rfl rfl ly_66 rfl rfl ((congrFun (congrFun e_24 66) 10).trans hr_66_10) ?_
            refine ev_gc (p' := 260) (v := 134) rfl rfl rfl ly_115 rfl rfl ?_
            refine ev_x (i := .iload_n 3) (len := 1) (p' := 261) (s' := [.int l_3, .ref 134]) rfl rfl (ld_i (vg_o (i := 10) (v := .int p_24.1) g_3 (by decide) (Or.inl rfl))) ?_
            refine ev_x (i := .aload_n 0) (len := 1) (p' := 262) (s' := [.ref 66, .int l_3, .ref 134]) rfl rfl (ld_a (vg_o (i := 10) (v := .int p_24.1) g_0 (by decide) (Or.inl rfl))) ?_
            refine ev_x (i := .iload 7) (len := 2) (p' := 264) (s' := [.int l_7, .ref 66, .int l_3, .ref 134]) rfl rfl (ld_i (vg_o (i := 10) (v := .int p_24.1) g_7 (by decide) (Or.inl rfl))) ?_
            refine ev_x (i := .iload_n 1) (len := 1) (p' := 265) (s' := [.int l_1, .int l_7, .ref 66, .int l_3, .ref 134]) rfl rfl (ld_i (vg_o (i := 10) (v := .int p_24.1) g_1 (by decide) (Or.inl rfl))) ?_
            refine ev_x (i := .iconst 3) (len := 1) (p' := 266) (s' := [.int 3, .int l_1, .int l_7, .ref 66, .int l_3, .ref 134]) rfl rfl rfl ?_
            refine ev_x (i := .iadd) (len := 1) (p' := 267) (s' := [.int (l_1 + 3), .int l_7, .ref 66, .int l_3, .ref 134]) rfl rfl rfl ?_
            obtain ⟨p_27, G_27, H⟩ := F_bd H
            refine ev_cv (d := d + 8) (As := [.int l_7, .int (l_1 + 3)]) (a := 66) (p' := 270) rfl rfl rfl ly_66 rfl rfl rfl rfl rfl (nb_s1 hnb rfl) rfl (F_202_ok (d := d + 2) (hg := (Or.inr rfl)) (hr_66_10 := ((congrFun (congrFun e_24 66) 10).trans hr_66_10)) G_27) ?_
            refine ev_st (st' := [.int p_27.1, .int l_3, .ref 134]) rfl ?_
            have e_27 := F_202_R G_27
            obtain ⟨b_28, H⟩ := F_gd H
            refine ev_pa (j := (l_3 : Int32).toNatClampNeg) (p' := 271) rfl rfl ly_134 rfl (gd_in b_28) rfl ?_
            refine ev_x (i := .aload_n 0) (len := 1) (p' := 272) (s' := [.ref 66]) rfl rfl (ld_a (vg_o (i := 10) (v := .int p_24.1) g_0 (by decide) (Or.inl rfl))) ?_
            refine ev_gr (p' := 275) (v := 115) rfl rfl rfl ly_66 rfl rfl ((congrFun (congrFun e_27 66) 10).trans ((congrFun (congrFun e_24 66) 10).trans hr_66_10)) ?_
            refine ev_gc (p' := 278) (v := 135) rfl rfl rfl ly_115 rfl rfl ?_
            refine ev_x (i := .iload_n 3) (len := 1) (p' := 279) (s' := [.int l_3, .ref 135]) rfl rfl (ld_i (vg_o (i := 10) (v := .int p_24.1) g_3 (by decide) (Or.inl rfl))) ?_
            refine ev_x (i := .aload_n 0) (len := 1) (p' := 280) (s' := [.ref 66, .int l_3, .ref 135]) rfl rfl (ld_a (vg_o (i := 10) (v := .int p_24.1) g_0 (by decide) (Or.inl rfl))) ?_
            refine ev_x (i := .iload 8) (len := 2) (p' := 282) (s' := [.int l_8, .ref 66, .int l_3, .ref 135]) rfl rfl (ld_i (vg_o (i := 10) (v := .int p_24.1) g_8 (by decide) (Or.inl rfl))) ?_
            refine ev_x (i := .iload 9) (len := 2) (p' := 284) (s' := [.int l_9, .int l_8, .ref 66, .int l_3, .ref 135]) rfl rfl (ld_i (vg_o (i := 10) (v := .int p_24.1) g_9 (by decide) (Or.inl rfl))) ?_
            refine ev_x (i := .iconst 1) (len := 1) (p' := 285) (s' := [.int 1, .int l_9, .int l_8, .ref 66, .int l_3, .ref 135]) rfl rfl rfl ?_
            refine ev_x (i := .iadd) (len := 1) (p' := 286) (s' := [.int (l_9 + 1), .int l_8, .ref 66, .int l_3, .ref 135]) rfl rfl rfl ?_
            obtain ⟨p_29, G_29, H⟩ := F_bd H
            refine ev_cv (d := d + 8) (As := [.int l_8, .int (l_9 + 1)]) (a := 66) (p' := 289) rfl rfl rfl ly_66 rfl rfl rfl rfl rfl (nb_s1 hnb rfl) rfl (F_202_ok (d := d + 2) (hg := (Or.inr rfl)) (hr_66_10 := ((congrFun (congrFun e_27 66) 10).trans ((congrFun (congrFun e_24 66) 10).trans hr_66_10))) G_29) ?_
            refine ev_st (st' := [.int p_29.1, .int l_3, .ref 135]) rfl ?_
            have e_29 := F_202_R G_29
            obtain ⟨b_30, H⟩ := F_gd H
            refine ev_pa (j := (l_3 : Int32).toNatClampNeg) (p' := 290) rfl rfl ly_135 rfl (gd_in b_30) rfl ?_
            refine ev_x (i := .aload_n 0) (len := 1) (p' := 291) (s' := [.ref 66]) rfl rfl (ld_a (vg_o (i := 10) (v := .int p_24.1) g_0 (by decide) (Or.inl rfl))) ?_
            refine ev_gr (p' := 294) (v := 115) rfl rfl rfl ly_66 rfl rfl ((congrFun (congrFun e_29 66) 10).trans ((congrFun (congrFun e_27 66) 10).trans ((congrFun (congrFun e_24 66) 10).trans hr_66_10))) ?_
            refine ev_gc (p' := 297) (v := 134) rfl rfl rfl ly_115 rfl rfl ?_
            refine ev_x (i := .iload_n 3) (len := 1) (p' := 298) (s' := [.int l_3, .ref 134]) rfl rfl (ld_i (vg_o (i := 10) (v := .int p_24.1) g_3 (by decide) (Or.inl rfl))) ?_
            obtain ⟨b_31, H⟩ := F_gd H
            refine ev_ga (p' := 299) (v := (gE (p_29.2) 134 (l_3 : Int32).toNatClampNeg)) rfl rfl ly_134 rfl (gd_in b_31) rfl ?_
            refine ev_x (i := .aload_n 0) (len := 1) (p' := 300) (s' := [.ref 66, .int (gE (p_29.2) 134 (l_3 : Int32).toNatClampNeg)]) rfl rfl (ld_a (vg_o (i := 10) (v := .int p_24.1) g_0 (by decide) (Or.inl rfl))) ?_
            refine ev_gr (p' := 303) (v := 115) rfl rfl rfl ly_66 rfl rfl ((congrFun (congrFun e_29 66) 10).trans ((congrFun (congrFun e_27 66) 10).trans ((congrFun (congrFun e_24 66) 10).trans hr_66_10))) ?_
            refine ev_gc (p' := 306) (v := 135) rfl rfl rfl ly_115 rfl rfl ?_
            refine ev_x (i := .iload_n 3) (len := 1) (p' := 307) (s' := [.int l_3, .ref 135, .int (gE (p_29.2) 134 (l_3 : Int32).toNatClampNeg)]) rfl rfl (ld_i (vg_o (i := 10) (v := .int p_24.1) g_3 (by decide) (Or.inl rfl))) ?_
            refine ev_ga (p' := 308) (v := (gE (st_e (p_29.2) 135 ((l_3 : Int32).toNatClampNeg) p_29.1) 135 (l_3 : Int32).toNatClampNeg)) rfl rfl ly_135 rfl (gd_in b_30) rfl ?_
            refine F_if H (fun c_32 H => ?_) (fun c_32 H => ?_)
            · refine ev_b2 (t := 340) (p' := 340) rfl rfl rfl (if_pos c_32) ?_
              exact J_199_340_ok (d := d) (Or.inr rfl) hx (vg_o (i := 10) (v := .int p_24.1) g_0 (by decide) (Or.inl rfl)) (vg_o (i := 10) (v := .int p_24.1) g_1 (by decide) (Or.inl rfl)) (vg_o (i := 10) (v := .int p_24.1) g_3 (by decide) (Or.inl rfl)) (vg_o (i := 10) (v := .int p_24.1) g_5 (by decide) (Or.inl rfl)) (vg_o (i := 10) (v := .int p_24.1) g_6 (by decide) (Or.inl rfl)) (vg_o (i := 10) (v := .int p_24.1) g_9 (by decide) (Or.inl rfl)) (vg_s (lv) 10 (.int p_24.1)) (nb_s1 hnb rfl) ((congrFun (congrFun e_29 66) 2).trans ((congrFun (congrFun e_27 66) 2).trans ((congrFun (congrFun e_24 66) 2).trans hr_66_2))) ((congrFun (congrFun e_29 66) 10).trans ((congrFun (congrFun e_27 66) 10).trans ((congrFun (congrFun e_24 66) 10).trans hr_66_10))) H
            · refine ev_b2 (t := 340) (p' := 311) rfl rfl rfl (if_neg c_32) ?_
              refine ev_x (i := .aload_n 0) (len := 1) (p' := 312) (s' := [.ref 66]) rfl rfl (ld_a (vg_o (i := 10) (v := .int p_24.1) g_0 (by decide) (Or.inl rfl))) ?_
              refine ev_gr (p' := 315) (v := 115) rfl rfl rfl ly_66 rfl rfl ((congrFun (congrFun e_29 66) 10).trans ((congrFun (congrFun e_27 66) 10).trans ((congrFun (congrFun e_24 66) 10).trans hr_66_10))) ?_
              refine ev_gc (p' := 318) (v := 135) rfl rfl rfl ly_115 rfl rfl ?_
              refine ev_x (i := .iload_n 3) (len := 1) (p' := 319) (s' := [.int l_3, .ref 135]) rfl rfl (ld_i (vg_o (i := 10) (v := .int p_24.1) g_3 (by decide) (Or.inl rfl))) ?_
              refine ev_ga (p' := 320) (v := (gE (st_e (p_29.2) 135 ((l_3 : Int32).toNatClampNeg) p_29.1) 135 (l_3 : Int32).toNatClampNeg)) rfl rfl ly_135 rfl (gd_in b_30) rfl ?_
              refine ev_x (i := .aload_n 0) (len := 1) (p' := 321) (s' := [.ref 66, .int (gE (st_e (p_29.2) 135 ((l_3 : Int32).toNatClampNeg) p_29.1) 135 (l_3 : Int32).toNatClampNeg)]) rfl rfl (ld_a (vg_o (i := 10) (v := .int p_24.1) g_0 (by decide) (Or.inl rfl))) ?_
              refine ev_gr (p' := 324) (v := 115) rfl rfl rfl ly_66 rfl rfl ((congrFun (congrFun e_29 66) 10).trans ((congrFun (congrFun e_27 66) 10).trans ((congrFun (congrFun e_24 66) 10).trans hr_66_10))) ?_
              refine ev_gc (p' := 327) (v := 134) rfl rfl rfl ly_115 rfl rfl ?_
              refine ev_x (i := .iload_n 3) (len := 1) (p' := 328) (s' := [.int l_3, .ref 134, .int (gE (st_e (p_29.2) 135 ((l_3 : Int32).toNatClampNeg) p_29.1) 135 (l_3 : Int32).toNatClampNeg)]) rfl rfl (ld_i (vg_o (i := 10) (v := .int p_24.1) g_3 (by decide) (Or.inl rfl))) ?_
              refine ev_ga (p' := 329) (v := (gE (p_29.2) 134 (l_3 : Int32).toNatClampNeg)) rfl rfl ly_134 rfl (gd_in b_31) rfl ?_
              refine ev_x (i := .isub) (len := 1) (p' := 330) (s' := [.int ((gE (st_e (p_29.2) 135 ((l_3 : Int32).toNatClampNeg) p_29.1) 135 (l_3 : Int32).toNatClampNeg) - (gE (p_29.2) 134 (l_3 : Int32).toNatClampNeg))]) rfl rfl rfl ?_
              refine ev_x (i := .sipush 10000) (len := 3) (p' := 333) (s' := [.int 10000, .int ((gE (st_e (p_29.2) 135 ((l_3 : Int32).toNatClampNeg) p_29.1) 135 (l_3 : Int32).toNatClampNeg) - (gE (p_29.2) 134 (l_3 : Int32).toNatClampNeg))]) rfl rfl rfl ?_
              refine F_if H (fun c_33 H => ?_) (fun c_33 H => ?_)
              · refine ev_b2 (t := 340) (p' := 340) rfl rfl rfl (if_pos c_33) ?_
                exact J_199_340_ok (d := d) (Or.inr rfl) hx (vg_o (i := 10) (v := .int p_24.1) g_0 (by decide) (Or.inl rfl)) (vg_o (i := 10) (v := .int p_24.1) g_1 (by decide) (Or.inl rfl)) (vg_o (i := 10) (v := .int p_24.1) g_3 (by decide) (Or.inl rfl)) (vg_o (i := 10) (v := .int p_24.1) g_5 (by decide) (Or.inl rfl)) (vg_o (i := 10) (v := .int p_24.1) g_6 (by decide) (Or.inl rfl)) (vg_o (i := 10) (v := .int p_24.1) g_9 (by decide) (Or.inl rfl)) (vg_s (lv) 10 (.int p_24.1)) (nb_s1 hnb rfl) ((congrFun (congrFun e_29 66) 2).trans ((congrFun (congrFun e_27 66) 2).trans ((congrFun (congrFun e_24 66) 2).trans hr_66_2))) ((congrFun (congrFun e_29 66) 10).trans ((congrFun (congrFun e_27 66) 10).trans ((congrFun (congrFun e_24 66) 10).trans hr_66_10))) H
              · refine ev_b2 (t := 340) (p' := 336) rfl rfl rfl (if_neg c_33) ?_
                refine ev_x (i := .iconst 1) (len := 1) (p' := 337) (s' := [.int 1]) rfl rfl rfl ?_
                refine ev_x (i := .goto 4) (len := 3) (p' := 341) (s' := [.int 1]) rfl rfl rfl ?_
                refine ev_x (i := .istore 11) (len := 2) (p' := 343) (s' := []) (l' := vz_s1 (vz_s1 (lv) 10 (.int p_24.1)) 11 (.int 1)) rfl rfl rfl ?_
                refine ev_x (i := .aload_n 0) (len := 1) (p' := 344) (s' := [.ref 66]) rfl rfl (ld_a (vg_o (i := 11) (v := .int 1) (vg_o (i := 10) (v := .int p_24.1) g_0 (by decide) (Or.inl rfl)) (by decide) (Or.inl rfl))) ?_
                refine ev_gi (p' := 347) (v := (gI p_29.2 66 16)) rfl rfl rfl ly_66 rfl rfl rfl ?_
                refine F_if H (fun c_34 H => ?_) (fun c_34 H => ?_)
                · refine ev_b0 (t := 369) (p' := 350) rfl rfl rfl (if_neg (fun q => q c_34)) ?_
                  refine ev_x (i := .iload 11) (len := 2) (p' := 352) (s' := [.int 1]) rfl rfl (ld_i (vg_s (vz_s1 (lv) 10 (.int p_24.1)) 11 (.int 1))) ?_
                  refine ev_b0 (t := 369) (p' := 369) rfl rfl rfl (by decide) ?_
                  exact J_199_369_ok (d := d) (Or.inr rfl) hx (vg_o (i := 11) (v := .int 1) (vg_o (i := 10) (v := .int p_24.1) g_0 (by decide) (Or.inl rfl)) (by decide) (Or.inl rfl)) (vg_o (i := 11) (v := .int 1) (vg_o (i := 10) (v := .int p_24.1) g_1 (by decide) (Or.inl rfl)) (by decide) (Or.inl rfl)) (vg_o (i := 11) (v := .int 1) (vg_o (i := 10) (v := .int p_24.1) g_3 (by decide) (Or.inl rfl)) (by decide) (Or.inl rfl)) (vg_o (i := 11) (v := .int 1) (vg_o (i := 10) (v := .int p_24.1) g_5 (by decide) (Or.inl rfl)) (by decide) (Or.inl rfl)) (vg_o (i := 11) (v := .int 1) (vg_o (i := 10) (v := .int p_24.1) g_6 (by decide) (Or.inl rfl)) (by decide) (Or.inl rfl)) (vg_o (i := 11) (v := .int 1) (vg_s (lv) 10 (.int p_24.1)) (by decide) (Or.inl rfl)) (nb_s1 (nb_s1 hnb rfl) rfl) ((congrFun (congrFun e_29 66) 2).trans ((congrFun (congrFun e_27 66) 2).trans ((congrFun (congrFun e_24 66) 2).trans hr_66_2))) ((congrFun (congrFun e_29 66) 10).trans ((congrFun (congrFun e_27 66) 10).trans ((congrFun (congrFun e_24 66) 10).trans hr_66_10))) H
                · refine ev_b0 (t := 369) (p' := 369) rfl rfl rfl (if_pos c_34) ?_
                  exact J_199_369_ok (d := d) (Or.inr rfl) hx (vg_o (i := 11) (v := .int 1) (vg_o (i := 10) (v := .int p_24.1) g_0 (by decide) (Or.inl rfl)) (by decide) (Or.inl rfl)) (vg_o (i := 11) (v := .int 1) (vg_o (i := 10) (v := .int p_24.1) g_1 (by decide) (Or.inl rfl)) (by decide) (Or.inl rfl)) (vg_o (i := 11) (v := .int 1) (vg_o (i := 10) (v := .int p_24.1) g_3 (by decide) (Or.inl rfl)) (by decide) (Or.inl rfl)) (vg_o (i := 11) (v := .int 1) (vg_o (i := 10) (v := .int p_24.1) g_5 (by decide) (Or.inl rfl)) (by decide) (Or.inl rfl)) (vg_o (i := 11) (v := .int 1) (vg_o (i := 10) (v := .int p_24.1) g_6 (by decide) (Or.inl rfl)) (by decide) (Or.inl rfl)) (vg_o (i := 11) (v := .int 1) (vg_s (lv) 10 (.int p_24.1)) (by decide) (Or.inl rfl)) (nb_s1 (nb_s1 hnb rfl) rfl) ((congrFun (congrFun e_29 66) 2).trans ((congrFun (congrFun e_27 66) 2).trans ((congrFun (congrFun e_24 66) 2).trans hr_66_2))) ((congrFun (congrFun e_29 66) 10).trans ((congrFun (congrFun e_27 66) 10).trans ((congrFun (congrFun e_24 66) 10).trans hr_66_10))) H
          · refine ev_b0 (t := 253) (p' := 230) rfl rfl rfl (if_neg c_26) ?_
            refine ev_x (i := .aload_n 0) (len := 1) (p' := 231) (s' := [.ref 66]) rfl rfl (ld_a (vg_o (i := 10) (v := .int p_24.1) g_0 (by decide) (Or.inl rfl))) ?_
            refine ev_gr (p' := 234) (v := 115) rfl rfl rfl ly_66 rfl rfl ((congrFun (congrFun e_24 66) 10).trans hr_66_10) ?_
            refine ev_gc (p' := 237) (v := 134) rfl rfl rfl ly_115 rfl rfl ?_
            refine ev_x (i := .iload_n 3) (len := 1) (p' := 238) (s' := [.int l_3, .ref 134]) rfl rfl (ld_i (vg_o (i := 10) (v := .int p_24.1) g_3 (by decide) (Or.inl rfl))) ?_
            refine ev_x (i := .iconst 0) (len := 1) (p' := 239) (s' := [.int 0, .int l_3, .ref 134]) rfl rfl rfl ?_
            obtain ⟨b_35, H⟩ := F_gd H
            refine ev_pa (j := (l_3 : Int32).toNatClampNeg) (p' := 240) rfl rfl ly_134 rfl (gd_in b_35) rfl ?_
            refine ev_x (i := .aload_n 0) (len := 1) (p' := 241) (s' := [.ref 66]) rfl rfl (ld_a (vg_o (i := 10) (v := .int p_24.1) g_0 (by decide) (Or.inl rfl))) ?_
            refine ev_gr (p' := 244) (v := 115) rfl rfl rfl ly_66 rfl rfl ((congrFun (congrFun e_24 66) 10).trans hr_66_10) ?_
            refine ev_gc (p' := 247) (v := 135) rfl rfl rfl ly_115 rfl rfl ?_
            refine ev_x (i := .iload_n 3) (len := 1) (p' := 248) (s' := [.int l_3, .ref 135]) rfl rfl (ld_i (vg_o (i := 10) (v := .int p_24.1) g_3 (by decide) (Or.inl rfl))) ?_
            refine ev_x (i := .iconst 1) (len := 1) (p' := 249) (s' := [.int 1, .int l_3, .ref 135]) rfl rfl rfl ?_
            obtain ⟨b_36, H⟩ := F_gd H
            refine ev_pa (j := (l_3 : Int32).toNatClampNeg) (p' := 250) rfl rfl ly_135 rfl (gd_in b_36) rfl ?_
            refine ev_x (i := .goto 119) (len := 3) (p' := 369) (s' := []) rfl rfl rfl ?_
            exact J_199_369_ok (d := d) (Or.inr rfl) hx (vg_o (i := 10) (v := .int p_24.1) g_0 (by decide) (Or.inl rfl)) (vg_o (i := 10) (v := .int p_24.1) g_1 (by decide) (Or.inl rfl)) (vg_o (i := 10) (v := .int p_24.1) g_3 (by decide) (Or.inl rfl)) (vg_o (i := 10) (v := .int p_24.1) g_5 (by decide) (Or.inl rfl)) (vg_o (i := 10) (v := .int p_24.1) g_6 (by decide) (Or.inl rfl)) (vg_s (lv) 10 (.int p_24.1)) (nb_s1 hnb rfl) ((congrFun (congrFun e_24 66) 2).trans hr_66_2) ((congrFun (congrFun e_24 66) 10).trans hr_66_10) H
        · refine ev_b0 (t := 225) (p' := 224) rfl rfl rfl (if_neg c_25) ?_
          obtain rfl := Option.some.inj H
          exact ev_vret rfl rfl rfl
      · refine ev_b0 (t := 214) (p' := 214) rfl rfl rfl (if_pos c_23) ?_
        exact J_199_214_ok (d := d) (Or.inr rfl) hx g_0 g_1 g_3 g_4 g_5 g_6 g_7 g_8 g_9 hnb hr_66_2 hr_66_10 H
/-- GameTextModel.varItem(II)V -/
def F_199 (N : Nat) (g : Nat) (x : Nat) (x_1 : Int32) (x_2 : Int32) (σ : st_S) : Option (st_S) :=
  if (gI σ g 12) = 12 then
    (F_159 N x_1 (σ)).bind fun p_2 =>
    (F_165 N 5 p_2.1 (p_2.2)).bind fun p_3 =>
    some (p_3)
  else
    (F_166 N x (x_1 + 1) (σ)).bind fun p_4 =>
    if p_4.1 < 0 then
      (F_162 N (x_1 + 3) (p_4.2)).bind fun p_6 =>
      if (if p_6.1 = 5 then 1 else 0 : Int32) = 0 then
        (F_200 N (x_1 + 3) x_2 (p_6.2)).bind fun p_9 =>
        (F_162 N p_9.1 (p_9.2)).bind fun p_10 =>
        if aB (gI p_4.2 g 12) (gN p_10.2 (g + 18)) then
          (F_163 N (x_1 + 3) 16 (st_e (p_10.2) (g + 18) (((gI p_4.2 g 12) : Int32).toNatClampNeg) (vp_nar .boolean (if p_6.1 = 5 then 1 else 0 : Int32)))).bind fun p_13 =>
          (F_201 N g x (x_1 + 3) p_13.1 0 1 (p_13.2)).bind fun p_14 =>
          if (gI p_14.2 66 16) = 0 then
            (F_201 N g x (p_13.1 + 1) p_9.1 0 1 (p_14.2)).bind fun p_16 =>
            J_199_187 N g x x_1 x_2 (gI p_4.2 g 12) (if p_6.1 = 5 then 1 else 0 : Int32) p_9.1 (if p_10.1 = 9 then 1 else 0 : Int32) p_14.1 p_16.1 p_13.1 (p_16.2)
          else
            J_199_187 N g x x_1 x_2 (gI p_4.2 g 12) (if p_6.1 = 5 then 1 else 0 : Int32) p_9.1 (if p_10.1 = 9 then 1 else 0 : Int32) p_14.1 (-1) p_13.1 (p_14.2)
        else none
      else
        (F_162 N (x_1 + 4) (p_6.2)).bind fun p_17 =>
        if aB (gI p_4.2 g 12) (gN p_17.2 (g + 18)) then
          J_199_187 N g x x_1 x_2 (gI p_4.2 g 12) (if p_6.1 = 5 then 1 else 0 : Int32) (x_1 + 4) (if p_17.1 = 9 then 1 else 0 : Int32) (-1) (-1) (x_1 + 3) (st_e (p_17.2) (g + 18) (((gI p_4.2 g 12) : Int32).toNatClampNeg) (vp_nar .boolean (if p_6.1 = 5 then 1 else 0 : Int32)))
        else none
    else
      (F_159 N (x_1 + 1) (p_4.2)).bind fun p_20 =>
      (F_165 N 2 p_20.1 (p_20.2)).bind fun p_21 =>
      some (p_21)
set_option maxRecDepth 100000 in
theorem F_199_R {N : Nat} {g : Nat} {x : Nat} {x_1 : Int32} {x_2 : Int32} {σ : st_S} {p : st_S} (H : F_199 N g x x_1 x_2 σ = some p) : gR p = gR σ := by
  unfold F_199 at H
  refine F_if H (fun _ H => ?_) (fun _ H => ?_)
  · obtain ⟨p_2, G_2, H⟩ := F_bd H
    obtain ⟨p_3, G_3, H⟩ := F_bd H
    obtain rfl := Option.some.inj H
    exact ((F_165_R G_3).trans ((F_159_R G_2).trans rfl))
  · obtain ⟨p_4, G_4, H⟩ := F_bd H
    refine F_if H (fun _ H => ?_) (fun _ H => ?_)
    · obtain ⟨p_6, G_6, H⟩ := F_bd H
      refine F_if H (fun _ H => ?_) (fun _ H => ?_)
      · obtain ⟨p_9, G_9, H⟩ := F_bd H
        obtain ⟨p_10, G_10, H⟩ := F_bd H
        obtain ⟨_, H⟩ := F_gd H
        obtain ⟨p_13, G_13, H⟩ := F_bd H
        obtain ⟨p_14, G_14, H⟩ := F_bd H
        refine F_if H (fun _ H => ?_) (fun _ H => ?_)
        · obtain ⟨p_16, G_16, H⟩ := F_bd H
          exact (((J_199_187_R H)).trans ((F_201_R G_16).trans ((F_201_R G_14).trans ((F_163_R G_13).trans ((F_162_R G_10).trans ((F_200_R G_9).trans ((F_162_R G_6).trans ((F_166_R G_4).trans rfl))))))))
        · exact (((J_199_187_R H)).trans ((F_201_R G_14).trans ((F_163_R G_13).trans ((F_162_R G_10).trans ((F_200_R G_9).trans ((F_162_R G_6).trans ((F_166_R G_4).trans rfl)))))))
      · obtain ⟨p_17, G_17, H⟩ := F_bd H
        obtain ⟨_, H⟩ := F_gd H
        exact (((J_199_187_R H)).trans ((F_162_R G_17).trans ((F_162_R G_6).trans ((F_166_R G_4).trans rfl))))
    · obtain ⟨p_20, G_20, H⟩ := F_bd H
      obtain ⟨p_21, G_21, H⟩ := F_bd H
      obtain rfl := Option.some.inj H
      exact ((F_165_R G_21).trans ((F_159_R G_20).trans ((F_166_R G_4).trans rfl)))
set_option maxHeartbeats 4000000 in
set_option maxRecDepth 100000 in
theorem F_199_ok {N d : Nat} {g : Nat} (hg : g = 79 ∨ g = 115) {x : Nat} (hx : x = 67 ∨ x = 69) {x_1 : Int32} {x_2 : Int32} {σ : st_S} {p : st_S} (hr_66_2 : gR σ 66 2 = x) (hr_66_10 : gR σ 66 10 = g) (H : F_199 N g x x_1 x_2 σ = some p) : vz_ev P0 (d + 9) 199 0 (lv_args 0 [.ref 66, .int x_1, .int x_2]) [] (hp σ) (.inl none, hp p) := by
  unfold F_199 at H
  rcases hg with rfl | rfl
  · refine ev_x (i := .aload_n 0) (len := 1) (p' := 1) (s' := [.ref 66]) rfl rfl rfl ?_
    refine ev_gr (p' := 4) (v := 79) rfl rfl rfl ly_66 rfl rfl hr_66_10 ?_
    refine ev_gi (p' := 7) (v := (gI σ 79 12)) rfl rfl rfl ly_79 rfl rfl rfl ?_
    refine ev_x (i := .bipush 12) (len := 2) (p' := 9) (s' := [.int 12, .int (gI σ 79 12)]) rfl rfl rfl ?_
    refine F_if H (fun c_1 H => ?_) (fun c_1 H => ?_)
    · refine ev_b2 (t := 23) (p' := 12) rfl rfl rfl (if_neg (fun q => q c_1)) ?_
      refine ev_x (i := .aload_n 0) (len := 1) (p' := 13) (s' := [.ref 66]) rfl rfl rfl ?_
      refine ev_x (i := .iconst 5) (len := 1) (p' := 14) (s' := [.int 5, .ref 66]) rfl rfl rfl ?_
      refine ev_x (i := .aload_n 0) (len := 1) (p' := 15) (s' := [.ref 66, .int 5, .ref 66]) rfl rfl rfl ?_
      refine ev_x (i := .iload_n 1) (len := 1) (p' := 16) (s' := [.int x_1, .ref 66, .int 5, .ref 66]) rfl rfl rfl ?_
      obtain ⟨p_2, G_2, H⟩ := F_bd H
      refine ev_cv (d := d + 8) (As := [.int x_1]) (a := 66) (p' := 19) rfl rfl rfl ly_66 rfl rfl rfl rfl rfl rfl rfl (F_159_ok (d := d + 6)   G_2) ?_
      refine ev_st (st' := [.int p_2.1, .int 5, .ref 66]) rfl ?_
      have e_2 := F_159_R G_2
      obtain ⟨p_3, G_3, H⟩ := F_bd H
      refine ev_cv (d := d + 8) (As := [.int 5, .int p_2.1]) (a := 66) (p' := 22) rfl rfl rfl ly_66 rfl rfl rfl rfl rfl rfl rfl (F_165_ok (d := d + 7)   G_3) ?_
      refine ev_st (st' := []) rfl ?_
      have e_3 := F_165_R G_3
      obtain rfl := Option.some.inj H
      exact ev_vret rfl rfl rfl
    · refine ev_b2 (t := 23) (p' := 23) rfl rfl rfl (if_pos c_1) ?_
      refine ev_x (i := .aload_n 0) (len := 1) (p' := 24) (s' := [.ref 66]) rfl rfl rfl ?_
      refine ev_x (i := .iload_n 1) (len := 1) (p' := 25) (s' := [.int x_1, .ref 66]) rfl rfl rfl ?_
      refine ev_x (i := .iconst 1) (len := 1) (p' := 26) (s' := [.int 1, .int x_1, .ref 66]) rfl rfl rfl ?_
      refine ev_x (i := .iadd) (len := 1) (p' := 27) (s' := [.int (x_1 + 1), .ref 66]) rfl rfl rfl ?_
      obtain ⟨p_4, G_4, H⟩ := F_bd H
      refine ev_cv (d := d + 8) (As := [.int (x_1 + 1)]) (a := 66) (p' := 30) rfl rfl rfl ly_66 rfl rfl rfl rfl rfl rfl rfl (F_166_ok (d := d + 4) (hx := hx) (hr_66_2 := hr_66_2) G_4) ?_
      refine ev_st (st' := [.int p_4.1]) rfl ?_
      have e_4 := F_166_R G_4
      refine F_if H (fun c_5 H => ?_) (fun c_5 H => ?_)
      · refine ev_b0 (t := 46) (p' := 46) rfl rfl rfl (if_pos c_5) ?_
        refine ev_x (i := .aload_n 0) (len := 1) (p' := 47) (s' := [.ref 66]) rfl rfl rfl ?_
        refine ev_gr (p' := 50) (v := 79) rfl rfl rfl ly_66 rfl rfl ((congrFun (congrFun e_4 66) 10).trans hr_66_10) ?_
        refine ev_gi (p' := 53) (v := (gI p_4.2 79 12)) rfl rfl rfl ly_79 rfl rfl rfl ?_
        refine ev_x (i := .istore_n 3) (len := 1) (p' := 54) (s' := []) (l' := [(3, .int (gI p_4.2 79 12)), (0, .ref 66), (1, .int x_1), (2, .int x_2)]) rfl rfl rfl ?_
        refine ev_x (i := .aload_n 0) (len := 1) (p' := 55) (s' := [.ref 66]) rfl rfl rfl ?_
        refine ev_x (i := .iload_n 1) (len := 1) (p' := 56) (s' := [.int x_1, .ref 66]) rfl rfl rfl ?_
        refine ev_x (i := .iconst 3) (len := 1) (p' := 57) (s' := [.int 3, .int x_1, .ref 66]) rfl rfl rfl ?_
        refine ev_x (i := .iadd) (len := 1) (p' := 58) (s' := [.int (x_1 + 3), .ref 66]) rfl rfl rfl ?_
        obtain ⟨p_6, G_6, H⟩ := F_bd H
        refine ev_cv (d := d + 8) (As := [.int (x_1 + 3)]) (a := 66) (p' := 61) rfl rfl rfl ly_66 rfl rfl rfl rfl rfl rfl rfl (F_162_ok (d := d + 6)   G_6) ?_
        refine ev_st (st' := [.int p_6.1]) rfl ?_
        have e_6 := F_162_R G_6
        refine ev_x (i := .iconst 5) (len := 1) (p' := 62) (s' := [.int 5, .int p_6.1]) rfl rfl rfl ?_
        refine F_jn (A := vz_ev P0 (d + 9) 199 70 [(3, .int (gI p_4.2 79 12)), (0, .ref 66), (1, .int x_1), (2, .int x_2)] [.int (if p_6.1 = 5 then 1 else 0 : Int32)] (hp (p_6.2)) (.inl none, hp p)) ?_ (fun J => ?_)
        · refine ev_x (i := .istore 4) (len := 2) (p' := 72) (s' := []) (l' := [(4, .int (if p_6.1 = 5 then 1 else 0 : Int32)), (3, .int (gI p_4.2 79 12)), (0, .ref 66), (1, .int x_1), (2, .int x_2)]) rfl rfl rfl ?_
          refine ev_x (i := .iload 4) (len := 2) (p' := 74) (s' := [.int (if p_6.1 = 5 then 1 else 0 : Int32)]) rfl rfl rfl ?_
          refine F_if H (fun c_8 H => ?_) (fun c_8 H => ?_)
          · refine ev_b0 (t := 83) (p' := 83) rfl rfl rfl (if_pos c_8) ?_
            refine ev_x (i := .aload_n 0) (len := 1) (p' := 84) (s' := [.ref 66]) rfl rfl rfl ?_
            refine ev_x (i := .iload_n 1) (len := 1) (p' := 85) (s' := [.int x_1, .ref 66]) rfl rfl rfl ?_
            refine ev_x (i := .iconst 3) (len := 1) (p' := 86) (s' := [.int 3, .int x_1, .ref 66]) rfl rfl rfl ?_
            refine ev_x (i := .iadd) (len := 1) (p' := 87) (s' := [.int (x_1 + 3), .ref 66]) rfl rfl rfl ?_
            refine ev_x (i := .iload_n 2) (len := 1) (p' := 88) (s' := [.int x_2, .int (x_1 + 3), .ref 66]) rfl rfl rfl ?_
            obtain ⟨p_9, G_9, H⟩ := F_bd H
            refine ev_cv (d := d + 8) (As := [.int (x_1 + 3), .int x_2]) (a := 66) (p' := 91) rfl rfl rfl ly_66 rfl rfl rfl rfl rfl rfl rfl (F_200_ok (d := d + 5)   G_9) ?_
            refine ev_st (st' := [.int p_9.1]) rfl ?_
            have e_9 := F_200_R G_9
            refine ev_x (i := .istore 5) (len := 2) (p' := 93) (s' := []) (l' := [(5, .int p_9.1), (4, .int (if p_6.1 = 5 then 1 else 0 : Int32)), (3, .int (gI p_4.2 79 12)), (0, .ref 66), (1, .int x_1), (2, .int x_2)]) rfl rfl rfl ?_
            refine ev_x (i := .aload_n 0) (len := 1) (p' := 94) (s' := [.ref 66]) rfl rfl rfl ?_
            refine ev_x (i := .iload 5) (len := 2) (p' := 96) (s' := [.int p_9.1, .ref 66]) rfl rfl rfl ?_
            obtain ⟨p_10, G_10, H⟩ := F_bd H
            refine ev_cv (d := d + 8) (As := [.int p_9.1]) (a := 66) (p' := 99) rfl rfl rfl ly_66 rfl rfl rfl rfl rfl rfl rfl (F_162_ok (d := d + 6)   G_10) ?_
            refine ev_st (st' := [.int p_10.1]) rfl ?_
            have e_10 := F_162_R G_10
            refine ev_x (i := .bipush 9) (len := 2) (p' := 101) (s' := [.int 9, .int p_10.1]) rfl rfl rfl ?_
            refine F_jn (A := vz_ev P0 (d + 9) 199 109 [(5, .int p_9.1), (4, .int (if p_6.1 = 5 then 1 else 0 : Int32)), (3, .int (gI p_4.2 79 12)), (0, .ref 66), (1, .int x_1), (2, .int x_2)] [.int (if p_10.1 = 9 then 1 else 0 : Int32)] (hp (p_10.2)) (.inl none, hp p)) ?_ (fun J => ?_)
            · refine ev_x (i := .istore 6) (len := 2) (p' := 111) (s' := []) (l' := [(6, .int (if p_10.1 = 9 then 1 else 0 : Int32)), (5, .int p_9.1), (4, .int (if p_6.1 = 5 then 1 else 0 : Int32)), (3, .int (gI p_4.2 79 12)), (0, .ref 66), (1, .int x_1), (2, .int x_2)]) rfl rfl rfl ?_
              refine ev_x (i := .aload_n 0) (len := 1) (p' := 112) (s' := [.ref 66]) rfl rfl rfl ?_
              refine ev_gr (p' := 115) (v := 79) rfl rfl rfl ly_66 rfl rfl ((congrFun (congrFun e_10 66) 10).trans ((congrFun (congrFun e_9 66) 10).trans ((congrFun (congrFun e_6 66) 10).trans ((congrFun (congrFun e_4 66) 10).trans hr_66_10)))) ?_
              refine ev_gc (p' := 118) (v := 97) rfl rfl rfl ly_79 rfl rfl ?_
              refine ev_x (i := .iload_n 3) (len := 1) (p' := 119) (s' := [.int (gI p_4.2 79 12), .ref 97]) rfl rfl rfl ?_
              refine ev_x (i := .iload 4) (len := 2) (p' := 121) (s' := [.int (if p_6.1 = 5 then 1 else 0 : Int32), .int (gI p_4.2 79 12), .ref 97]) rfl rfl rfl ?_
              obtain ⟨b_12, H⟩ := F_gd H
              refine ev_pb (j := ((gI p_4.2 79 12) : Int32).toNatClampNeg) (p' := 122) rfl rfl ly_97 rfl (gd_in b_12) rfl ?_
              refine ev_x (i := .iconst (-1)) (len := 1) (p' := 123) (s' := [.int (-1)]) rfl rfl rfl ?_
              refine ev_x (i := .istore 7) (len := 2) (p' := 125) (s' := []) (l' := [(7, .int (-1)), (6, .int (if p_10.1 = 9 then 1 else 0 : Int32)), (5, .int p_9.1), (4, .int (if p_6.1 = 5 then 1 else 0 : Int32)), (3, .int (gI p_4.2 79 12)), (0, .ref 66), (1, .int x_1), (2, .int x_2)]) rfl rfl rfl ?_
              refine ev_x (i := .iconst (-1)) (len := 1) (p' := 126) (s' := [.int (-1)]) rfl rfl rfl ?_
              refine ev_x (i := .istore 8) (len := 2) (p' := 128) (s' := []) (l' := [(8, .int (-1)), (7, .int (-1)), (6, .int (if p_10.1 = 9 then 1 else 0 : Int32)), (5, .int p_9.1), (4, .int (if p_6.1 = 5 then 1 else 0 : Int32)), (3, .int (gI p_4.2 79 12)), (0, .ref 66), (1, .int x_1), (2, .int x_2)]) rfl rfl rfl ?_
              refine ev_x (i := .iload_n 1) (len := 1) (p' := 129) (s' := [.int x_1]) rfl rfl rfl ?_
              refine ev_x (i := .iconst 3) (len := 1) (p' := 130) (s' := [.int 3, .int x_1]) rfl rfl rfl ?_
              refine ev_x (i := .iadd) (len := 1) (p' := 131) (s' := [.int (x_1 + 3)]) rfl rfl rfl ?_
              refine ev_x (i := .istore 9) (len := 2) (p' := 133) (s' := []) (l' := [(9, .int (x_1 + 3)), (8, .int (-1)), (7, .int (-1)), (6, .int (if p_10.1 = 9 then 1 else 0 : Int32)), (5, .int p_9.1), (4, .int (if p_6.1 = 5 then 1 else 0 : Int32)), (3, .int (gI p_4.2 79 12)), (0, .ref 66), (1, .int x_1), (2, .int x_2)]) rfl rfl rfl ?_
              refine ev_x (i := .iload 4) (len := 2) (p' := 135) (s' := [.int (if p_6.1 = 5 then 1 else 0 : Int32)]) rfl rfl rfl ?_
              refine ev_b0 (t := 187) (p' := 138) rfl rfl rfl (if_neg (fun q => q c_8)) ?_
              refine ev_x (i := .aload_n 0) (len := 1) (p' := 139) (s' := [.ref 66]) rfl rfl rfl ?_
              refine ev_x (i := .iload_n 1) (len := 1) (p' := 140) (s' := [.int x_1, .ref 66]) rfl rfl rfl ?_
              refine ev_x (i := .iconst 3) (len := 1) (p' := 141) (s' := [.int 3, .int x_1, .ref 66]) rfl rfl rfl ?_
              refine ev_x (i := .iadd) (len := 1) (p' := 142) (s' := [.int (x_1 + 3), .ref 66]) rfl rfl rfl ?_
              refine ev_x (i := .bipush 16) (len := 2) (p' := 144) (s' := [.int 16, .int (x_1 + 3), .ref 66]) rfl rfl rfl ?_
              obtain ⟨p_13, G_13, H⟩ := F_bd H
              refine ev_cv (d := d + 8) (As := [.int (x_1 + 3), .int 16]) (a := 66) (p' := 147) rfl rfl rfl ly_66 rfl rfl rfl rfl rfl rfl rfl (F_163_ok (d := d + 5)   G_13) ?_
              refine ev_st (st' := [.int p_13.1]) rfl ?_
              have e_13 := F_163_R G_13
              refine ev_x (i := .istore 9) (len := 2) (p' := 149) (s' := []) (l' := [(9, .int p_13.1), (8, .int (-1)), (7, .int (-1)), (6, .int (if p_10.1 = 9 then 1 else 0 : Int32)), (5, .int p_9.1), (4, .int (if p_6.1 = 5 then 1 else 0 : Int32)), (3, .int (gI p_4.2 79 12)), (0, .ref 66), (1, .int x_1), (2, .int x_2)]) rfl rfl rfl ?_
              refine ev_x (i := .aload_n 0) (len := 1) (p' := 150) (s' := [.ref 66]) rfl rfl rfl ?_
              refine ev_x (i := .iload_n 1) (len := 1) (p' := 151) (s' := [.int x_1, .ref 66]) rfl rfl rfl ?_
              refine ev_x (i := .iconst 3) (len := 1) (p' := 152) (s' := [.int 3, .int x_1, .ref 66]) rfl rfl rfl ?_
              refine ev_x (i := .iadd) (len := 1) (p' := 153) (s' := [.int (x_1 + 3), .ref 66]) rfl rfl rfl ?_
              refine ev_x (i := .iload 9) (len := 2) (p' := 155) (s' := [.int p_13.1, .int (x_1 + 3), .ref 66]) rfl rfl rfl ?_
              refine ev_x (i := .iconst 0) (len := 1) (p' := 156) (s' := [.int 0, .int p_13.1, .int (x_1 + 3), .ref 66]) rfl rfl rfl ?_
              refine ev_x (i := .iconst 1) (len := 1) (p' := 157) (s' := [.int 1, .int 0, .int p_13.1, .int (x_1 + 3), .ref 66]) rfl rfl rfl ?_
              obtain ⟨p_14, G_14, H⟩ := F_bd H
              refine ev_cv (d := d + 8) (As := [.int (x_1 + 3), .int p_13.1, .int 0, .int 1]) (a := 66) (p' := 160) rfl rfl rfl ly_66 rfl rfl rfl rfl rfl rfl rfl (F_201_ok (d := d + 0) (hg := (Or.inl rfl)) (hx := hx) (hr_66_2 := ((congrFun (congrFun e_13 66) 2).trans ((congrFun (congrFun e_10 66) 2).trans ((congrFun (congrFun e_9 66) 2).trans ((congrFun (congrFun e_6 66) 2).trans ((congrFun (congrFun e_4 66) 2).trans hr_66_2)))))) (hr_66_10 := ((congrFun (congrFun e_13 66) 10).trans ((congrFun (congrFun e_10 66) 10).trans ((congrFun (congrFun e_9 66) 10).trans ((congrFun (congrFun e_6 66) 10).trans ((congrFun (congrFun e_4 66) 10).trans hr_66_10)))))) G_14) ?_
              refine ev_st (st' := [.int p_14.1]) rfl ?_
              have e_14 := F_201_R G_14
              refine ev_x (i := .istore 7) (len := 2) (p' := 162) (s' := []) (l' := [(7, .int p_14.1), (9, .int p_13.1), (8, .int (-1)), (6, .int (if p_10.1 = 9 then 1 else 0 : Int32)), (5, .int p_9.1), (4, .int (if p_6.1 = 5 then 1 else 0 : Int32)), (3, .int (gI p_4.2 79 12)), (0, .ref 66), (1, .int x_1), (2, .int x_2)]) rfl rfl rfl ?_
              refine ev_x (i := .aload_n 0) (len := 1) (p' := 163) (s' := [.ref 66]) rfl rfl rfl ?_
              refine ev_gi (p' := 166) (v := (gI p_14.2 66 16)) rfl rfl rfl ly_66 rfl rfl rfl ?_
              refine F_if H (fun c_15 H => ?_) (fun c_15 H => ?_)
              · refine ev_b0 (t := 184) (p' := 169) rfl rfl rfl (if_neg (fun q => q c_15)) ?_
                refine ev_x (i := .aload_n 0) (len := 1) (p' := 170) (s' := [.ref 66]) rfl rfl rfl ?_
                refine ev_x (i := .iload 9) (len := 2) (p' := 172) (s' := [.int p_13.1, .ref 66]) rfl rfl rfl ?_
                refine ev_x (i := .iconst 1) (len := 1) (p' := 173) (s' := [.int 1, .int p_13.1, .ref 66]) rfl rfl rfl ?_
                refine ev_x (i := .iadd) (len := 1) (p' := 174) (s' := [.int (p_13.1 + 1), .ref 66]) rfl rfl rfl ?_
                refine ev_x (i := .iload 5) (len := 2) (p' := 176) (s' := [.int p_9.1, .int (p_13.1 + 1), .ref 66]) rfl rfl rfl ?_
                refine ev_x (i := .iconst 0) (len := 1) (p' := 177) (s' := [.int 0, .int p_9.1, .int (p_13.1 + 1), .ref 66]) rfl rfl rfl ?_
                refine ev_x (i := .iconst 1) (len := 1) (p' := 178) (s' := [.int 1, .int 0, .int p_9.1, .int (p_13.1 + 1), .ref 66]) rfl rfl rfl ?_
                obtain ⟨p_16, G_16, H⟩ := F_bd H
                refine ev_cv (d := d + 8) (As := [.int (p_13.1 + 1), .int p_9.1, .int 0, .int 1]) (a := 66) (p' := 181) rfl rfl rfl ly_66 rfl rfl rfl rfl rfl rfl rfl (F_201_ok (d := d + 0) (hg := (Or.inl rfl)) (hx := hx) (hr_66_2 := ((congrFun (congrFun e_14 66) 2).trans ((congrFun (congrFun e_13 66) 2).trans ((congrFun (congrFun e_10 66) 2).trans ((congrFun (congrFun e_9 66) 2).trans ((congrFun (congrFun e_6 66) 2).trans ((congrFun (congrFun e_4 66) 2).trans hr_66_2))))))) (hr_66_10 := ((congrFun (congrFun e_14 66) 10).trans ((congrFun (congrFun e_13 66) 10).trans ((congrFun (congrFun e_10 66) 10).trans ((congrFun (congrFun e_9 66) 10).trans ((congrFun (congrFun e_6 66) 10).trans ((congrFun (congrFun e_4 66) 10).trans hr_66_10))))))) G_16) ?_
                refine ev_st (st' := [.int p_16.1]) rfl ?_
                have e_16 := F_201_R G_16
                refine ev_x (i := .goto 4) (len := 3) (p' := 185) (s' := [.int p_16.1]) rfl rfl rfl ?_
                refine ev_x (i := .istore 8) (len := 2) (p' := 187) (s' := []) (l' := [(8, .int p_16.1), (7, .int p_14.1), (9, .int p_13.1), (6, .int (if p_10.1 = 9 then 1 else 0 : Int32)), (5, .int p_9.1), (4, .int (if p_6.1 = 5 then 1 else 0 : Int32)), (3, .int (gI p_4.2 79 12)), (0, .ref 66), (1, .int x_1), (2, .int x_2)]) rfl rfl rfl ?_
                exact J_199_187_ok (d := d) (Or.inl rfl) hx rfl rfl rfl rfl rfl rfl rfl rfl rfl rfl rfl ((congrFun (congrFun e_16 66) 2).trans ((congrFun (congrFun e_14 66) 2).trans ((congrFun (congrFun e_13 66) 2).trans ((congrFun (congrFun e_10 66) 2).trans ((congrFun (congrFun e_9 66) 2).trans ((congrFun (congrFun e_6 66) 2).trans ((congrFun (congrFun e_4 66) 2).trans hr_66_2))))))) ((congrFun (congrFun e_16 66) 10).trans ((congrFun (congrFun e_14 66) 10).trans ((congrFun (congrFun e_13 66) 10).trans ((congrFun (congrFun e_10 66) 10).trans ((congrFun (congrFun e_9 66) 10).trans ((congrFun (congrFun e_6 66) 10).trans ((congrFun (congrFun e_4 66) 10).trans hr_66_10))))))) H
              · refine ev_b0 (t := 184) (p' := 184) rfl rfl rfl (if_pos c_15) ?_
                refine ev_x (i := .iconst (-1)) (len := 1) (p' := 185) (s' := [.int (-1)]) rfl rfl rfl ?_
                refine ev_x (i := .istore 8) (len := 2) (p' := 187) (s' := []) (l' := [(8, .int (-1)), (7, .int p_14.1), (9, .int p_13.1), (6, .int (if p_10.1 = 9 then 1 else 0 : Int32)), (5, .int p_9.1), (4, .int (if p_6.1 = 5 then 1 else 0 : Int32)), (3, .int (gI p_4.2 79 12)), (0, .ref 66), (1, .int x_1), (2, .int x_2)]) rfl rfl rfl ?_
                exact J_199_187_ok (d := d) (Or.inl rfl) hx rfl rfl rfl rfl rfl rfl rfl rfl rfl rfl rfl ((congrFun (congrFun e_14 66) 2).trans ((congrFun (congrFun e_13 66) 2).trans ((congrFun (congrFun e_10 66) 2).trans ((congrFun (congrFun e_9 66) 2).trans ((congrFun (congrFun e_6 66) 2).trans ((congrFun (congrFun e_4 66) 2).trans hr_66_2)))))) ((congrFun (congrFun e_14 66) 10).trans ((congrFun (congrFun e_13 66) 10).trans ((congrFun (congrFun e_10 66) 10).trans ((congrFun (congrFun e_9 66) 10).trans ((congrFun (congrFun e_6 66) 10).trans ((congrFun (congrFun e_4 66) 10).trans hr_66_10)))))) H
            · by_cases c_11 : p_10.1 = 9
              · refine ev_b2 (t := 108) (p' := 104) rfl rfl rfl (if_neg (fun q => q c_11)) ?_
                refine ev_x (i := .iconst 1) (len := 1) (p' := 105) (s' := [.int 1]) rfl rfl rfl ?_
                refine ev_x (i := .goto 4) (len := 3) (p' := 109) (s' := [.int 1]) rfl rfl rfl ?_
                exact ev_st (congrArg (fun z => Value.int z :: []) (by rw [if_pos c_11])) J
              · refine ev_b2 (t := 108) (p' := 108) rfl rfl rfl (if_pos c_11) ?_
                refine ev_x (i := .iconst 0) (len := 1) (p' := 109) (s' := [.int 0]) rfl rfl rfl ?_
                exact ev_st (congrArg (fun z => Value.int z :: []) (by rw [if_neg c_11])) J
          · refine ev_b0 (t := 83) (p' := 77) rfl rfl rfl (if_neg c_8) ?_
            refine ev_x (i := .iload_n 1) (len := 1) (p' := 78) (s' := [.int x_1]) rfl rfl rfl ?_
            refine ev_x (i := .iconst 4) (len := 1) (p' := 79) (s' := [.int 4, .int x_1]) rfl rfl rfl ?_
            refine ev_x (i := .iadd) (len := 1) (p' := 80) (s' := [.int (x_1 + 4)]) rfl rfl rfl ?_
            refine ev_x (i := .goto 11) (len := 3) (p' := 91) (s' := [.int (x_1 + 4)]) rfl rfl rfl ?_
            refine ev_x (i := .istore 5) (len := 2) (p' := 93) (s' := []) (l' := [(5, .int (x_1 + 4)), (4, .int (if p_6.1 = 5 then 1 else 0 : Int32)), (3, .int (gI p_4.2 79 12)), (0, .ref 66), (1, .int x_1), (2, .int x_2)]) rfl rfl rfl ?_
            refine ev_x (i := .aload_n 0) (len := 1) (p' := 94) (s' := [.ref 66]) rfl rfl rfl ?_
            refine ev_x (i := .iload 5) (len := 2) (p' := 96) (s' := [.int (x_1 + 4), .ref 66]) rfl rfl rfl ?_
            obtain ⟨p_17, G_17, H⟩ := F_bd H
            refine ev_cv (d := d + 8) (As := [.int (x_1 + 4)]) (a := 66) (p' := 99) rfl rfl rfl ly_66 rfl rfl rfl rfl rfl rfl rfl (F_162_ok (d := d + 6)   G_17) ?_
            refine ev_st (st' := [.int p_17.1]) rfl ?_
            have e_17 := F_162_R G_17
            refine ev_x (i := .bipush 9) (len := 2) (p' := 101) (s' := [.int 9, .int p_17.1]) rfl rfl rfl ?_
            refine F_jn (A := vz_ev P0 (d + 9) 199 109 [(5, .int (x_1 + 4)), (4, .int (if p_6.1 = 5 then 1 else 0 : Int32)), (3, .int (gI p_4.2 79 12)), (0, .ref 66), (1, .int x_1), (2, .int x_2)] [.int (if p_17.1 = 9 then 1 else 0 : Int32)] (hp (p_17.2)) (.inl none, hp p)) ?_ (fun J => ?_)
            · refine ev_x (i := .istore 6) (len := 2) (p' := 111) (s' := []) (l' := [(6, .int (if p_17.1 = 9 then 1 else 0 : Int32)), (5, .int (x_1 + 4)), (4, .int (if p_6.1 = 5 then 1 else 0 : Int32)), (3, .int (gI p_4.2 79 12)), (0, .ref 66), (1, .int x_1), (2, .int x_2)]) rfl rfl rfl ?_
              refine ev_x (i := .aload_n 0) (len := 1) (p' := 112) (s' := [.ref 66]) rfl rfl rfl ?_
              refine ev_gr (p' := 115) (v := 79) rfl rfl rfl ly_66 rfl rfl ((congrFun (congrFun e_17 66) 10).trans ((congrFun (congrFun e_6 66) 10).trans ((congrFun (congrFun e_4 66) 10).trans hr_66_10))) ?_
              refine ev_gc (p' := 118) (v := 97) rfl rfl rfl ly_79 rfl rfl ?_
              refine ev_x (i := .iload_n 3) (len := 1) (p' := 119) (s' := [.int (gI p_4.2 79 12), .ref 97]) rfl rfl rfl ?_
              refine ev_x (i := .iload 4) (len := 2) (p' := 121) (s' := [.int (if p_6.1 = 5 then 1 else 0 : Int32), .int (gI p_4.2 79 12), .ref 97]) rfl rfl rfl ?_
              obtain ⟨b_19, H⟩ := F_gd H
              refine ev_pb (j := ((gI p_4.2 79 12) : Int32).toNatClampNeg) (p' := 122) rfl rfl ly_97 rfl (gd_in b_19) rfl ?_
              refine ev_x (i := .iconst (-1)) (len := 1) (p' := 123) (s' := [.int (-1)]) rfl rfl rfl ?_
              refine ev_x (i := .istore 7) (len := 2) (p' := 125) (s' := []) (l' := [(7, .int (-1)), (6, .int (if p_17.1 = 9 then 1 else 0 : Int32)), (5, .int (x_1 + 4)), (4, .int (if p_6.1 = 5 then 1 else 0 : Int32)), (3, .int (gI p_4.2 79 12)), (0, .ref 66), (1, .int x_1), (2, .int x_2)]) rfl rfl rfl ?_
              refine ev_x (i := .iconst (-1)) (len := 1) (p' := 126) (s' := [.int (-1)]) rfl rfl rfl ?_
              refine ev_x (i := .istore 8) (len := 2) (p' := 128) (s' := []) (l' := [(8, .int (-1)), (7, .int (-1)), (6, .int (if p_17.1 = 9 then 1 else 0 : Int32)), (5, .int (x_1 + 4)), (4, .int (if p_6.1 = 5 then 1 else 0 : Int32)), (3, .int (gI p_4.2 79 12)), (0, .ref 66), (1, .int x_1), (2, .int x_2)]) rfl rfl rfl ?_
              refine ev_x (i := .iload_n 1) (len := 1) (p' := 129) (s' := [.int x_1]) rfl rfl rfl ?_
              refine ev_x (i := .iconst 3) (len := 1) (p' := 130) (s' := [.int 3, .int x_1]) rfl rfl rfl ?_
              refine ev_x (i := .iadd) (len := 1) (p' := 131) (s' := [.int (x_1 + 3)]) rfl rfl rfl ?_
              refine ev_x (i := .istore 9) (len := 2) (p' := 133) (s' := []) (l' := [(9, .int (x_1 + 3)), (8, .int (-1)), (7, .int (-1)), (6, .int (if p_17.1 = 9 then 1 else 0 : Int32)), (5, .int (x_1 + 4)), (4, .int (if p_6.1 = 5 then 1 else 0 : Int32)), (3, .int (gI p_4.2 79 12)), (0, .ref 66), (1, .int x_1), (2, .int x_2)]) rfl rfl rfl ?_
              refine ev_x (i := .iload 4) (len := 2) (p' := 135) (s' := [.int (if p_6.1 = 5 then 1 else 0 : Int32)]) rfl rfl rfl ?_
              refine ev_b0 (t := 187) (p' := 187) rfl rfl rfl (if_pos c_8) ?_
              exact J_199_187_ok (d := d) (Or.inl rfl) hx rfl rfl rfl rfl rfl rfl rfl rfl rfl rfl rfl ((congrFun (congrFun e_17 66) 2).trans ((congrFun (congrFun e_6 66) 2).trans ((congrFun (congrFun e_4 66) 2).trans hr_66_2))) ((congrFun (congrFun e_17 66) 10).trans ((congrFun (congrFun e_6 66) 10).trans ((congrFun (congrFun e_4 66) 10).trans hr_66_10))) H
            · by_cases c_18 : p_17.1 = 9
              · refine ev_b2 (t := 108) (p' := 104) rfl rfl rfl (if_neg (fun q => q c_18)) ?_
                refine ev_x (i := .iconst 1) (len := 1) (p' := 105) (s' := [.int 1]) rfl rfl rfl ?_
                refine ev_x (i := .goto 4) (len := 3) (p' := 109) (s' := [.int 1]) rfl rfl rfl ?_
                exact ev_st (congrArg (fun z => Value.int z :: []) (by rw [if_pos c_18])) J
              · refine ev_b2 (t := 108) (p' := 108) rfl rfl rfl (if_pos c_18) ?_
                refine ev_x (i := .iconst 0) (len := 1) (p' := 109) (s' := [.int 0]) rfl rfl rfl ?_
                exact ev_st (congrArg (fun z => Value.int z :: []) (by rw [if_neg c_18])) J
        · by_cases c_7 : p_6.1 = 5
          · refine ev_b2 (t := 69) (p' := 65) rfl rfl rfl (if_neg (fun q => q c_7)) ?_
            refine ev_x (i := .iconst 1) (len := 1) (p' := 66) (s' := [.int 1]) rfl rfl rfl ?_
            refine ev_x (i := .goto 4) (len := 3) (p' := 70) (s' := [.int 1]) rfl rfl rfl ?_
            exact ev_st (congrArg (fun z => Value.int z :: []) (by rw [if_pos c_7])) J
          · refine ev_b2 (t := 69) (p' := 69) rfl rfl rfl (if_pos c_7) ?_
            refine ev_x (i := .iconst 0) (len := 1) (p' := 70) (s' := [.int 0]) rfl rfl rfl ?_
            exact ev_st (congrArg (fun z => Value.int z :: []) (by rw [if_neg c_7])) J
      · refine ev_b0 (t := 46) (p' := 33) rfl rfl rfl (if_neg c_5) ?_
        refine ev_x (i := .aload_n 0) (len := 1) (p' := 34) (s' := [.ref 66]) rfl rfl rfl ?_
        refine ev_x (i := .iconst 2) (len := 1) (p' := 35) (s' := [.int 2, .ref 66]) rfl rfl rfl ?_
        refine ev_x (i := .aload_n 0) (len := 1) (p' := 36) (s' := [.ref 66, .int 2, .ref 66]) rfl rfl rfl ?_
        refine ev_x (i := .iload_n 1) (len := 1) (p' := 37) (s' := [.int x_1, .ref 66, .int 2, .ref 66]) rfl rfl rfl ?_
        refine ev_x (i := .iconst 1) (len := 1) (p' := 38) (s' := [.int 1, .int x_1, .ref 66, .int 2, .ref 66]) rfl rfl rfl ?_
        refine ev_x (i := .iadd) (len := 1) (p' := 39) (s' := [.int (x_1 + 1), .ref 66, .int 2, .ref 66]) rfl rfl rfl ?_
        obtain ⟨p_20, G_20, H⟩ := F_bd H
        refine ev_cv (d := d + 8) (As := [.int (x_1 + 1)]) (a := 66) (p' := 42) rfl rfl rfl ly_66 rfl rfl rfl rfl rfl rfl rfl (F_159_ok (d := d + 6)   G_20) ?_
        refine ev_st (st' := [.int p_20.1, .int 2, .ref 66]) rfl ?_
        have e_20 := F_159_R G_20
        obtain ⟨p_21, G_21, H⟩ := F_bd H
        refine ev_cv (d := d + 8) (As := [.int 2, .int p_20.1]) (a := 66) (p' := 45) rfl rfl rfl ly_66 rfl rfl rfl rfl rfl rfl rfl (F_165_ok (d := d + 7)   G_21) ?_
        refine ev_st (st' := []) rfl ?_
        have e_21 := F_165_R G_21
        obtain rfl := Option.some.inj H
        exact ev_vret rfl rfl rfl
  · refine ev_x (i := .aload_n 0) (len := 1) (p' := 1) (s' := [.ref 66]) rfl rfl rfl ?_
    refine ev_gr (p' := 4) (v := 115) rfl rfl rfl ly_66 rfl rfl hr_66_10 ?_
    refine ev_gi (p' := 7) (v := (gI σ 115 12)) rfl rfl rfl ly_115 rfl rfl rfl ?_
    refine ev_x (i := .bipush 12) (len := 2) (p' := 9) (s' := [.int 12, .int (gI σ 115 12)]) rfl rfl rfl ?_
    refine F_if H (fun c_1 H => ?_) (fun c_1 H => ?_)
    · refine ev_b2 (t := 23) (p' := 12) rfl rfl rfl (if_neg (fun q => q c_1)) ?_
      refine ev_x (i := .aload_n 0) (len := 1) (p' := 13) (s' := [.ref 66]) rfl rfl rfl ?_
      refine ev_x (i := .iconst 5) (len := 1) (p' := 14) (s' := [.int 5, .ref 66]) rfl rfl rfl ?_
      refine ev_x (i := .aload_n 0) (len := 1) (p' := 15) (s' := [.ref 66, .int 5, .ref 66]) rfl rfl rfl ?_
      refine ev_x (i := .iload_n 1) (len := 1) (p' := 16) (s' := [.int x_1, .ref 66, .int 5, .ref 66]) rfl rfl rfl ?_
      obtain ⟨p_2, G_2, H⟩ := F_bd H
      refine ev_cv (d := d + 8) (As := [.int x_1]) (a := 66) (p' := 19) rfl rfl rfl ly_66 rfl rfl rfl rfl rfl rfl rfl (F_159_ok (d := d + 6)   G_2) ?_
      refine ev_st (st' := [.int p_2.1, .int 5, .ref 66]) rfl ?_
      have e_2 := F_159_R G_2
      obtain ⟨p_3, G_3, H⟩ := F_bd H
      refine ev_cv (d := d + 8) (As := [.int 5, .int p_2.1]) (a := 66) (p' := 22) rfl rfl rfl ly_66 rfl rfl rfl rfl rfl rfl rfl (F_165_ok (d := d + 7)   G_3) ?_
      refine ev_st (st' := []) rfl ?_
      have e_3 := F_165_R G_3
      obtain rfl := Option.some.inj H
      exact ev_vret rfl rfl rfl
    · refine ev_b2 (t := 23) (p' := 23) rfl rfl rfl (if_pos c_1) ?_
      refine ev_x (i := .aload_n 0) (len := 1) (p' := 24) (s' := [.ref 66]) rfl rfl rfl ?_
      refine ev_x (i := .iload_n 1) (len := 1) (p' := 25) (s' := [.int x_1, .ref 66]) rfl rfl rfl ?_
      refine ev_x (i := .iconst 1) (len := 1) (p' := 26) (s' := [.int 1, .int x_1, .ref 66]) rfl rfl rfl ?_
      refine ev_x (i := .iadd) (len := 1) (p' := 27) (s' := [.int (x_1 + 1), .ref 66]) rfl rfl rfl ?_
      obtain ⟨p_4, G_4, H⟩ := F_bd H
      refine ev_cv (d := d + 8) (As := [.int (x_1 + 1)]) (a := 66) (p' := 30) rfl rfl rfl ly_66 rfl rfl rfl rfl rfl rfl rfl (F_166_ok (d := d + 4) (hx := hx) (hr_66_2 := hr_66_2) G_4) ?_
      refine ev_st (st' := [.int p_4.1]) rfl ?_
      have e_4 := F_166_R G_4
      refine F_if H (fun c_5 H => ?_) (fun c_5 H => ?_)
      · refine ev_b0 (t := 46) (p' := 46) rfl rfl rfl (if_pos c_5) ?_
        refine ev_x (i := .aload_n 0) (len := 1) (p' := 47) (s' := [.ref 66]) rfl rfl rfl ?_
        refine ev_gr (p' := 50) (v := 115) rfl rfl rfl ly_66 rfl rfl ((congrFun (congrFun e_4 66) 10).trans hr_66_10) ?_
        refine ev_gi (p' := 53) (v := (gI p_4.2 115 12)) rfl rfl rfl ly_115 rfl rfl rfl ?_
        refine ev_x (i := .istore_n 3) (len := 1) (p' := 54) (s' := []) (l' := [(3, .int (gI p_4.2 115 12)), (0, .ref 66), (1, .int x_1), (2, .int x_2)]) rfl rfl rfl ?_
        refine ev_x (i := .aload_n 0) (len := 1) (p' := 55) (s' := [.ref 66]) rfl rfl rfl ?_
        refine ev_x (i := .iload_n 1) (len := 1) (p' := 56) (s' := [.int x_1, .ref 66]) rfl rfl rfl ?_
        refine ev_x (i := .iconst 3) (len := 1) (p' := 57) (s' := [.int 3, .int x_1, .ref 66]) rfl rfl rfl ?_
        refine ev_x (i := .iadd) (len := 1) (p' := 58) (s' := [.int (x_1 + 3), .ref 66]) rfl rfl rfl ?_
        obtain ⟨p_6, G_6, H⟩ := F_bd H
        refine ev_cv (d := d + 8) (As := [.int (x_1 + 3)]) (a := 66) (p' := 61) rfl rfl rfl ly_66 rfl rfl rfl rfl rfl rfl rfl (F_162_ok (d := d + 6)   G_6) ?_
        refine ev_st (st' := [.int p_6.1]) rfl ?_
        have e_6 := F_162_R G_6
        refine ev_x (i := .iconst 5) (len := 1) (p' := 62) (s' := [.int 5, .int p_6.1]) rfl rfl rfl ?_
        refine F_jn (A := vz_ev P0 (d + 9) 199 70 [(3, .int (gI p_4.2 115 12)), (0, .ref 66), (1, .int x_1), (2, .int x_2)] [.int (if p_6.1 = 5 then 1 else 0 : Int32)] (hp (p_6.2)) (.inl none, hp p)) ?_ (fun J => ?_)
        · refine ev_x (i := .istore 4) (len := 2) (p' := 72) (s' := []) (l' := [(4, .int (if p_6.1 = 5 then 1 else 0 : Int32)), (3, .int (gI p_4.2 115 12)), (0, .ref 66), (1, .int x_1), (2, .int x_2)]) rfl rfl rfl ?_
          refine ev_x (i := .iload 4) (len := 2) (p' := 74) (s' := [.int (if p_6.1 = 5 then 1 else 0 : Int32)]) rfl rfl rfl ?_
          refine F_if H (fun c_8 H => ?_) (fun c_8 H => ?_)
          · refine ev_b0 (t := 83) (p' := 83) rfl rfl rfl (if_pos c_8) ?_
            refine ev_x (i := .aload_n 0) (len := 1) (p' := 84) (s' := [.ref 66]) rfl rfl rfl ?_
            refine ev_x (i := .iload_n 1) (len := 1) (p' := 85) (s' := [.int x_1, .ref 66]) rfl rfl rfl ?_
            refine ev_x (i := .iconst 3) (len := 1) (p' := 86) (s' := [.int 3, .int x_1, .ref 66]) rfl rfl rfl ?_
            refine ev_x (i := .iadd) (len := 1) (p' := 87) (s' := [.int (x_1 + 3), .ref 66]) rfl rfl rfl ?_
            refine ev_x (i := .iload_n 2) (len := 1) (p' := 88) (s' := [.int x_2, .int (x_1 + 3), .ref 66]) rfl rfl rfl ?_
            obtain ⟨p_9, G_9, H⟩ := F_bd H
            refine ev_cv (d := d + 8) (As := [.int (x_1 + 3), .int x_2]) (a := 66) (p' := 91) rfl rfl rfl ly_66 rfl rfl rfl rfl rfl rfl rfl (F_200_ok (d := d + 5)   G_9) ?_
            refine ev_st (st' := [.int p_9.1]) rfl ?_
            have e_9 := F_200_R G_9
            refine ev_x (i := .istore 5) (len := 2) (p' := 93) (s' := []) (l' := [(5, .int p_9.1), (4, .int (if p_6.1 = 5 then 1 else 0 : Int32)), (3, .int (gI p_4.2 115 12)), (0, .ref 66), (1, .int x_1), (2, .int x_2)]) rfl rfl rfl ?_
            refine ev_x (i := .aload_n 0) (len := 1) (p' := 94) (s' := [.ref 66]) rfl rfl rfl ?_
            refine ev_x (i := .iload 5) (len := 2) (p' := 96) (s' := [.int p_9.1, .ref 66]) rfl rfl rfl ?_
            obtain ⟨p_10, G_10, H⟩ := F_bd H
            refine ev_cv (d := d + 8) (As := [.int p_9.1]) (a := 66) (p' := 99) rfl rfl rfl ly_66 rfl rfl rfl rfl rfl rfl rfl (F_162_ok (d := d + 6)   G_10) ?_
            refine ev_st (st' := [.int p_10.1]) rfl ?_
            have e_10 := F_162_R G_10
            refine ev_x (i := .bipush 9) (len := 2) (p' := 101) (s' := [.int 9, .int p_10.1]) rfl rfl rfl ?_
            refine F_jn (A := vz_ev P0 (d + 9) 199 109 [(5, .int p_9.1), (4, .int (if p_6.1 = 5 then 1 else 0 : Int32)), (3, .int (gI p_4.2 115 12)), (0, .ref 66), (1, .int x_1), (2, .int x_2)] [.int (if p_10.1 = 9 then 1 else 0 : Int32)] (hp (p_10.2)) (.inl none, hp p)) ?_ (fun J => ?_)
            · refine ev_x (i := .istore 6) (len := 2) (p' := 111) (s' := []) (l' := [(6, .int (if p_10.1 = 9 then 1 else 0 : Int32)), (5, .int p_9.1), (4, .int (if p_6.1 = 5 then 1 else 0 : Int32)), (3, .int (gI p_4.2 115 12)), (0, .ref 66), (1, .int x_1), (2, .int x_2)]) rfl rfl rfl ?_
              refine ev_x (i := .aload_n 0) (len := 1) (p' := 112) (s' := [.ref 66]) rfl rfl rfl ?_
              refine ev_gr (p' := 115) (v := 115) rfl rfl rfl ly_66 rfl rfl ((congrFun (congrFun e_10 66) 10).trans ((congrFun (congrFun e_9 66) 10).trans ((congrFun (congrFun e_6 66) 10).trans ((congrFun (congrFun e_4 66) 10).trans hr_66_10)))) ?_
              refine ev_gc (p' := 118) (v := 133) rfl rfl rfl ly_115 rfl rfl ?_
              refine ev_x (i := .iload_n 3) (len := 1) (p' := 119) (s' := [.int (gI p_4.2 115 12), .ref 133]) rfl rfl rfl ?_
              refine ev_x (i := .iload 4) (len := 2) (p' := 121) (s' := [.int (if p_6.1 = 5 then 1 else 0 : Int32), .int (gI p_4.2 115 12), .ref 133]) rfl rfl rfl ?_
              obtain ⟨b_12, H⟩ := F_gd H
              refine ev_pb (j := ((gI p_4.2 115 12) : Int32).toNatClampNeg) (p' := 122) rfl rfl ly_133 rfl (gd_in b_12) rfl ?_
              refine ev_x (i := .iconst (-1)) (len := 1) (p' := 123) (s' := [.int (-1)]) rfl rfl rfl ?_
              refine ev_x (i := .istore 7) (len := 2) (p' := 125) (s' := []) (l' := [(7, .int (-1)), (6, .int (if p_10.1 = 9 then 1 else 0 : Int32)), (5, .int p_9.1), (4, .int (if p_6.1 = 5 then 1 else 0 : Int32)), (3, .int (gI p_4.2 115 12)), (0, .ref 66), (1, .int x_1), (2, .int x_2)]) rfl rfl rfl ?_
              refine ev_x (i := .iconst (-1)) (len := 1) (p' := 126) (s' := [.int (-1)]) rfl rfl rfl ?_
              refine ev_x (i := .istore 8) (len := 2) (p' := 128) (s' := []) (l' := [(8, .int (-1)), (7, .int (-1)), (6, .int (if p_10.1 = 9 then 1 else 0 : Int32)), (5, .int p_9.1), (4, .int (if p_6.1 = 5 then 1 else 0 : Int32)), (3, .int (gI p_4.2 115 12)), (0, .ref 66), (1, .int x_1), (2, .int x_2)]) rfl rfl rfl ?_
              refine ev_x (i := .iload_n 1) (len := 1) (p' := 129) (s' := [.int x_1]) rfl rfl rfl ?_
              refine ev_x (i := .iconst 3) (len := 1) (p' := 130) (s' := [.int 3, .int x_1]) rfl rfl rfl ?_
              refine ev_x (i := .iadd) (len := 1) (p' := 131) (s' := [.int (x_1 + 3)]) rfl rfl rfl ?_
              refine ev_x (i := .istore 9) (len := 2) (p' := 133) (s' := []) (l' := [(9, .int (x_1 + 3)), (8, .int (-1)), (7, .int (-1)), (6, .int (if p_10.1 = 9 then 1 else 0 : Int32)), (5, .int p_9.1), (4, .int (if p_6.1 = 5 then 1 else 0 : Int32)), (3, .int (gI p_4.2 115 12)), (0, .ref 66), (1, .int x_1), (2, .int x_2)]) rfl rfl rfl ?_
              refine ev_x (i := .iload 4) (len := 2) (p' := 135) (s' := [.int (if p_6.1 = 5 then 1 else 0 : Int32)]) rfl rfl rfl ?_
              refine ev_b0 (t := 187) (p' := 138) rfl rfl rfl (if_neg (fun q => q c_8)) ?_
              refine ev_x (i := .aload_n 0) (len := 1) (p' := 139) (s' := [.ref 66]) rfl rfl rfl ?_
              refine ev_x (i := .iload_n 1) (len := 1) (p' := 140) (s' := [.int x_1, .ref 66]) rfl rfl rfl ?_
              refine ev_x (i := .iconst 3) (len := 1) (p' := 141) (s' := [.int 3, .int x_1, .ref 66]) rfl rfl rfl ?_
              refine ev_x (i := .iadd) (len := 1) (p' := 142) (s' := [.int (x_1 + 3), .ref 66]) rfl rfl rfl ?_
              refine ev_x (i := .bipush 16) (len := 2) (p' := 144) (s' := [.int 16, .int (x_1 + 3), .ref 66]) rfl rfl rfl ?_
              obtain ⟨p_13, G_13, H⟩ := F_bd H
              refine ev_cv (d := d + 8) (As := [.int (x_1 + 3), .int 16]) (a := 66) (p' := 147) rfl rfl rfl ly_66 rfl rfl rfl rfl rfl rfl rfl (F_163_ok (d := d + 5)   G_13) ?_
              refine ev_st (st' := [.int p_13.1]) rfl ?_
              have e_13 := F_163_R G_13
              refine ev_x (i := .istore 9) (len := 2) (p' := 149) (s' := []) (l' := [(9, .int p_13.1), (8, .int (-1)), (7, .int (-1)), (6, .int (if p_10.1 = 9 then 1 else 0 : Int32)), (5, .int p_9.1), (4, .int (if p_6.1 = 5 then 1 else 0 : Int32)), (3, .int (gI p_4.2 115 12)), (0, .ref 66), (1, .int x_1), (2, .int x_2)]) rfl rfl rfl ?_
              refine ev_x (i := .aload_n 0) (len := 1) (p' := 150) (s' := [.ref 66]) rfl rfl rfl ?_
              refine ev_x (i := .iload_n 1) (len := 1) (p' := 151) (s' := [.int x_1, .ref 66]) rfl rfl rfl ?_
              refine ev_x (i := .iconst 3) (len := 1) (p' := 152) (s' := [.int 3, .int x_1, .ref 66]) rfl rfl rfl ?_
              refine ev_x (i := .iadd) (len := 1) (p' := 153) (s' := [.int (x_1 + 3), .ref 66]) rfl rfl rfl ?_
              refine ev_x (i := .iload 9) (len := 2) (p' := 155) (s' := [.int p_13.1, .int (x_1 + 3), .ref 66]) rfl rfl rfl ?_
              refine ev_x (i := .iconst 0) (len := 1) (p' := 156) (s' := [.int 0, .int p_13.1, .int (x_1 + 3), .ref 66]) rfl rfl rfl ?_
              refine ev_x (i := .iconst 1) (len := 1) (p' := 157) (s' := [.int 1, .int 0, .int p_13.1, .int (x_1 + 3), .ref 66]) rfl rfl rfl ?_
              obtain ⟨p_14, G_14, H⟩ := F_bd H
              refine ev_cv (d := d + 8) (As := [.int (x_1 + 3), .int p_13.1, .int 0, .int 1]) (a := 66) (p' := 160) rfl rfl rfl ly_66 rfl rfl rfl rfl rfl rfl rfl (F_201_ok (d := d + 0) (hg := (Or.inr rfl)) (hx := hx) (hr_66_2 := ((congrFun (congrFun e_13 66) 2).trans ((congrFun (congrFun e_10 66) 2).trans ((congrFun (congrFun e_9 66) 2).trans ((congrFun (congrFun e_6 66) 2).trans ((congrFun (congrFun e_4 66) 2).trans hr_66_2)))))) (hr_66_10 := ((congrFun (congrFun e_13 66) 10).trans ((congrFun (congrFun e_10 66) 10).trans ((congrFun (congrFun e_9 66) 10).trans ((congrFun (congrFun e_6 66) 10).trans ((congrFun (congrFun e_4 66) 10).trans hr_66_10)))))) G_14) ?_
              refine ev_st (st' := [.int p_14.1]) rfl ?_
              have e_14 := F_201_R G_14
              refine ev_x (i := .istore 7) (len := 2) (p' := 162) (s' := []) (l' := [(7, .int p_14.1), (9, .int p_13.1), (8, .int (-1)), (6, .int (if p_10.1 = 9 then 1 else 0 : Int32)), (5, .int p_9.1), (4, .int (if p_6.1 = 5 then 1 else 0 : Int32)), (3, .int (gI p_4.2 115 12)), (0, .ref 66), (1, .int x_1), (2, .int x_2)]) rfl rfl rfl ?_
              refine ev_x (i := .aload_n 0) (len := 1) (p' := 163) (s' := [.ref 66]) rfl rfl rfl ?_
              refine ev_gi (p' := 166) (v := (gI p_14.2 66 16)) rfl rfl rfl ly_66 rfl rfl rfl ?_
              refine F_if H (fun c_15 H => ?_) (fun c_15 H => ?_)
              · refine ev_b0 (t := 184) (p' := 169) rfl rfl rfl (if_neg (fun q => q c_15)) ?_
                refine ev_x (i := .aload_n 0) (len := 1) (p' := 170) (s' := [.ref 66]) rfl rfl rfl ?_
                refine ev_x (i := .iload 9) (len := 2) (p' := 172) (s' := [.int p_13.1, .ref 66]) rfl rfl rfl ?_
                refine ev_x (i := .iconst 1) (len := 1) (p' := 173) (s' := [.int 1, .int p_13.1, .ref 66]) rfl rfl rfl ?_
                refine ev_x (i := .iadd) (len := 1) (p' := 174) (s' := [.int (p_13.1 + 1), .ref 66]) rfl rfl rfl ?_
                refine ev_x (i := .iload 5) (len := 2) (p' := 176) (s' := [.int p_9.1, .int (p_13.1 + 1), .ref 66]) rfl rfl rfl ?_
                refine ev_x (i := .iconst 0) (len := 1) (p' := 177) (s' := [.int 0, .int p_9.1, .int (p_13.1 + 1), .ref 66]) rfl rfl rfl ?_
                refine ev_x (i := .iconst 1) (len := 1) (p' := 178) (s' := [.int 1, .int 0, .int p_9.1, .int (p_13.1 + 1), .ref 66]) rfl rfl rfl ?_
                obtain ⟨p_16, G_16, H⟩ := F_bd H
                refine ev_cv (d := d + 8) (As := [.int (p_13.1 + 1), .int p_9.1, .int 0, .int 1]) (a := 66) (p' := 181) rfl rfl rfl ly_66 rfl rfl rfl rfl rfl rfl rfl (F_201_ok (d := d + 0) (hg := (Or.inr rfl)) (hx := hx) (hr_66_2 := ((congrFun (congrFun e_14 66) 2).trans ((congrFun (congrFun e_13 66) 2).trans ((congrFun (congrFun e_10 66) 2).trans ((congrFun (congrFun e_9 66) 2).trans ((congrFun (congrFun e_6 66) 2).trans ((congrFun (congrFun e_4 66) 2).trans hr_66_2))))))) (hr_66_10 := ((congrFun (congrFun e_14 66) 10).trans ((congrFun (congrFun e_13 66) 10).trans ((congrFun (congrFun e_10 66) 10).trans ((congrFun (congrFun e_9 66) 10).trans ((congrFun (congrFun e_6 66) 10).trans ((congrFun (congrFun e_4 66) 10).trans hr_66_10))))))) G_16) ?_
                refine ev_st (st' := [.int p_16.1]) rfl ?_
                have e_16 := F_201_R G_16
                refine ev_x (i := .goto 4) (len := 3) (p' := 185) (s' := [.int p_16.1]) rfl rfl rfl ?_
                refine ev_x (i := .istore 8) (len := 2) (p' := 187) (s' := []) (l' := [(8, .int p_16.1), (7, .int p_14.1), (9, .int p_13.1), (6, .int (if p_10.1 = 9 then 1 else 0 : Int32)), (5, .int p_9.1), (4, .int (if p_6.1 = 5 then 1 else 0 : Int32)), (3, .int (gI p_4.2 115 12)), (0, .ref 66), (1, .int x_1), (2, .int x_2)]) rfl rfl rfl ?_
                exact J_199_187_ok (d := d) (Or.inr rfl) hx rfl rfl rfl rfl rfl rfl rfl rfl rfl rfl rfl ((congrFun (congrFun e_16 66) 2).trans ((congrFun (congrFun e_14 66) 2).trans ((congrFun (congrFun e_13 66) 2).trans ((congrFun (congrFun e_10 66) 2).trans ((congrFun (congrFun e_9 66) 2).trans ((congrFun (congrFun e_6 66) 2).trans ((congrFun (congrFun e_4 66) 2).trans hr_66_2))))))) ((congrFun (congrFun e_16 66) 10).trans ((congrFun (congrFun e_14 66) 10).trans ((congrFun (congrFun e_13 66) 10).trans ((congrFun (congrFun e_10 66) 10).trans ((congrFun (congrFun e_9 66) 10).trans ((congrFun (congrFun e_6 66) 10).trans ((congrFun (congrFun e_4 66) 10).trans hr_66_10))))))) H
              · refine ev_b0 (t := 184) (p' := 184) rfl rfl rfl (if_pos c_15) ?_
                refine ev_x (i := .iconst (-1)) (len := 1) (p' := 185) (s' := [.int (-1)]) rfl rfl rfl ?_
                refine ev_x (i := .istore 8) (len := 2) (p' := 187) (s' := []) (l' := [(8, .int (-1)), (7, .int p_14.1), (9, .int p_13.1), (6, .int (if p_10.1 = 9 then 1 else 0 : Int32)), (5, .int p_9.1), (4, .int (if p_6.1 = 5 then 1 else 0 : Int32)), (3, .int (gI p_4.2 115 12)), (0, .ref 66), (1, .int x_1), (2, .int x_2)]) rfl rfl rfl ?_
                exact J_199_187_ok (d := d) (Or.inr rfl) hx rfl rfl rfl rfl rfl rfl rfl rfl rfl rfl rfl ((congrFun (congrFun e_14 66) 2).trans ((congrFun (congrFun e_13 66) 2).trans ((congrFun (congrFun e_10 66) 2).trans ((congrFun (congrFun e_9 66) 2).trans ((congrFun (congrFun e_6 66) 2).trans ((congrFun (congrFun e_4 66) 2).trans hr_66_2)))))) ((congrFun (congrFun e_14 66) 10).trans ((congrFun (congrFun e_13 66) 10).trans ((congrFun (congrFun e_10 66) 10).trans ((congrFun (congrFun e_9 66) 10).trans ((congrFun (congrFun e_6 66) 10).trans ((congrFun (congrFun e_4 66) 10).trans hr_66_10)))))) H
            · by_cases c_11 : p_10.1 = 9
              · refine ev_b2 (t := 108) (p' := 104) rfl rfl rfl (if_neg (fun q => q c_11)) ?_
                refine ev_x (i := .iconst 1) (len := 1) (p' := 105) (s' := [.int 1]) rfl rfl rfl ?_
                refine ev_x (i := .goto 4) (len := 3) (p' := 109) (s' := [.int 1]) rfl rfl rfl ?_
                exact ev_st (congrArg (fun z => Value.int z :: []) (by rw [if_pos c_11])) J
              · refine ev_b2 (t := 108) (p' := 108) rfl rfl rfl (if_pos c_11) ?_
                refine ev_x (i := .iconst 0) (len := 1) (p' := 109) (s' := [.int 0]) rfl rfl rfl ?_
                exact ev_st (congrArg (fun z => Value.int z :: []) (by rw [if_neg c_11])) J
          · refine ev_b0 (t := 83) (p' := 77) rfl rfl rfl (if_neg c_8) ?_
            refine ev_x (i := .iload_n 1) (len := 1) (p' := 78) (s' := [.int x_1]) rfl rfl rfl ?_
            refine ev_x (i := .iconst 4) (len := 1) (p' := 79) (s' := [.int 4, .int x_1]) rfl rfl rfl ?_
            refine ev_x (i := .iadd) (len := 1) (p' := 80) (s' := [.int (x_1 + 4)]) rfl rfl rfl ?_
            refine ev_x (i := .goto 11) (len := 3) (p' := 91) (s' := [.int (x_1 + 4)]) rfl rfl rfl ?_
            refine ev_x (i := .istore 5) (len := 2) (p' := 93) (s' := []) (l' := [(5, .int (x_1 + 4)), (4, .int (if p_6.1 = 5 then 1 else 0 : Int32)), (3, .int (gI p_4.2 115 12)), (0, .ref 66), (1, .int x_1), (2, .int x_2)]) rfl rfl rfl ?_
            refine ev_x (i := .aload_n 0) (len := 1) (p' := 94) (s' := [.ref 66]) rfl rfl rfl ?_
            refine ev_x (i := .iload 5) (len := 2) (p' := 96) (s' := [.int (x_1 + 4), .ref 66]) rfl rfl rfl ?_
            obtain ⟨p_17, G_17, H⟩ := F_bd H
            refine ev_cv (d := d + 8) (As := [.int (x_1 + 4)]) (a := 66) (p' := 99) rfl rfl rfl ly_66 rfl rfl rfl rfl rfl rfl rfl (F_162_ok (d := d + 6)   G_17) ?_
            refine ev_st (st' := [.int p_17.1]) rfl ?_
            have e_17 := F_162_R G_17
            refine ev_x (i := .bipush 9) (len := 2) (p' := 101) (s' := [.int 9, .int p_17.1]) rfl rfl rfl ?_
            refine F_jn (A := vz_ev P0 (d + 9) 199 109 [(5, .int (x_1 + 4)), (4, .int (if p_6.1 = 5 then 1 else 0 : Int32)), (3, .int (gI p_4.2 115 12)), (0, .ref 66), (1, .int x_1), (2, .int x_2)] [.int (if p_17.1 = 9 then 1 else 0 : Int32)] (hp (p_17.2)) (.inl none, hp p)) ?_ (fun J => ?_)
            · refine ev_x (i := .istore 6) (len := 2) (p' := 111) (s' := []) (l' := [(6, .int (if p_17.1 = 9 then 1 else 0 : Int32)), (5, .int (x_1 + 4)), (4, .int (if p_6.1 = 5 then 1 else 0 : Int32)), (3, .int (gI p_4.2 115 12)), (0, .ref 66), (1, .int x_1), (2, .int x_2)]) rfl rfl rfl ?_
              refine ev_x (i := .aload_n 0) (len := 1) (p' := 112) (s' := [.ref 66]) rfl rfl rfl ?_
              refine ev_gr (p' := 115) (v := 115) rfl rfl rfl ly_66 rfl rfl ((congrFun (congrFun e_17 66) 10).trans ((congrFun (congrFun e_6 66) 10).trans ((congrFun (congrFun e_4 66) 10).trans hr_66_10))) ?_
              refine ev_gc (p' := 118) (v := 133) rfl rfl rfl ly_115 rfl rfl ?_
              refine ev_x (i := .iload_n 3) (len := 1) (p' := 119) (s' := [.int (gI p_4.2 115 12), .ref 133]) rfl rfl rfl ?_
              refine ev_x (i := .iload 4) (len := 2) (p' := 121) (s' := [.int (if p_6.1 = 5 then 1 else 0 : Int32), .int (gI p_4.2 115 12), .ref 133]) rfl rfl rfl ?_
              obtain ⟨b_19, H⟩ := F_gd H
              refine ev_pb (j := ((gI p_4.2 115 12) : Int32).toNatClampNeg) (p' := 122) rfl rfl ly_133 rfl (gd_in b_19) rfl ?_
              refine ev_x (i := .iconst (-1)) (len := 1) (p' := 123) (s' := [.int (-1)]) rfl rfl rfl ?_
              refine ev_x (i := .istore 7) (len := 2) (p' := 125) (s' := []) (l' := [(7, .int (-1)), (6, .int (if p_17.1 = 9 then 1 else 0 : Int32)), (5, .int (x_1 + 4)), (4, .int (if p_6.1 = 5 then 1 else 0 : Int32)), (3, .int (gI p_4.2 115 12)), (0, .ref 66), (1, .int x_1), (2, .int x_2)]) rfl rfl rfl ?_
              refine ev_x (i := .iconst (-1)) (len := 1) (p' := 126) (s' := [.int (-1)]) rfl rfl rfl ?_
              refine ev_x (i := .istore 8) (len := 2) (p' := 128) (s' := []) (l' := [(8, .int (-1)), (7, .int (-1)), (6, .int (if p_17.1 = 9 then 1 else 0 : Int32)), (5, .int (x_1 + 4)), (4, .int (if p_6.1 = 5 then 1 else 0 : Int32)), (3, .int (gI p_4.2 115 12)), (0, .ref 66), (1, .int x_1), (2, .int x_2)]) rfl rfl rfl ?_
              refine ev_x (i := .iload_n 1) (len := 1) (p' := 129) (s' := [.int x_1]) rfl rfl rfl ?_
              refine ev_x (i := .iconst 3) (len := 1) (p' := 130) (s' := [.int 3, .int x_1]) rfl rfl rfl ?_
              refine ev_x (i := .iadd) (len := 1) (p' := 131) (s' := [.int (x_1 + 3)]) rfl rfl rfl ?_
              refine ev_x (i := .istore 9) (len := 2) (p' := 133) (s' := []) (l' := [(9, .int (x_1 + 3)), (8, .int (-1)), (7, .int (-1)), (6, .int (if p_17.1 = 9 then 1 else 0 : Int32)), (5, .int (x_1 + 4)), (4, .int (if p_6.1 = 5 then 1 else 0 : Int32)), (3, .int (gI p_4.2 115 12)), (0, .ref 66), (1, .int x_1), (2, .int x_2)]) rfl rfl rfl ?_
              refine ev_x (i := .iload 4) (len := 2) (p' := 135) (s' := [.int (if p_6.1 = 5 then 1 else 0 : Int32)]) rfl rfl rfl ?_
              refine ev_b0 (t := 187) (p' := 187) rfl rfl rfl (if_pos c_8) ?_
              exact J_199_187_ok (d := d) (Or.inr rfl) hx rfl rfl rfl rfl rfl rfl rfl rfl rfl rfl rfl ((congrFun (congrFun e_17 66) 2).trans ((congrFun (congrFun e_6 66) 2).trans ((congrFun (congrFun e_4 66) 2).trans hr_66_2))) ((congrFun (congrFun e_17 66) 10).trans ((congrFun (congrFun e_6 66) 10).trans ((congrFun (congrFun e_4 66) 10).trans hr_66_10))) H
            · by_cases c_18 : p_17.1 = 9
              · refine ev_b2 (t := 108) (p' := 104) rfl rfl rfl (if_neg (fun q => q c_18)) ?_
                refine ev_x (i := .iconst 1) (len := 1) (p' := 105) (s' := [.int 1]) rfl rfl rfl ?_
                refine ev_x (i := .goto 4) (len := 3) (p' := 109) (s' := [.int 1]) rfl rfl rfl ?_
                exact ev_st (congrArg (fun z => Value.int z :: []) (by rw [if_pos c_18])) J
              · refine ev_b2 (t := 108) (p' := 108) rfl rfl rfl (if_pos c_18) ?_
                refine ev_x (i := .iconst 0) (len := 1) (p' := 109) (s' := [.int 0]) rfl rfl rfl ?_
                exact ev_st (congrArg (fun z => Value.int z :: []) (by rw [if_neg c_18])) J
        · by_cases c_7 : p_6.1 = 5
          · refine ev_b2 (t := 69) (p' := 65) rfl rfl rfl (if_neg (fun q => q c_7)) ?_
            refine ev_x (i := .iconst 1) (len := 1) (p' := 66) (s' := [.int 1]) rfl rfl rfl ?_
            refine ev_x (i := .goto 4) (len := 3) (p' := 70) (s' := [.int 1]) rfl rfl rfl ?_
            exact ev_st (congrArg (fun z => Value.int z :: []) (by rw [if_pos c_7])) J
          · refine ev_b2 (t := 69) (p' := 69) rfl rfl rfl (if_pos c_7) ?_
            refine ev_x (i := .iconst 0) (len := 1) (p' := 70) (s' := [.int 0]) rfl rfl rfl ?_
            exact ev_st (congrArg (fun z => Value.int z :: []) (by rw [if_neg c_7])) J
      · refine ev_b0 (t := 46) (p' := 33) rfl rfl rfl (if_neg c_5) ?_
        refine ev_x (i := .aload_n 0) (len := 1) (p' := 34) (s' := [.ref 66]) rfl rfl rfl ?_
        refine ev_x (i := .iconst 2) (len := 1) (p' := 35) (s' := [.int 2, .ref 66]) rfl rfl rfl ?_
        refine ev_x (i := .aload_n 0) (len := 1) (p' := 36) (s' := [.ref 66, .int 2, .ref 66]) rfl rfl rfl ?_
        refine ev_x (i := .iload_n 1) (len := 1) (p' := 37) (s' := [.int x_1, .ref 66, .int 2, .ref 66]) rfl rfl rfl ?_
        refine ev_x (i := .iconst 1) (len := 1) (p' := 38) (s' := [.int 1, .int x_1, .ref 66, .int 2, .ref 66]) rfl rfl rfl ?_
        refine ev_x (i := .iadd) (len := 1) (p' := 39) (s' := [.int (x_1 + 1), .ref 66, .int 2, .ref 66]) rfl rfl rfl ?_
        obtain ⟨p_20, G_20, H⟩ := F_bd H
        refine ev_cv (d := d + 8) (As := [.int (x_1 + 1)]) (a := 66) (p' := 42) rfl rfl rfl ly_66 rfl rfl rfl rfl rfl rfl rfl (F_159_ok (d := d + 6)   G_20) ?_
        refine ev_st (st' := [.int p_20.1, .int 2, .ref 66]) rfl ?_
        have e_20 := F_159_R G_20
        obtain ⟨p_21, G_21, H⟩ := F_bd H
        refine ev_cv (d := d + 8) (As := [.int 2, .int p_20.1]) (a := 66) (p' := 45) rfl rfl rfl ly_66 rfl rfl rfl rfl rfl rfl rfl (F_165_ok (d := d + 7)   G_21) ?_
        refine ev_st (st' := []) rfl ?_
        have e_21 := F_165_R G_21
        obtain rfl := Option.some.inj H
        exact ev_vret rfl rfl rfl
/-- GameTextModel.closeOf(I)I, its loops -/
def L_207 (N : Nat) : Nat → Int32 → Int32 → st_S → Option (Int32 × st_S)
  | 0, _, _, _ => none
  | k + 1, l_2, l_3, σ =>
      (F_162 N l_3 (σ)).bind fun p_1 =>
      if p_1.1 = 36 then
        if 0 < (l_2 + 1) then
          L_207 N k (l_2 + 1) (l_3 + 1) (p_1.2)
        else
          some (((l_3 + 1) - 1), p_1.2)
      else
        (F_162 N l_3 (p_1.2)).bind fun p_4 =>
        if 0 < (if p_4.1 = 37 then (l_2 - 1) else l_2 : Int32) then
          L_207 N k (if p_4.1 = 37 then (l_2 - 1) else l_2 : Int32) (l_3 + 1) (p_4.2)
        else
          some (((l_3 + 1) - 1), p_4.2)
set_option maxRecDepth 100000 in
theorem L_207_R {N : Nat} : ∀ (k : Nat) (l_2 : Int32) (l_3 : Int32) (σ : st_S) (p : Int32 × st_S), L_207 N k l_2 l_3 σ = some p → gR p.2 = gR σ := by
  intro k
  induction k with
  | zero => intro l_2 l_3 σ p H; unfold L_207 at H; cases H
  | succ k ih =>
    intro l_2 l_3 σ p H
    unfold L_207 at H
    obtain ⟨p_1, G_1, H⟩ := F_bd H
    refine F_if H (fun _ H => ?_) (fun _ H => ?_)
    · refine F_if H (fun _ H => ?_) (fun _ H => ?_)
      · exact (((ih _ _ _ _ H)).trans ((F_162_R G_1).trans rfl))
      · obtain rfl := Option.some.inj H
        exact ((F_162_R G_1).trans rfl)
    · obtain ⟨p_4, G_4, H⟩ := F_bd H
      refine F_if H (fun _ H => ?_) (fun _ H => ?_)
      · exact (((ih _ _ _ _ H)).trans ((F_162_R G_4).trans ((F_162_R G_1).trans rfl)))
      · obtain rfl := Option.some.inj H
        exact ((F_162_R G_4).trans ((F_162_R G_1).trans rfl))
set_option maxHeartbeats 4000000 in
set_option maxRecDepth 100000 in
theorem L_207_ok {N d : Nat} : ∀ k : Nat, ∀ (l_2 : Int32) (l_3 : Int32) (σ : st_S) (lv : vz_L) (p : Int32 × st_S), vz_g lv 0 = some (.ref 66) → vz_g lv 2 = some (.int l_2) → vz_g lv 3 = some (.int l_3) → vz_nbL (vz_gr P0) lv = true → L_207 N k l_2 l_3 σ = some p → vz_ev P0 (d + 3) 207 4 lv [] (hp σ) (.inl (some (.int p.1)), hp p.2) := by
  intro k
  induction k with
  | zero => intro l_2 l_3 σ lv p g_0 g_2 g_3 hnb H; unfold L_207 at H; cases H
  | succ k ih =>
    intro l_2 l_3 σ lv p g_0 g_2 g_3 hnb H
    unfold L_207 at H
    refine ev_x (i := .aload_n 0) (len := 1) (p' := 5) (s' := [.ref 66]) rfl rfl (ld_a g_0) ?_
    refine ev_x (i := .iload_n 3) (len := 1) (p' := 6) (s' := [.int l_3, .ref 66]) rfl rfl (ld_i g_3) ?_
    obtain ⟨p_1, G_1, H⟩ := F_bd H
    refine ev_cv (d := d + 2) (As := [.int l_3]) (a := 66) (p' := 9) rfl rfl rfl ly_66 rfl rfl rfl rfl rfl hnb rfl (F_162_ok (d := d + 0)   G_1) ?_
    refine ev_st (st' := [.int p_1.1]) rfl ?_
    have e_1 := F_162_R G_1
    refine ev_x (i := .bipush 36) (len := 2) (p' := 11) (s' := [.int 36, .int p_1.1]) rfl rfl rfl ?_
    refine F_if H (fun c_2 H => ?_) (fun c_2 H => ?_)
    · refine ev_b2 (t := 20) (p' := 14) rfl rfl rfl (if_neg (fun q => q c_2)) ?_
      refine ev_x (i := .iload_n 2) (len := 1) (p' := 15) (s' := [.int l_2]) rfl rfl (ld_i g_2) ?_
      refine ev_x (i := .iconst 1) (len := 1) (p' := 16) (s' := [.int 1, .int l_2]) rfl rfl rfl ?_
      refine ev_x (i := .iadd) (len := 1) (p' := 17) (s' := [.int (l_2 + 1)]) rfl rfl rfl ?_
      refine ev_x (i := .goto 20) (len := 3) (p' := 37) (s' := [.int (l_2 + 1)]) rfl rfl rfl ?_
      refine ev_x (i := .istore_n 2) (len := 1) (p' := 38) (s' := []) (l' := vz_s1 (lv) 2 (.int (l_2 + 1))) rfl rfl rfl ?_
      refine ev_x (i := .iinc 3 1) (len := 3) (p' := 41) (s' := []) (l' := vz_s1 (vz_s1 (lv) 2 (.int (l_2 + 1))) 3 (.int (l_3 + 1))) rfl rfl (ld_inc (vg_o (i := 2) (v := .int (l_2 + 1)) g_3 (by decide) (Or.inl rfl)) rfl) ?_
      refine ev_x (i := .iload_n 2) (len := 1) (p' := 42) (s' := [.int (l_2 + 1)]) rfl rfl (ld_i (vg_o (i := 3) (v := .int (l_3 + 1)) (vg_s (lv) 2 (.int (l_2 + 1))) (by decide) (Or.inl rfl))) ?_
      refine F_if H (fun c_3 H => ?_) (fun c_3 H => ?_)
      · refine ev_b0 (t := 4) (p' := 4) rfl rfl rfl (if_pos c_3) ?_
        exact ih _ _ _ _ _ (vg_o (i := 3) (v := .int (l_3 + 1)) (vg_o (i := 2) (v := .int (l_2 + 1)) g_0 (by decide) (Or.inl rfl)) (by decide) (Or.inl rfl)) (vg_o (i := 3) (v := .int (l_3 + 1)) (vg_s (lv) 2 (.int (l_2 + 1))) (by decide) (Or.inl rfl)) (vg_s (vz_s1 (lv) 2 (.int (l_2 + 1))) 3 (.int (l_3 + 1))) (nb_s1 (nb_s1 hnb rfl) rfl)  H
      · refine ev_b0 (t := 4) (p' := 45) rfl rfl rfl (if_neg c_3) ?_
        refine ev_x (i := .iload_n 3) (len := 1) (p' := 46) (s' := [.int (l_3 + 1)]) rfl rfl (ld_i (vg_s (vz_s1 (lv) 2 (.int (l_2 + 1))) 3 (.int (l_3 + 1)))) ?_
        refine ev_x (i := .iconst 1) (len := 1) (p' := 47) (s' := [.int 1, .int (l_3 + 1)]) rfl rfl rfl ?_
        refine ev_x (i := .isub) (len := 1) (p' := 48) (s' := [.int ((l_3 + 1) - 1)]) rfl rfl rfl ?_
        obtain rfl := Option.some.inj H
        exact ev_iret rfl rfl rfl rfl
    · refine ev_b2 (t := 20) (p' := 20) rfl rfl rfl (if_pos c_2) ?_
      refine ev_x (i := .aload_n 0) (len := 1) (p' := 21) (s' := [.ref 66]) rfl rfl (ld_a g_0) ?_
      refine ev_x (i := .iload_n 3) (len := 1) (p' := 22) (s' := [.int l_3, .ref 66]) rfl rfl (ld_i g_3) ?_
      obtain ⟨p_4, G_4, H⟩ := F_bd H
      refine ev_cv (d := d + 2) (As := [.int l_3]) (a := 66) (p' := 25) rfl rfl rfl ly_66 rfl rfl rfl rfl rfl hnb rfl (F_162_ok (d := d + 0)   G_4) ?_
      refine ev_st (st' := [.int p_4.1]) rfl ?_
      have e_4 := F_162_R G_4
      refine ev_x (i := .bipush 37) (len := 2) (p' := 27) (s' := [.int 37, .int p_4.1]) rfl rfl rfl ?_
      refine F_jn (A := vz_ev P0 (d + 3) 207 37 (lv) [.int (if p_4.1 = 37 then (l_2 - 1) else l_2 : Int32)] (hp (p_4.2)) (.inl (some (.int p.1)), hp p.2)) ?_ (fun J => ?_)
      · refine ev_x (i := .istore_n 2) (len := 1) (p' := 38) (s' := []) (l' := vz_s1 (lv) 2 (.int (if p_4.1 = 37 then (l_2 - 1) else l_2 : Int32))) rfl rfl rfl ?_
        refine ev_x (i := .iinc 3 1) (len := 3) (p' := 41) (s' := []) (l' := vz_s1 (vz_s1 (lv) 2 (.int (if p_4.1 = 37 then (l_2 - 1) else l_2 : Int32))) 3 (.int (l_3 + 1))) rfl rfl (ld_inc (vg_o (i := 2) (v := .int (if p_4.1 = 37 then (l_2 - 1) else l_2 : Int32)) g_3 (by decide) (Or.inl rfl)) rfl) ?_
        refine ev_x (i := .iload_n 2) (len := 1) (p' := 42) (s' := [.int (if p_4.1 = 37 then (l_2 - 1) else l_2 : Int32)]) rfl rfl (ld_i (vg_o (i := 3) (v := .int (l_3 + 1)) (vg_s (lv) 2 (.int (if p_4.1 = 37 then (l_2 - 1) else l_2 : Int32))) (by decide) (Or.inl rfl))) ?_
        refine F_if H (fun c_6 H => ?_) (fun c_6 H => ?_)
        · refine ev_b0 (t := 4) (p' := 4) rfl rfl rfl (if_pos c_6) ?_
          exact ih _ _ _ _ _ (vg_o (i := 3) (v := .int (l_3 + 1)) (vg_o (i := 2) (v := .int (if p_4.1 = 37 then (l_2 - 1) else l_2 : Int32)) g_0 (by decide) (Or.inl rfl)) (by decide) (Or.inl rfl)) (vg_o (i := 3) (v := .int (l_3 + 1)) (vg_s (lv) 2 (.int (if p_4.1 = 37 then (l_2 - 1) else l_2 : Int32))) (by decide) (Or.inl rfl)) (vg_s (vz_s1 (lv) 2 (.int (if p_4.1 = 37 then (l_2 - 1) else l_2 : Int32))) 3 (.int (l_3 + 1))) (nb_s1 (nb_s1 hnb rfl) rfl)  H
        · refine ev_b0 (t := 4) (p' := 45) rfl rfl rfl (if_neg c_6) ?_
          refine ev_x (i := .iload_n 3) (len := 1) (p' := 46) (s' := [.int (l_3 + 1)]) rfl rfl (ld_i (vg_s (vz_s1 (lv) 2 (.int (if p_4.1 = 37 then (l_2 - 1) else l_2 : Int32))) 3 (.int (l_3 + 1)))) ?_
          refine ev_x (i := .iconst 1) (len := 1) (p' := 47) (s' := [.int 1, .int (l_3 + 1)]) rfl rfl rfl ?_
          refine ev_x (i := .isub) (len := 1) (p' := 48) (s' := [.int ((l_3 + 1) - 1)]) rfl rfl rfl ?_
          obtain rfl := Option.some.inj H
          exact ev_iret rfl rfl rfl rfl
      · by_cases c_5 : p_4.1 = 37
        · refine ev_b2 (t := 36) (p' := 30) rfl rfl rfl (if_neg (fun q => q c_5)) ?_
          refine ev_x (i := .iload_n 2) (len := 1) (p' := 31) (s' := [.int l_2]) rfl rfl (ld_i g_2) ?_
          refine ev_x (i := .iconst 1) (len := 1) (p' := 32) (s' := [.int 1, .int l_2]) rfl rfl rfl ?_
          refine ev_x (i := .isub) (len := 1) (p' := 33) (s' := [.int (l_2 - 1)]) rfl rfl rfl ?_
          refine ev_x (i := .goto 4) (len := 3) (p' := 37) (s' := [.int (l_2 - 1)]) rfl rfl rfl ?_
          exact ev_st (congrArg (fun z => Value.int z :: []) (by rw [if_pos c_5])) J
        · refine ev_b2 (t := 36) (p' := 36) rfl rfl rfl (if_pos c_5) ?_
          refine ev_x (i := .iload_n 2) (len := 1) (p' := 37) (s' := [.int l_2]) rfl rfl (ld_i g_2) ?_
          exact ev_st (congrArg (fun z => Value.int z :: []) (by rw [if_neg c_5])) J
/-- GameTextModel.closeOf(I)I -/
def F_207 (N : Nat) (x_1 : Int32) (σ : st_S) : Option (Int32 × st_S) :=
  L_207 N N 0 x_1 (σ)
set_option maxRecDepth 100000 in
theorem F_207_R {N : Nat} {x_1 : Int32} {σ : st_S} {p : Int32 × st_S} (H : F_207 N x_1 σ = some p) : gR p.2 = gR σ := by
  unfold F_207 at H
  exact (((L_207_R _ _ _ _ _ H)).trans rfl)
set_option maxHeartbeats 4000000 in
set_option maxRecDepth 100000 in
theorem F_207_ok {N d : Nat} {x_1 : Int32} {σ : st_S} {p : Int32 × st_S}  (H : F_207 N x_1 σ = some p) : vz_ev P0 (d + 3) 207 0 (lv_args 0 [.ref 66, .int x_1]) [] (hp σ) (.inl (some (.int p.1)), hp p.2) := by
  unfold F_207 at H
  refine ev_x (i := .iconst 0) (len := 1) (p' := 1) (s' := [.int 0]) rfl rfl rfl ?_
  refine ev_x (i := .istore_n 2) (len := 1) (p' := 2) (s' := []) (l' := [(2, .int 0), (0, .ref 66), (1, .int x_1)]) rfl rfl rfl ?_
  refine ev_x (i := .iload_n 1) (len := 1) (p' := 3) (s' := [.int x_1]) rfl rfl rfl ?_
  refine ev_x (i := .istore_n 3) (len := 1) (p' := 4) (s' := []) (l' := [(3, .int x_1), (2, .int 0), (0, .ref 66), (1, .int x_1)]) rfl rfl rfl ?_
  exact (L_207_ok (d := d) N) _ _ _ _ _ rfl rfl rfl rfl  H
/-- GameTextModel.setItem(II)I, from 33 -/
def J_206_33 (N : Nat) (g : Nat) (x : Nat) (l_1 : Int32) (l_3 : Int32) (σ : st_S) : Option (Int32 × st_S) :=
  (F_159 N (l_1 + 1) (σ)).bind fun p_7 =>
  (F_165 N 2 p_7.1 (p_7.2)).bind fun p_8 =>
  some (l_3, p_8)
set_option maxRecDepth 100000 in
theorem J_206_33_R {N : Nat} {g : Nat} {x : Nat} {l_1 : Int32} {l_3 : Int32} {σ : st_S} {p : Int32 × st_S} (H : J_206_33 N g x l_1 l_3 σ = some p) : gR p.2 = gR σ := by
  unfold J_206_33 at H
  obtain ⟨p_7, G_7, H⟩ := F_bd H
  obtain ⟨p_8, G_8, H⟩ := F_bd H
  obtain rfl := Option.some.inj H
  exact ((F_165_R G_8).trans ((F_159_R G_7).trans rfl))
set_option maxHeartbeats 4000000 in
set_option maxRecDepth 100000 in
theorem J_206_33_ok {N d : Nat} {g : Nat} (hg : g = 79 ∨ g = 115) {x : Nat} (hx : x = 67 ∨ x = 69) {l_1 : Int32} {l_3 : Int32} {σ : st_S} {lv : vz_L} {p : Int32 × st_S} (g_0 : vz_g lv 0 = some (.ref 66)) (g_1 : vz_g lv 1 = some (.int l_1)) (g_3 : vz_g lv 3 = some (.int l_3)) (hnb : vz_nbL (vz_gr P0) lv = true) (hr_66_2 : gR σ 66 2 = x) (hr_66_10 : gR σ 66 10 = g) (H : J_206_33 N g x l_1 l_3 σ = some p) : vz_ev P0 (d + 9) 206 33 lv [] (hp σ) (.inl (some (.int p.1)), hp p.2) := by
  unfold J_206_33 at H
  refine ev_x (i := .aload_n 0) (len := 1) (p' := 34) (s' := [.ref 66]) rfl rfl (ld_a g_0) ?_
  refine ev_x (i := .iconst 2) (len := 1) (p' := 35) (s' := [.int 2, .ref 66]) rfl rfl rfl ?_
  refine ev_x (i := .aload_n 0) (len := 1) (p' := 36) (s' := [.ref 66, .int 2, .ref 66]) rfl rfl (ld_a g_0) ?_
  refine ev_x (i := .iload_n 1) (len := 1) (p' := 37) (s' := [.int l_1, .ref 66, .int 2, .ref 66]) rfl rfl (ld_i g_1) ?_
  refine ev_x (i := .iconst 1) (len := 1) (p' := 38) (s' := [.int 1, .int l_1, .ref 66, .int 2, .ref 66]) rfl rfl rfl ?_
  refine ev_x (i := .iadd) (len := 1) (p' := 39) (s' := [.int (l_1 + 1), .ref 66, .int 2, .ref 66]) rfl rfl rfl ?_
  obtain ⟨p_7, G_7, H⟩ := F_bd H
  refine ev_cv (d := d + 8) (As := [.int (l_1 + 1)]) (a := 66) (p' := 42) rfl rfl rfl ly_66 rfl rfl rfl rfl rfl hnb rfl (F_159_ok (d := d + 6)   G_7) ?_
  refine ev_st (st' := [.int p_7.1, .int 2, .ref 66]) rfl ?_
  have e_7 := F_159_R G_7
  obtain ⟨p_8, G_8, H⟩ := F_bd H
  refine ev_cv (d := d + 8) (As := [.int 2, .int p_7.1]) (a := 66) (p' := 45) rfl rfl rfl ly_66 rfl rfl rfl rfl rfl hnb rfl (F_165_ok (d := d + 7)   G_8) ?_
  refine ev_st (st' := []) rfl ?_
  have e_8 := F_165_R G_8
  refine ev_x (i := .iload_n 3) (len := 1) (p' := 46) (s' := [.int l_3]) rfl rfl (ld_i g_3) ?_
  obtain rfl := Option.some.inj H
  exact ev_iret rfl rfl rfl rfl
/-- GameTextModel.setItem(II)I, its loops -/
def L_206 (N : Nat) (g : Nat) (x : Nat) : Nat → Int32 → Int32 → Int32 → Int32 → st_S → Option (Int32 × st_S)
  | 0, _, _, _, _, _ => none
  | k + 1, l_1, l_3, l_5, l_6, σ =>
      if (gI σ (g + 30) 1) ≤ l_6 then
        if aB l_5 (gN σ (g + 18)) then
        (F_201 N g x (l_1 + 4) l_3 (gE (σ) (g + 18) (l_5 : Int32).toNatClampNeg) 0 (σ)).bind fun p_11 =>
        (N_133 N (g + 30) l_5 (p_11.2)).bind fun p_12 =>
        (F_159 N l_1 (p_12)).bind fun p_13 =>
        (N_133 N (g + 32) p_13.1 (p_13.2)).bind fun p_14 =>
        (N_133 N (g + 34) p_11.1 (p_14)).bind fun p_15 =>
        some ((l_3 + 1), p_15)
        else none
      else
        (N_139 N (g + 30) l_6 (σ)).bind fun p_16 =>
        if p_16.1 = l_5 then
          (F_159 N (l_1 + 1) (p_16.2)).bind fun p_18 =>
          (F_165 N 4 p_18.1 (p_18.2)).bind fun p_19 =>
          some (l_3, p_19)
        else
          L_206 N g x k l_1 l_3 l_5 (l_6 + 1) (p_16.2)
set_option maxRecDepth 100000 in
theorem L_206_R {N : Nat} {g : Nat} {x : Nat} : ∀ (k : Nat) (l_1 : Int32) (l_3 : Int32) (l_5 : Int32) (l_6 : Int32) (σ : st_S) (p : Int32 × st_S), L_206 N g x k l_1 l_3 l_5 l_6 σ = some p → gR p.2 = gR σ := by
  intro k
  induction k with
  | zero => intro l_1 l_3 l_5 l_6 σ p H; unfold L_206 at H; cases H
  | succ k ih =>
    intro l_1 l_3 l_5 l_6 σ p H
    unfold L_206 at H
    refine F_if H (fun _ H => ?_) (fun _ H => ?_)
    · obtain ⟨_, H⟩ := F_gd H
      obtain ⟨p_11, G_11, H⟩ := F_bd H
      obtain ⟨p_12, G_12, H⟩ := F_bd H
      obtain ⟨p_13, G_13, H⟩ := F_bd H
      obtain ⟨p_14, G_14, H⟩ := F_bd H
      obtain ⟨p_15, G_15, H⟩ := F_bd H
      obtain rfl := Option.some.inj H
      exact ((N_133_R G_15).trans ((N_133_R G_14).trans ((F_159_R G_13).trans ((N_133_R G_12).trans ((F_201_R G_11).trans rfl)))))
    · obtain ⟨p_16, G_16, H⟩ := F_bd H
      refine F_if H (fun _ H => ?_) (fun _ H => ?_)
      · obtain ⟨p_18, G_18, H⟩ := F_bd H
        obtain ⟨p_19, G_19, H⟩ := F_bd H
        obtain rfl := Option.some.inj H
        exact ((F_165_R G_19).trans ((F_159_R G_18).trans ((N_139_R G_16).trans rfl)))
      · exact (((ih _ _ _ _ _ _ H)).trans ((N_139_R G_16).trans rfl))
set_option maxHeartbeats 4000000 in
set_option maxRecDepth 100000 in
theorem L_206_ok {N d : Nat} {g : Nat} (hg : g = 79 ∨ g = 115) {x : Nat} (hx : x = 67 ∨ x = 69) : ∀ k : Nat, ∀ (l_1 : Int32) (l_3 : Int32) (l_5 : Int32) (l_6 : Int32) (σ : st_S) (lv : vz_L) (p : Int32 × st_S), vz_g lv 0 = some (.ref 66) → vz_g lv 1 = some (.int l_1) → vz_g lv 3 = some (.int l_3) → vz_g lv 5 = some (.int l_5) → vz_g lv 6 = some (.int l_6) → vz_nbL (vz_gr P0) lv = true → gR σ 66 2 = x → gR σ 66 10 = g → L_206 N g x k l_1 l_3 l_5 l_6 σ = some p → vz_ev P0 (d + 9) 206 61 lv [] (hp σ) (.inl (some (.int p.1)), hp p.2) := by
  rcases hg with rfl | rfl
  · intro k
    induction k with
    | zero => intro l_1 l_3 l_5 l_6 σ lv p g_0 g_1 g_3 g_5 g_6 hnb hr_66_2 hr_66_10 H; unfold L_206 at H; cases H
    | succ k ih =>
      intro l_1 l_3 l_5 l_6 σ lv p g_0 g_1 g_3 g_5 g_6 hnb hr_66_2 hr_66_10 H
      unfold L_206 at H
      refine ev_x (i := .iload 6) (len := 2) (p' := 63) (s' := [.int l_6]) rfl rfl (ld_i g_6) ?_
      refine ev_x (i := .aload_n 0) (len := 1) (p' := 64) (s' := [.ref 66, .int l_6]) rfl rfl (ld_a g_0) ?_
      refine ev_gr (p' := 67) (v := 79) rfl rfl rfl ly_66 rfl rfl hr_66_10 ?_
      refine ev_gc (p' := 70) (v := 109) rfl rfl rfl ly_79 rfl rfl ?_
      refine ev_gi (p' := 73) (v := (gI σ 109 1)) rfl rfl rfl ly_109 rfl rfl rfl ?_
      refine F_if H (fun c_9 H => ?_) (fun c_9 H => ?_)
      · refine ev_b2 (t := 113) (p' := 113) rfl rfl rfl (if_pos c_9) ?_
        refine ev_x (i := .aload_n 0) (len := 1) (p' := 114) (s' := [.ref 66]) rfl rfl (ld_a g_0) ?_
        refine ev_x (i := .iload_n 1) (len := 1) (p' := 115) (s' := [.int l_1, .ref 66]) rfl rfl (ld_i g_1) ?_
        refine ev_x (i := .iconst 4) (len := 1) (p' := 116) (s' := [.int 4, .int l_1, .ref 66]) rfl rfl rfl ?_
        refine ev_x (i := .iadd) (len := 1) (p' := 117) (s' := [.int (l_1 + 4), .ref 66]) rfl rfl rfl ?_
        refine ev_x (i := .iload_n 3) (len := 1) (p' := 118) (s' := [.int l_3, .int (l_1 + 4), .ref 66]) rfl rfl (ld_i g_3) ?_
        refine ev_x (i := .aload_n 0) (len := 1) (p' := 119) (s' := [.ref 66, .int l_3, .int (l_1 + 4), .ref 66]) rfl rfl (ld_a g_0) ?_
        refine ev_gr (p' := 122) (v := 79) rfl rfl rfl ly_66 rfl rfl hr_66_10 ?_
        refine ev_gc (p' := 125) (v := 97) rfl rfl rfl ly_79 rfl rfl ?_
        refine ev_x (i := .iload 5) (len := 2) (p' := 127) (s' := [.int l_5, .ref 97, .int l_3, .int (l_1 + 4), .ref 66]) rfl rfl (ld_i g_5) ?_
        obtain ⟨b_10, H⟩ := F_gd H
        refine ev_gb (p' := 128) (v := (gE (σ) 97 (l_5 : Int32).toNatClampNeg)) rfl rfl ly_97 rfl (gd_in b_10) rfl ?_
        refine ev_x (i := .iconst 0) (len := 1) (p' := 129) (s' := [.int 0, .int (gE (σ) 97 (l_5 : Int32).toNatClampNeg), .int l_3, .int (l_1 + 4), .ref 66]) rfl rfl rfl ?_
        obtain ⟨p_11, G_11, H⟩ := F_bd H
        refine ev_cv (d := d + 8) (As := [.int (l_1 + 4), .int l_3, .int (gE (σ) 97 (l_5 : Int32).toNatClampNeg), .int 0]) (a := 66) (p' := 132) rfl rfl rfl ly_66 rfl rfl rfl rfl rfl hnb rfl (F_201_ok (d := d + 0) (hg := (Or.inl rfl)) (hx := hx) (hr_66_2 := hr_66_2) (hr_66_10 := hr_66_10) G_11) ?_
        refine ev_st (st' := [.int p_11.1]) rfl ?_
        have e_11 := F_201_R G_11
        refine ev_x (i := .istore 6) (len := 2) (p' := 134) (s' := []) (l' := vz_s1 (lv) 6 (.int p_11.1)) rfl rfl rfl ?_
        refine ev_x (i := .aload_n 0) (len := 1) (p' := 135) (s' := [.ref 66]) rfl rfl (ld_a (vg_o (i := 6) (v := .int p_11.1) g_0 (by decide) (Or.inl rfl))) ?_
        refine ev_gr (p' := 138) (v := 79) rfl rfl rfl ly_66 rfl rfl ((congrFun (congrFun e_11 66) 10).trans hr_66_10) ?_
        refine ev_gc (p' := 141) (v := 109) rfl rfl rfl ly_79 rfl rfl ?_
        refine ev_x (i := .iload 5) (len := 2) (p' := 143) (s' := [.int l_5, .ref 109]) rfl rfl (ld_i (vg_o (i := 6) (v := .int p_11.1) g_5 (by decide) (Or.inl rfl))) ?_
        obtain ⟨p_12, G_12, H⟩ := F_bd H
        refine ev_cv (d := d + 8) (As := [.int l_5]) (a := 109) (p' := 146) rfl rfl rfl ly_109 rfl rfl rfl rfl rfl (nb_s1 hnb rfl) rfl (N_133_ok (d := d + 7) nm_109 G_12) ?_
        refine ev_st (st' := []) rfl ?_
        have e_12 := N_133_R G_12
        refine ev_x (i := .aload_n 0) (len := 1) (p' := 147) (s' := [.ref 66]) rfl rfl (ld_a (vg_o (i := 6) (v := .int p_11.1) g_0 (by decide) (Or.inl rfl))) ?_
        refine ev_gr (p' := 150) (v := 79) rfl rfl rfl ly_66 rfl rfl ((congrFun (congrFun e_12 66) 10).trans ((congrFun (congrFun e_11 66) 10).trans hr_66_10)) ?_
        refine ev_gc (p' := 153) (v := 111) rfl rfl rfl ly_79 rfl rfl ?_
        refine ev_x (i := .aload_n 0) (len := 1) (p' := 154) (s' := [.ref 66, .ref 111]) rfl rfl (ld_a (vg_o (i := 6) (v := .int p_11.1) g_0 (by decide) (Or.inl rfl))) ?_
        refine ev_x (i := .iload_n 1) (len := 1) (p' := 155) (s' := [.int l_1, .ref 66, .ref 111]) rfl rfl (ld_i (vg_o (i := 6) (v := .int p_11.1) g_1 (by decide) (Or.inl rfl))) ?_
        obtain ⟨p_13, G_13, H⟩ := F_bd H
        refine ev_cv (d := d + 8) (As := [.int l_1]) (a := 66) (p' := 158) rfl rfl rfl ly_66 rfl rfl rfl rfl rfl (nb_s1 hnb rfl) rfl (F_159_ok (d := d + 6)   G_13) ?_
        refine ev_st (st' := [.int p_13.1, .ref 111]) rfl ?_
        have e_13 := F_159_R G_13
        obtain ⟨p_14, G_14, H⟩ := F_bd H
        refine ev_cv (d := d + 8) (As := [.int p_13.1]) (a := 111) (p' := 161) rfl rfl rfl ly_111 rfl rfl rfl rfl rfl (nb_s1 hnb rfl) rfl (N_133_ok (d := d + 7) nm_111 G_14) ?_
        refine ev_st (st' := []) rfl ?_
        have e_14 := N_133_R G_14
        refine ev_x (i := .aload_n 0) (len := 1) (p' := 162) (s' := [.ref 66]) rfl rfl (ld_a (vg_o (i := 6) (v := .int p_11.1) g_0 (by decide) (Or.inl rfl))) ?_
        refine ev_gr (p' := 165) (v := 79) rfl rfl rfl ly_66 rfl rfl ((congrFun (congrFun e_14 66) 10).trans ((congrFun (congrFun e_13 66) 10).trans ((congrFun (congrFun e_12 66) 10).trans ((congrFun (congrFun e_11 66) 10).trans hr_66_10)))) ?_
        refine ev_gc (p' := 168) (v := 113) rfl rfl rfl ly_79 rfl rfl ?_
        refine ev_x (i := .iload 6) (len := 2) (p' := 170) (s' := [.int p_11.1, .ref 113]) rfl rfl (ld_i (vg_s (lv) 6 (.int p_11.1))) ?_
        obtain ⟨p_15, G_15, H⟩ := F_bd H
        refine ev_cv (d := d + 8) (As := [.int p_11.1]) (a := 113) (p' := 173) rfl rfl rfl ly_113 rfl rfl rfl rfl rfl (nb_s1 hnb rfl) rfl (N_133_ok (d := d + 7) nm_113 G_15) ?_
        refine ev_st (st' := []) rfl ?_
        have e_15 := N_133_R G_15
        refine ev_x (i := .iload_n 3) (len := 1) (p' := 174) (s' := [.int l_3]) rfl rfl (ld_i (vg_o (i := 6) (v := .int p_11.1) g_3 (by decide) (Or.inl rfl))) ?_
        refine ev_x (i := .iconst 1) (len := 1) (p' := 175) (s' := [.int 1, .int l_3]) rfl rfl rfl ?_
        refine ev_x (i := .iadd) (len := 1) (p' := 176) (s' := [.int (l_3 + 1)]) rfl rfl rfl ?_
        obtain rfl := Option.some.inj H
        exact ev_iret rfl rfl rfl rfl
      · refine ev_b2 (t := 113) (p' := 76) rfl rfl rfl (if_neg c_9) ?_
        refine ev_x (i := .aload_n 0) (len := 1) (p' := 77) (s' := [.ref 66]) rfl rfl (ld_a g_0) ?_
        refine ev_gr (p' := 80) (v := 79) rfl rfl rfl ly_66 rfl rfl hr_66_10 ?_
        refine ev_gc (p' := 83) (v := 109) rfl rfl rfl ly_79 rfl rfl ?_
        refine ev_x (i := .iload 6) (len := 2) (p' := 85) (s' := [.int l_6, .ref 109]) rfl rfl (ld_i g_6) ?_
        obtain ⟨p_16, G_16, H⟩ := F_bd H
        refine ev_cv (d := d + 8) (As := [.int l_6]) (a := 109) (p' := 88) rfl rfl rfl ly_109 rfl rfl rfl rfl rfl hnb rfl (N_139_ok (d := d + 7) nm_109 G_16) ?_
        refine ev_st (st' := [.int p_16.1]) rfl ?_
        have e_16 := N_139_R G_16
        refine ev_x (i := .iload 5) (len := 2) (p' := 90) (s' := [.int l_5, .int p_16.1]) rfl rfl (ld_i g_5) ?_
        refine F_if H (fun c_17 H => ?_) (fun c_17 H => ?_)
        · refine ev_b2 (t := 107) (p' := 93) rfl rfl rfl (if_neg (fun q => q c_17)) ?_
          refine ev_x (i := .aload_n 0) (len := 1) (p' := 94) (s' := [.ref 66]) rfl rfl (ld_a g_0) ?_
          refine ev_x (i := .iconst 4) (len := 1) (p' := 95) (s' := [.int 4, .ref 66]) rfl rfl rfl ?_
          refine ev_x (i := .aload_n 0) (len := 1) (p' := 96) (s' := [.ref 66, .int 4, .ref 66]) rfl rfl (ld_a g_0) ?_
          refine ev_x (i := .iload_n 1) (len := 1) (p' := 97) (s' := [.int l_1, .ref 66, .int 4, .ref 66]) rfl rfl (ld_i g_1) ?_
          refine ev_x (i := .iconst 1) (len := 1) (p' := 98) (s' := [.int 1, .int l_1, .ref 66, .int 4, .ref 66]) rfl rfl rfl ?_
          refine ev_x (i := .iadd) (len := 1) (p' := 99) (s' := [.int (l_1 + 1), .ref 66, .int 4, .ref 66]) rfl rfl rfl ?_
          obtain ⟨p_18, G_18, H⟩ := F_bd H
          refine ev_cv (d := d + 8) (As := [.int (l_1 + 1)]) (a := 66) (p' := 102) rfl rfl rfl ly_66 rfl rfl rfl rfl rfl hnb rfl (F_159_ok (d := d + 6)   G_18) ?_
          refine ev_st (st' := [.int p_18.1, .int 4, .ref 66]) rfl ?_
          have e_18 := F_159_R G_18
          obtain ⟨p_19, G_19, H⟩ := F_bd H
          refine ev_cv (d := d + 8) (As := [.int 4, .int p_18.1]) (a := 66) (p' := 105) rfl rfl rfl ly_66 rfl rfl rfl rfl rfl hnb rfl (F_165_ok (d := d + 7)   G_19) ?_
          refine ev_st (st' := []) rfl ?_
          have e_19 := F_165_R G_19
          refine ev_x (i := .iload_n 3) (len := 1) (p' := 106) (s' := [.int l_3]) rfl rfl (ld_i g_3) ?_
          obtain rfl := Option.some.inj H
          exact ev_iret rfl rfl rfl rfl
        · refine ev_b2 (t := 107) (p' := 107) rfl rfl rfl (if_pos c_17) ?_
          refine ev_x (i := .iinc 6 1) (len := 3) (p' := 110) (s' := []) (l' := vz_s1 (lv) 6 (.int (l_6 + 1))) rfl rfl (ld_inc g_6 rfl) ?_
          refine ev_x (i := .goto (-49)) (len := 3) (p' := 61) (s' := []) rfl rfl rfl ?_
          exact ih _ _ _ _ _ _ _ (vg_o (i := 6) (v := .int (l_6 + 1)) g_0 (by decide) (Or.inl rfl)) (vg_o (i := 6) (v := .int (l_6 + 1)) g_1 (by decide) (Or.inl rfl)) (vg_o (i := 6) (v := .int (l_6 + 1)) g_3 (by decide) (Or.inl rfl)) (vg_o (i := 6) (v := .int (l_6 + 1)) g_5 (by decide) (Or.inl rfl)) (vg_s (lv) 6 (.int (l_6 + 1))) (nb_s1 hnb rfl) ((congrFun (congrFun e_16 66) 2).trans hr_66_2) ((congrFun (congrFun e_16 66) 10).trans hr_66_10) H
  · intro k
    induction k with
    | zero => intro l_1 l_3 l_5 l_6 σ lv p g_0 g_1 g_3 g_5 g_6 hnb hr_66_2 hr_66_10 H; unfold L_206 at H; cases H
    | succ k ih =>
      intro l_1 l_3 l_5 l_6 σ lv p g_0 g_1 g_3 g_5 g_6 hnb hr_66_2 hr_66_10 H
      unfold L_206 at H
      refine ev_x (i := .iload 6) (len := 2) (p' := 63) (s' := [.int l_6]) rfl rfl (ld_i g_6) ?_
      refine ev_x (i := .aload_n 0) (len := 1) (p' := 64) (s' := [.ref 66, .int l_6]) rfl rfl (ld_a g_0) ?_
      refine ev_gr (p' := 67) (v := 115) rfl rfl rfl ly_66 rfl rfl hr_66_10 ?_
      refine ev_gc (p' := 70) (v := 145) rfl rfl rfl ly_115 rfl rfl ?_
      refine ev_gi (p' := 73) (v := (gI σ 145 1)) rfl rfl rfl ly_145 rfl rfl rfl ?_
      refine F_if H (fun c_9 H => ?_) (fun c_9 H => ?_)
      · refine ev_b2 (t := 113) (p' := 113) rfl rfl rfl (if_pos c_9) ?_
        refine ev_x (i := .aload_n 0) (len := 1) (p' := 114) (s' := [.ref 66]) rfl rfl (ld_a g_0) ?_
        refine ev_x (i := .iload_n 1) (len := 1) (p' := 115) (s' := [.int l_1, .ref 66]) rfl rfl (ld_i g_1) ?_
        refine ev_x (i := .iconst 4) (len := 1) (p' := 116) (s' := [.int 4, .int l_1, .ref 66]) rfl rfl rfl ?_
        refine ev_x (i := .iadd) (len := 1) (p' := 117) (s' := [.int (l_1 + 4), .ref 66]) rfl rfl rfl ?_
        refine ev_x (i := .iload_n 3) (len := 1) (p' := 118) (s' := [.int l_3, .int (l_1 + 4), .ref 66]) rfl rfl (ld_i g_3) ?_
        refine ev_x (i := .aload_n 0) (len := 1) (p' := 119) (s' := [.ref 66, .int l_3, .int (l_1 + 4), .ref 66]) rfl rfl (ld_a g_0) ?_
        refine ev_gr (p' := 122) (v := 115) rfl rfl rfl ly_66 rfl rfl hr_66_10 ?_
        refine ev_gc (p' := 125) (v := 133) rfl rfl rfl ly_115 rfl rfl ?_
        refine ev_x (i := .iload 5) (len := 2) (p' := 127) (s' := [.int l_5, .ref 133, .int l_3, .int (l_1 + 4), .ref 66]) rfl rfl (ld_i g_5) ?_
        obtain ⟨b_10, H⟩ := F_gd H
        refine ev_gb (p' := 128) (v := (gE (σ) 133 (l_5 : Int32).toNatClampNeg)) rfl rfl ly_133 rfl (gd_in b_10) rfl ?_
        refine ev_x (i := .iconst 0) (len := 1) (p' := 129) (s' := [.int 0, .int (gE (σ) 133 (l_5 : Int32).toNatClampNeg), .int l_3, .int (l_1 + 4), .ref 66]) rfl rfl rfl ?_
        obtain ⟨p_11, G_11, H⟩ := F_bd H
        refine ev_cv (d := d + 8) (As := [.int (l_1 + 4), .int l_3, .int (gE (σ) 133 (l_5 : Int32).toNatClampNeg), .int 0]) (a := 66) (p' := 132) rfl rfl rfl ly_66 rfl rfl rfl rfl rfl hnb rfl (F_201_ok (d := d + 0) (hg := (Or.inr rfl)) (hx := hx) (hr_66_2 := hr_66_2) (hr_66_10 := hr_66_10) G_11) ?_
        refine ev_st (st' := [.int p_11.1]) rfl ?_
        have e_11 := F_201_R G_11
        refine ev_x (i := .istore 6) (len := 2) (p' := 134) (s' := []) (l' := vz_s1 (lv) 6 (.int p_11.1)) rfl rfl rfl ?_
        refine ev_x (i := .aload_n 0) (len := 1) (p' := 135) (s' := [.ref 66]) rfl rfl (ld_a (vg_o (i := 6) (v := .int p_11.1) g_0 (by decide) (Or.inl rfl))) ?_
        refine ev_gr (p' := 138) (v := 115) rfl rfl rfl ly_66 rfl rfl ((congrFun (congrFun e_11 66) 10).trans hr_66_10) ?_
        refine ev_gc (p' := 141) (v := 145) rfl rfl rfl ly_115 rfl rfl ?_
        refine ev_x (i := .iload 5) (len := 2) (p' := 143) (s' := [.int l_5, .ref 145]) rfl rfl (ld_i (vg_o (i := 6) (v := .int p_11.1) g_5 (by decide) (Or.inl rfl))) ?_
        obtain ⟨p_12, G_12, H⟩ := F_bd H
        refine ev_cv (d := d + 8) (As := [.int l_5]) (a := 145) (p' := 146) rfl rfl rfl ly_145 rfl rfl rfl rfl rfl (nb_s1 hnb rfl) rfl (N_133_ok (d := d + 7) nm_145 G_12) ?_
        refine ev_st (st' := []) rfl ?_
        have e_12 := N_133_R G_12
        refine ev_x (i := .aload_n 0) (len := 1) (p' := 147) (s' := [.ref 66]) rfl rfl (ld_a (vg_o (i := 6) (v := .int p_11.1) g_0 (by decide) (Or.inl rfl))) ?_
        refine ev_gr (p' := 150) (v := 115) rfl rfl rfl ly_66 rfl rfl ((congrFun (congrFun e_12 66) 10).trans ((congrFun (congrFun e_11 66) 10).trans hr_66_10)) ?_
        refine ev_gc (p' := 153) (v := 147) rfl rfl rfl ly_115 rfl rfl ?_
        refine ev_x (i := .aload_n 0) (len := 1) (p' := 154) (s' := [.ref 66, .ref 147]) rfl rfl (ld_a (vg_o (i := 6) (v := .int p_11.1) g_0 (by decide) (Or.inl rfl))) ?_
        refine ev_x (i := .iload_n 1) (len := 1) (p' := 155) (s' := [.int l_1, .ref 66, .ref 147]) rfl rfl (ld_i (vg_o (i := 6) (v := .int p_11.1) g_1 (by decide) (Or.inl rfl))) ?_
        obtain ⟨p_13, G_13, H⟩ := F_bd H
        refine ev_cv (d := d + 8) (As := [.int l_1]) (a := 66) (p' := 158) rfl rfl rfl ly_66 rfl rfl rfl rfl rfl (nb_s1 hnb rfl) rfl (F_159_ok (d := d + 6)   G_13) ?_
        refine ev_st (st' := [.int p_13.1, .ref 147]) rfl ?_
        have e_13 := F_159_R G_13
        obtain ⟨p_14, G_14, H⟩ := F_bd H
        refine ev_cv (d := d + 8) (As := [.int p_13.1]) (a := 147) (p' := 161) rfl rfl rfl ly_147 rfl rfl rfl rfl rfl (nb_s1 hnb rfl) rfl (N_133_ok (d := d + 7) nm_147 G_14) ?_
        refine ev_st (st' := []) rfl ?_
        have e_14 := N_133_R G_14
        refine ev_x (i := .aload_n 0) (len := 1) (p' := 162) (s' := [.ref 66]) rfl rfl (ld_a (vg_o (i := 6) (v := .int p_11.1) g_0 (by decide) (Or.inl rfl))) ?_
        refine ev_gr (p' := 165) (v := 115) rfl rfl rfl ly_66 rfl rfl ((congrFun (congrFun e_14 66) 10).trans ((congrFun (congrFun e_13 66) 10).trans ((congrFun (congrFun e_12 66) 10).trans ((congrFun (congrFun e_11 66) 10).trans hr_66_10)))) ?_
        refine ev_gc (p' := 168) (v := 149) rfl rfl rfl ly_115 rfl rfl ?_
        refine ev_x (i := .iload 6) (len := 2) (p' := 170) (s' := [.int p_11.1, .ref 149]) rfl rfl (ld_i (vg_s (lv) 6 (.int p_11.1))) ?_
        obtain ⟨p_15, G_15, H⟩ := F_bd H
        refine ev_cv (d := d + 8) (As := [.int p_11.1]) (a := 149) (p' := 173) rfl rfl rfl ly_149 rfl rfl rfl rfl rfl (nb_s1 hnb rfl) rfl (N_133_ok (d := d + 7) nm_149 G_15) ?_
        refine ev_st (st' := []) rfl ?_
        have e_15 := N_133_R G_15
        refine ev_x (i := .iload_n 3) (len := 1) (p' := 174) (s' := [.int l_3]) rfl rfl (ld_i (vg_o (i := 6) (v := .int p_11.1) g_3 (by decide) (Or.inl rfl))) ?_
        refine ev_x (i := .iconst 1) (len := 1) (p' := 175) (s' := [.int 1, .int l_3]) rfl rfl rfl ?_
        refine ev_x (i := .iadd) (len := 1) (p' := 176) (s' := [.int (l_3 + 1)]) rfl rfl rfl ?_
        obtain rfl := Option.some.inj H
        exact ev_iret rfl rfl rfl rfl
      · refine ev_b2 (t := 113) (p' := 76) rfl rfl rfl (if_neg c_9) ?_
        refine ev_x (i := .aload_n 0) (len := 1) (p' := 77) (s' := [.ref 66]) rfl rfl (ld_a g_0) ?_
        refine ev_gr (p' := 80) (v := 115) rfl rfl rfl ly_66 rfl rfl hr_66_10 ?_
        refine ev_gc (p' := 83) (v := 145) rfl rfl rfl ly_115 rfl rfl ?_
        refine ev_x (i := .iload 6) (len := 2) (p' := 85) (s' := [.int l_6, .ref 145]) rfl rfl (ld_i g_6) ?_
        obtain ⟨p_16, G_16, H⟩ := F_bd H
        refine ev_cv (d := d + 8) (As := [.int l_6]) (a := 145) (p' := 88) rfl rfl rfl ly_145 rfl rfl rfl rfl rfl hnb rfl (N_139_ok (d := d + 7) nm_145 G_16) ?_
        refine ev_st (st' := [.int p_16.1]) rfl ?_
        have e_16 := N_139_R G_16
        refine ev_x (i := .iload 5) (len := 2) (p' := 90) (s' := [.int l_5, .int p_16.1]) rfl rfl (ld_i g_5) ?_
        refine F_if H (fun c_17 H => ?_) (fun c_17 H => ?_)
        · refine ev_b2 (t := 107) (p' := 93) rfl rfl rfl (if_neg (fun q => q c_17)) ?_
          refine ev_x (i := .aload_n 0) (len := 1) (p' := 94) (s' := [.ref 66]) rfl rfl (ld_a g_0) ?_
          refine ev_x (i := .iconst 4) (len := 1) (p' := 95) (s' := [.int 4, .ref 66]) rfl rfl rfl ?_
          refine ev_x (i := .aload_n 0) (len := 1) (p' := 96) (s' := [.ref 66, .int 4, .ref 66]) rfl rfl (ld_a g_0) ?_
          refine ev_x (i := .iload_n 1) (len := 1) (p' := 97) (s' := [.int l_1, .ref 66, .int 4, .ref 66]) rfl rfl (ld_i g_1) ?_
          refine ev_x (i := .iconst 1) (len := 1) (p' := 98) (s' := [.int 1, .int l_1, .ref 66, .int 4, .ref 66]) rfl rfl rfl ?_
          refine ev_x (i := .iadd) (len := 1) (p' := 99) (s' := [.int (l_1 + 1), .ref 66, .int 4, .ref 66]) rfl rfl rfl ?_
          obtain ⟨p_18, G_18, H⟩ := F_bd H
          refine ev_cv (d := d + 8) (As := [.int (l_1 + 1)]) (a := 66) (p' := 102) rfl rfl rfl ly_66 rfl rfl rfl rfl rfl hnb rfl (F_159_ok (d := d + 6)   G_18) ?_
          refine ev_st (st' := [.int p_18.1, .int 4, .ref 66]) rfl ?_
          have e_18 := F_159_R G_18
          obtain ⟨p_19, G_19, H⟩ := F_bd H
          refine ev_cv (d := d + 8) (As := [.int 4, .int p_18.1]) (a := 66) (p' := 105) rfl rfl rfl ly_66 rfl rfl rfl rfl rfl hnb rfl (F_165_ok (d := d + 7)   G_19) ?_
          refine ev_st (st' := []) rfl ?_
          have e_19 := F_165_R G_19
          refine ev_x (i := .iload_n 3) (len := 1) (p' := 106) (s' := [.int l_3]) rfl rfl (ld_i g_3) ?_
          obtain rfl := Option.some.inj H
          exact ev_iret rfl rfl rfl rfl
        · refine ev_b2 (t := 107) (p' := 107) rfl rfl rfl (if_pos c_17) ?_
          refine ev_x (i := .iinc 6 1) (len := 3) (p' := 110) (s' := []) (l' := vz_s1 (lv) 6 (.int (l_6 + 1))) rfl rfl (ld_inc g_6 rfl) ?_
          refine ev_x (i := .goto (-49)) (len := 3) (p' := 61) (s' := []) rfl rfl rfl ?_
          exact ih _ _ _ _ _ _ _ (vg_o (i := 6) (v := .int (l_6 + 1)) g_0 (by decide) (Or.inl rfl)) (vg_o (i := 6) (v := .int (l_6 + 1)) g_1 (by decide) (Or.inl rfl)) (vg_o (i := 6) (v := .int (l_6 + 1)) g_3 (by decide) (Or.inl rfl)) (vg_o (i := 6) (v := .int (l_6 + 1)) g_5 (by decide) (Or.inl rfl)) (vg_s (lv) 6 (.int (l_6 + 1))) (nb_s1 hnb rfl) ((congrFun (congrFun e_16 66) 2).trans hr_66_2) ((congrFun (congrFun e_16 66) 10).trans hr_66_10) H
/-- GameTextModel.setItem(II)I -/
def F_206 (N : Nat) (g : Nat) (x : Nat) (x_1 : Int32) (x_2 : Int32) (σ : st_S) : Option (Int32 × st_S) :=
  (F_207 N x_1 (σ)).bind fun p_1 =>
  (F_166 N x (x_1 + 1) (p_1.2)).bind fun p_2 =>
  if p_2.1 < 0 then
    J_206_33 N g x x_1 p_1.1 (p_2.2)
  else
    (N_139 N 153 p_2.1 (p_2.2)).bind fun p_4 =>
    if p_4.1 = 3 then
      (N_139 N 155 p_2.1 (p_4.2)).bind fun p_6 =>
      L_206 N g x N x_1 p_1.1 p_6.1 x_2 (p_6.2)
    else
      J_206_33 N g x x_1 p_1.1 (p_4.2)
set_option maxRecDepth 100000 in
theorem F_206_R {N : Nat} {g : Nat} {x : Nat} {x_1 : Int32} {x_2 : Int32} {σ : st_S} {p : Int32 × st_S} (H : F_206 N g x x_1 x_2 σ = some p) : gR p.2 = gR σ := by
  unfold F_206 at H
  obtain ⟨p_1, G_1, H⟩ := F_bd H
  obtain ⟨p_2, G_2, H⟩ := F_bd H
  refine F_if H (fun _ H => ?_) (fun _ H => ?_)
  · exact (((J_206_33_R H)).trans ((F_166_R G_2).trans ((F_207_R G_1).trans rfl)))
  · obtain ⟨p_4, G_4, H⟩ := F_bd H
    refine F_if H (fun _ H => ?_) (fun _ H => ?_)
    · obtain ⟨p_6, G_6, H⟩ := F_bd H
      exact (((L_206_R _ _ _ _ _ _ _ H)).trans ((N_139_R G_6).trans ((N_139_R G_4).trans ((F_166_R G_2).trans ((F_207_R G_1).trans rfl)))))
    · exact (((J_206_33_R H)).trans ((N_139_R G_4).trans ((F_166_R G_2).trans ((F_207_R G_1).trans rfl))))
set_option maxHeartbeats 4000000 in
set_option maxRecDepth 100000 in
theorem F_206_ok {N d : Nat} {g : Nat} (hg : g = 79 ∨ g = 115) {x : Nat} (hx : x = 67 ∨ x = 69) {x_1 : Int32} {x_2 : Int32} {σ : st_S} {p : Int32 × st_S} (hr_66_2 : gR σ 66 2 = x) (hr_66_10 : gR σ 66 10 = g) (H : F_206 N g x x_1 x_2 σ = some p) : vz_ev P0 (d + 9) 206 0 (lv_args 0 [.ref 66, .int x_1, .int x_2]) [] (hp σ) (.inl (some (.int p.1)), hp p.2) := by
  unfold F_206 at H
  refine ev_x (i := .aload_n 0) (len := 1) (p' := 1) (s' := [.ref 66]) rfl rfl rfl ?_
  refine ev_x (i := .iload_n 1) (len := 1) (p' := 2) (s' := [.int x_1, .ref 66]) rfl rfl rfl ?_
  obtain ⟨p_1, G_1, H⟩ := F_bd H
  refine ev_cv (d := d + 8) (As := [.int x_1]) (a := 66) (p' := 5) rfl rfl rfl ly_66 rfl rfl rfl rfl rfl rfl rfl (F_207_ok (d := d + 5)   G_1) ?_
  refine ev_st (st' := [.int p_1.1]) rfl ?_
  have e_1 := F_207_R G_1
  refine ev_x (i := .istore_n 3) (len := 1) (p' := 6) (s' := []) (l' := [(3, .int p_1.1), (0, .ref 66), (1, .int x_1), (2, .int x_2)]) rfl rfl rfl ?_
  refine ev_x (i := .aload_n 0) (len := 1) (p' := 7) (s' := [.ref 66]) rfl rfl rfl ?_
  refine ev_x (i := .iload_n 1) (len := 1) (p' := 8) (s' := [.int x_1, .ref 66]) rfl rfl rfl ?_
  refine ev_x (i := .iconst 1) (len := 1) (p' := 9) (s' := [.int 1, .int x_1, .ref 66]) rfl rfl rfl ?_
  refine ev_x (i := .iadd) (len := 1) (p' := 10) (s' := [.int (x_1 + 1), .ref 66]) rfl rfl rfl ?_
  obtain ⟨p_2, G_2, H⟩ := F_bd H
  refine ev_cv (d := d + 8) (As := [.int (x_1 + 1)]) (a := 66) (p' := 13) rfl rfl rfl ly_66 rfl rfl rfl rfl rfl rfl rfl (F_166_ok (d := d + 4) (hx := hx) (hr_66_2 := ((congrFun (congrFun e_1 66) 2).trans hr_66_2)) G_2) ?_
  refine ev_st (st' := [.int p_2.1]) rfl ?_
  have e_2 := F_166_R G_2
  refine ev_x (i := .istore 4) (len := 2) (p' := 15) (s' := []) (l' := [(4, .int p_2.1), (3, .int p_1.1), (0, .ref 66), (1, .int x_1), (2, .int x_2)]) rfl rfl rfl ?_
  refine ev_x (i := .iload 4) (len := 2) (p' := 17) (s' := [.int p_2.1]) rfl rfl rfl ?_
  refine F_if H (fun c_3 H => ?_) (fun c_3 H => ?_)
  · refine ev_b0 (t := 33) (p' := 33) rfl rfl rfl (if_pos c_3) ?_
    exact J_206_33_ok (d := d) hg hx rfl rfl rfl rfl ((congrFun (congrFun e_2 66) 2).trans ((congrFun (congrFun e_1 66) 2).trans hr_66_2)) ((congrFun (congrFun e_2 66) 10).trans ((congrFun (congrFun e_1 66) 10).trans hr_66_10)) H
  · refine ev_b0 (t := 33) (p' := 20) rfl rfl rfl (if_neg c_3) ?_
    refine ev_x (i := .aload_n 0) (len := 1) (p' := 21) (s' := [.ref 66]) rfl rfl rfl ?_
    refine ev_gc (p' := 24) (v := 153) rfl rfl rfl ly_66 rfl rfl ?_
    refine ev_x (i := .iload 4) (len := 2) (p' := 26) (s' := [.int p_2.1, .ref 153]) rfl rfl rfl ?_
    obtain ⟨p_4, G_4, H⟩ := F_bd H
    refine ev_cv (d := d + 8) (As := [.int p_2.1]) (a := 153) (p' := 29) rfl rfl rfl ly_153 rfl rfl rfl rfl rfl rfl rfl (N_139_ok (d := d + 7) nm_153 G_4) ?_
    refine ev_st (st' := [.int p_4.1]) rfl ?_
    have e_4 := N_139_R G_4
    refine ev_x (i := .iconst 3) (len := 1) (p' := 30) (s' := [.int 3, .int p_4.1]) rfl rfl rfl ?_
    refine F_if H (fun c_5 H => ?_) (fun c_5 H => ?_)
    · refine ev_b2 (t := 47) (p' := 47) rfl rfl rfl (if_pos c_5) ?_
      refine ev_x (i := .aload_n 0) (len := 1) (p' := 48) (s' := [.ref 66]) rfl rfl rfl ?_
      refine ev_gc (p' := 51) (v := 155) rfl rfl rfl ly_66 rfl rfl ?_
      refine ev_x (i := .iload 4) (len := 2) (p' := 53) (s' := [.int p_2.1, .ref 155]) rfl rfl rfl ?_
      obtain ⟨p_6, G_6, H⟩ := F_bd H
      refine ev_cv (d := d + 8) (As := [.int p_2.1]) (a := 155) (p' := 56) rfl rfl rfl ly_155 rfl rfl rfl rfl rfl rfl rfl (N_139_ok (d := d + 7) nm_155 G_6) ?_
      refine ev_st (st' := [.int p_6.1]) rfl ?_
      have e_6 := N_139_R G_6
      refine ev_x (i := .istore 5) (len := 2) (p' := 58) (s' := []) (l' := [(5, .int p_6.1), (4, .int p_2.1), (3, .int p_1.1), (0, .ref 66), (1, .int x_1), (2, .int x_2)]) rfl rfl rfl ?_
      refine ev_x (i := .iload_n 2) (len := 1) (p' := 59) (s' := [.int x_2]) rfl rfl rfl ?_
      refine ev_x (i := .istore 6) (len := 2) (p' := 61) (s' := []) (l' := [(6, .int x_2), (5, .int p_6.1), (4, .int p_2.1), (3, .int p_1.1), (0, .ref 66), (1, .int x_1), (2, .int x_2)]) rfl rfl rfl ?_
      exact (L_206_ok (d := d) hg hx N) _ _ _ _ _ _ _ rfl rfl rfl rfl rfl rfl ((congrFun (congrFun e_6 66) 2).trans ((congrFun (congrFun e_4 66) 2).trans ((congrFun (congrFun e_2 66) 2).trans ((congrFun (congrFun e_1 66) 2).trans hr_66_2)))) ((congrFun (congrFun e_6 66) 10).trans ((congrFun (congrFun e_4 66) 10).trans ((congrFun (congrFun e_2 66) 10).trans ((congrFun (congrFun e_1 66) 10).trans hr_66_10)))) H
    · refine ev_b2 (t := 47) (p' := 33) rfl rfl rfl (if_neg c_5) ?_
      exact J_206_33_ok (d := d) hg hx rfl rfl rfl rfl ((congrFun (congrFun e_4 66) 2).trans ((congrFun (congrFun e_2 66) 2).trans ((congrFun (congrFun e_1 66) 2).trans hr_66_2))) ((congrFun (congrFun e_4 66) 10).trans ((congrFun (congrFun e_2 66) 10).trans ((congrFun (congrFun e_1 66) 10).trans hr_66_10))) H
/-- GameTextModel.branch(III)I, from 195 -/
def J_205_195 (N : Nat) (g : Nat) (x : Nat) (l_1 : Int32) (l_4 : Int32) (l_6 : Int32) (l_7 : Int32) (σ : st_S) : Option (Int32 × st_S) :=
  if aB l_6 (gN σ (g + 28)) then
  if aB l_6 (gN σ (g + 29)) then
  if aB l_1 (gN σ (g + 25)) then
  some (l_7, st_e (st_e (σ) (g + 29) ((l_6 : Int32).toNatClampNeg) ((gI σ (g + 30) 1) - (gE (σ) (g + 28) (l_6 : Int32).toNatClampNeg))) (g + 25) ((l_1 : Int32).toNatClampNeg) (l_4 + 1))
  else none
  else none
  else none
set_option maxRecDepth 100000 in
theorem J_205_195_R {N : Nat} {g : Nat} {x : Nat} {l_1 : Int32} {l_4 : Int32} {l_6 : Int32} {l_7 : Int32} {σ : st_S} {p : Int32 × st_S} (H : J_205_195 N g x l_1 l_4 l_6 l_7 σ = some p) : gR p.2 = gR σ := by
  unfold J_205_195 at H
  obtain ⟨_, H⟩ := F_gd H
  obtain ⟨_, H⟩ := F_gd H
  obtain ⟨_, H⟩ := F_gd H
  obtain rfl := Option.some.inj H
  exact rfl
set_option maxHeartbeats 4000000 in
set_option maxRecDepth 100000 in
theorem J_205_195_ok {N d : Nat} {g : Nat} (hg : g = 79 ∨ g = 115) {x : Nat} (hx : x = 67 ∨ x = 69) {l_1 : Int32} {l_4 : Int32} {l_6 : Int32} {l_7 : Int32} {σ : st_S} {lv : vz_L} {p : Int32 × st_S} (g_0 : vz_g lv 0 = some (.ref 66)) (g_1 : vz_g lv 1 = some (.int l_1)) (g_4 : vz_g lv 4 = some (.int l_4)) (g_6 : vz_g lv 6 = some (.int l_6)) (g_7 : vz_g lv 7 = some (.int l_7)) (hnb : vz_nbL (vz_gr P0) lv = true) (hr_66_2 : gR σ 66 2 = x) (hr_66_10 : gR σ 66 10 = g) (H : J_205_195 N g x l_1 l_4 l_6 l_7 σ = some p) : vz_ev P0 (d + 10) 205 195 lv [] (hp σ) (.inl (some (.int p.1)), hp p.2) := by
  unfold J_205_195 at H
  rcases hg with rfl | rfl
  · refine ev_x (i := .aload_n 0) (len := 1) (p' := 196) (s' := [.ref 66]) rfl rfl (ld_a g_0) ?_
    refine ev_gr (p' := 199) (v := 79) rfl rfl rfl ly_66 rfl rfl hr_66_10 ?_
    refine ev_gc (p' := 202) (v := 108) rfl rfl rfl ly_79 rfl rfl ?_
    refine ev_x (i := .iload 6) (len := 2) (p' := 204) (s' := [.int l_6, .ref 108]) rfl rfl (ld_i g_6) ?_
    refine ev_x (i := .aload_n 0) (len := 1) (p' := 205) (s' := [.ref 66, .int l_6, .ref 108]) rfl rfl (ld_a g_0) ?_
    refine ev_gr (p' := 208) (v := 79) rfl rfl rfl ly_66 rfl rfl hr_66_10 ?_
    refine ev_gc (p' := 211) (v := 109) rfl rfl rfl ly_79 rfl rfl ?_
    refine ev_gi (p' := 214) (v := (gI σ 109 1)) rfl rfl rfl ly_109 rfl rfl rfl ?_
    refine ev_x (i := .aload_n 0) (len := 1) (p' := 215) (s' := [.ref 66, .int (gI σ 109 1), .int l_6, .ref 108]) rfl rfl (ld_a g_0) ?_
    refine ev_gr (p' := 218) (v := 79) rfl rfl rfl ly_66 rfl rfl hr_66_10 ?_
    refine ev_gc (p' := 221) (v := 107) rfl rfl rfl ly_79 rfl rfl ?_
    refine ev_x (i := .iload 6) (len := 2) (p' := 223) (s' := [.int l_6, .ref 107, .int (gI σ 109 1), .int l_6, .ref 108]) rfl rfl (ld_i g_6) ?_
    obtain ⟨b_20, H⟩ := F_gd H
    refine ev_ga (p' := 224) (v := (gE (σ) 107 (l_6 : Int32).toNatClampNeg)) rfl rfl ly_107 rfl (gd_in b_20) rfl ?_
    refine ev_x (i := .isub) (len := 1) (p' := 225) (s' := [.int ((gI σ 109 1) - (gE (σ) 107 (l_6 : Int32).toNatClampNeg)), .int l_6, .ref 108]) rfl rfl rfl ?_
    obtain ⟨b_21, H⟩ := F_gd H
    refine ev_pa (j := (l_6 : Int32).toNatClampNeg) (p' := 226) rfl rfl ly_108 rfl (gd_in b_21) rfl ?_
    refine ev_x (i := .aload_n 0) (len := 1) (p' := 227) (s' := [.ref 66]) rfl rfl (ld_a g_0) ?_
    refine ev_gr (p' := 230) (v := 79) rfl rfl rfl ly_66 rfl rfl hr_66_10 ?_
    refine ev_gc (p' := 233) (v := 104) rfl rfl rfl ly_79 rfl rfl ?_
    refine ev_x (i := .iload_n 1) (len := 1) (p' := 234) (s' := [.int l_1, .ref 104]) rfl rfl (ld_i g_1) ?_
    refine ev_x (i := .iload 4) (len := 2) (p' := 236) (s' := [.int l_4, .int l_1, .ref 104]) rfl rfl (ld_i g_4) ?_
    refine ev_x (i := .iconst 1) (len := 1) (p' := 237) (s' := [.int 1, .int l_4, .int l_1, .ref 104]) rfl rfl rfl ?_
    refine ev_x (i := .iadd) (len := 1) (p' := 238) (s' := [.int (l_4 + 1), .int l_1, .ref 104]) rfl rfl rfl ?_
    obtain ⟨b_22, H⟩ := F_gd H
    refine ev_pa (j := (l_1 : Int32).toNatClampNeg) (p' := 239) rfl rfl ly_104 rfl (gd_in b_22) rfl ?_
    refine ev_x (i := .iload 7) (len := 2) (p' := 241) (s' := [.int l_7]) rfl rfl (ld_i g_7) ?_
    obtain rfl := Option.some.inj H
    exact ev_iret rfl rfl rfl rfl
  · refine ev_x (i := .aload_n 0) (len := 1) (p' := 196) (s' := [.ref 66]) rfl rfl (ld_a g_0) ?_
    refine ev_gr (p' := 199) (v := 115) rfl rfl rfl ly_66 rfl rfl hr_66_10 ?_
    refine ev_gc (p' := 202) (v := 144) rfl rfl rfl ly_115 rfl rfl ?_
    refine ev_x (i := .iload 6) (len := 2) (p' := 204) (s' := [.int l_6, .ref 144]) rfl rfl (ld_i g_6) ?_
    refine ev_x (i := .aload_n 0) (len := 1) (p' := 205) (s' := [.ref 66, .int l_6, .ref 144]) rfl rfl (ld_a g_0) ?_
    refine ev_gr (p' := 208) (v := 115) rfl rfl rfl ly_66 rfl rfl hr_66_10 ?_
    refine ev_gc (p' := 211) (v := 145) rfl rfl rfl ly_115 rfl rfl ?_
    refine ev_gi (p' := 214) (v := (gI σ 145 1)) rfl rfl rfl ly_145 rfl rfl rfl ?_
    refine ev_x (i := .aload_n 0) (len := 1) (p' := 215) (s' := [.ref 66, .int (gI σ 145 1), .int l_6, .ref 144]) rfl rfl (ld_a g_0) ?_
    refine ev_gr (p' := 218) (v := 115) rfl rfl rfl ly_66 rfl rfl hr_66_10 ?_
    refine ev_gc (p' := 221) (v := 143) rfl rfl rfl ly_115 rfl rfl ?_
    refine ev_x (i := .iload 6) (len := 2) (p' := 223) (s' := [.int l_6, .ref 143, .int (gI σ 145 1), .int l_6, .ref 144]) rfl rfl (ld_i g_6) ?_
    obtain ⟨b_20, H⟩ := F_gd H
    refine ev_ga (p' := 224) (v := (gE (σ) 143 (l_6 : Int32).toNatClampNeg)) rfl rfl ly_143 rfl (gd_in b_20) rfl ?_
    refine ev_x (i := .isub) (len := 1) (p' := 225) (s' := [.int ((gI σ 145 1) - (gE (σ) 143 (l_6 : Int32).toNatClampNeg)), .int l_6, .ref 144]) rfl rfl rfl ?_
    obtain ⟨b_21, H⟩ := F_gd H
    refine ev_pa (j := (l_6 : Int32).toNatClampNeg) (p' := 226) rfl rfl ly_144 rfl (gd_in b_21) rfl ?_
    refine ev_x (i := .aload_n 0) (len := 1) (p' := 227) (s' := [.ref 66]) rfl rfl (ld_a g_0) ?_
    refine ev_gr (p' := 230) (v := 115) rfl rfl rfl ly_66 rfl rfl hr_66_10 ?_
    refine ev_gc (p' := 233) (v := 140) rfl rfl rfl ly_115 rfl rfl ?_
    refine ev_x (i := .iload_n 1) (len := 1) (p' := 234) (s' := [.int l_1, .ref 140]) rfl rfl (ld_i g_1) ?_
    refine ev_x (i := .iload 4) (len := 2) (p' := 236) (s' := [.int l_4, .int l_1, .ref 140]) rfl rfl (ld_i g_4) ?_
    refine ev_x (i := .iconst 1) (len := 1) (p' := 237) (s' := [.int 1, .int l_4, .int l_1, .ref 140]) rfl rfl rfl ?_
    refine ev_x (i := .iadd) (len := 1) (p' := 238) (s' := [.int (l_4 + 1), .int l_1, .ref 140]) rfl rfl rfl ?_
    obtain ⟨b_22, H⟩ := F_gd H
    refine ev_pa (j := (l_1 : Int32).toNatClampNeg) (p' := 239) rfl rfl ly_140 rfl (gd_in b_22) rfl ?_
    refine ev_x (i := .iload 7) (len := 2) (p' := 241) (s' := [.int l_7]) rfl rfl (ld_i g_7) ?_
    obtain rfl := Option.some.inj H
    exact ev_iret rfl rfl rfl rfl
/-- GameTextModel.branch(III)I, its loops -/
def L_205 (N : Nat) (g : Nat) (x : Nat) : Nat → Int32 → Int32 → Int32 → Int32 → Int32 → st_S → Option (Int32 × st_S)
  | 0, _, _, _, _, _, _ => none
  | k + 1, l_1, l_4, l_6, l_7, l_8, σ =>
      if l_8 = 0 then
        J_205_195 N g x l_1 l_4 l_6 l_7 (σ)
      else
        if (gI σ 66 16) = 0 then
          if aB l_6 (gN σ (g + 28)) then
          (F_206 N g x l_7 (gE (σ) (g + 28) (l_6 : Int32).toNatClampNeg) (σ)).bind fun p_16 =>
          (F_162 N p_16.1 (p_16.2)).bind fun p_17 =>
          L_205 N g x k l_1 l_4 l_6 (if (if p_17.1 = 29 then 1 else 0 : Int32) = 0 then p_16.1 else (p_16.1 + 1) : Int32) (if p_17.1 = 29 then 1 else 0 : Int32) (p_17.2)
          else none
        else
          J_205_195 N g x l_1 l_4 l_6 l_7 (σ)
set_option maxRecDepth 100000 in
theorem L_205_R {N : Nat} {g : Nat} {x : Nat} : ∀ (k : Nat) (l_1 : Int32) (l_4 : Int32) (l_6 : Int32) (l_7 : Int32) (l_8 : Int32) (σ : st_S) (p : Int32 × st_S), L_205 N g x k l_1 l_4 l_6 l_7 l_8 σ = some p → gR p.2 = gR σ := by
  intro k
  induction k with
  | zero => intro l_1 l_4 l_6 l_7 l_8 σ p H; unfold L_205 at H; cases H
  | succ k ih =>
    intro l_1 l_4 l_6 l_7 l_8 σ p H
    unfold L_205 at H
    refine F_if H (fun _ H => ?_) (fun _ H => ?_)
    · exact (((J_205_195_R H)).trans rfl)
    · refine F_if H (fun _ H => ?_) (fun _ H => ?_)
      · obtain ⟨_, H⟩ := F_gd H
        obtain ⟨p_16, G_16, H⟩ := F_bd H
        obtain ⟨p_17, G_17, H⟩ := F_bd H
        exact (((ih _ _ _ _ _ _ _ H)).trans ((F_162_R G_17).trans ((F_206_R G_16).trans rfl)))
      · exact (((J_205_195_R H)).trans rfl)
set_option maxHeartbeats 4000000 in
set_option maxRecDepth 100000 in
theorem L_205_ok {N d : Nat} {g : Nat} (hg : g = 79 ∨ g = 115) {x : Nat} (hx : x = 67 ∨ x = 69) : ∀ k : Nat, ∀ (l_1 : Int32) (l_4 : Int32) (l_6 : Int32) (l_7 : Int32) (l_8 : Int32) (σ : st_S) (lv : vz_L) (p : Int32 × st_S), vz_g lv 0 = some (.ref 66) → vz_g lv 1 = some (.int l_1) → vz_g lv 4 = some (.int l_4) → vz_g lv 6 = some (.int l_6) → vz_g lv 7 = some (.int l_7) → vz_g lv 8 = some (.int l_8) → vz_nbL (vz_gr P0) lv = true → gR σ 66 2 = x → gR σ 66 10 = g → L_205 N g x k l_1 l_4 l_6 l_7 l_8 σ = some p → vz_ev P0 (d + 10) 205 128 lv [] (hp σ) (.inl (some (.int p.1)), hp p.2) := by
  rcases hg with rfl | rfl
  · intro k
    induction k with
    | zero => intro l_1 l_4 l_6 l_7 l_8 σ lv p g_0 g_1 g_4 g_6 g_7 g_8 hnb hr_66_2 hr_66_10 H; unfold L_205 at H; cases H
    | succ k ih =>
      intro l_1 l_4 l_6 l_7 l_8 σ lv p g_0 g_1 g_4 g_6 g_7 g_8 hnb hr_66_2 hr_66_10 H
      unfold L_205 at H
      refine ev_x (i := .iload 8) (len := 2) (p' := 130) (s' := [.int l_8]) rfl rfl (ld_i g_8) ?_
      refine F_if H (fun c_13 H => ?_) (fun c_13 H => ?_)
      · refine ev_b0 (t := 195) (p' := 195) rfl rfl rfl (if_pos c_13) ?_
        exact J_205_195_ok (d := d) (Or.inl rfl) hx g_0 g_1 g_4 g_6 g_7 hnb hr_66_2 hr_66_10 H
      · refine ev_b0 (t := 195) (p' := 133) rfl rfl rfl (if_neg c_13) ?_
        refine ev_x (i := .aload_n 0) (len := 1) (p' := 134) (s' := [.ref 66]) rfl rfl (ld_a g_0) ?_
        refine ev_gi (p' := 137) (v := (gI σ 66 16)) rfl rfl rfl ly_66 rfl rfl rfl ?_
        refine F_if H (fun c_14 H => ?_) (fun c_14 H => ?_)
        · refine ev_b0 (t := 195) (p' := 140) rfl rfl rfl (if_neg (fun q => q c_14)) ?_
          refine ev_x (i := .aload_n 0) (len := 1) (p' := 141) (s' := [.ref 66]) rfl rfl (ld_a g_0) ?_
          refine ev_x (i := .iload 7) (len := 2) (p' := 143) (s' := [.int l_7, .ref 66]) rfl rfl (ld_i g_7) ?_
          refine ev_x (i := .aload_n 0) (len := 1) (p' := 144) (s' := [.ref 66, .int l_7, .ref 66]) rfl rfl (ld_a g_0) ?_
          refine ev_gr (p' := 147) (v := 79) rfl rfl rfl ly_66 rfl rfl hr_66_10 ?_
          refine ev_gc (p' := 150) (v := 107) rfl rfl rfl ly_79 rfl rfl ?_
          refine ev_x (i := .iload 6) (len := 2) (p' := 152) (s' := [.int l_6, .ref 107, .int l_7, .ref 66]) rfl rfl (ld_i g_6) ?_
          obtain ⟨b_15, H⟩ := F_gd H
          refine ev_ga (p' := 153) (v := (gE (σ) 107 (l_6 : Int32).toNatClampNeg)) rfl rfl ly_107 rfl (gd_in b_15) rfl ?_
          obtain ⟨p_16, G_16, H⟩ := F_bd H
          refine ev_cv (d := d + 9) (As := [.int l_7, .int (gE (σ) 107 (l_6 : Int32).toNatClampNeg)]) (a := 66) (p' := 156) rfl rfl rfl ly_66 rfl rfl rfl rfl rfl hnb rfl (F_206_ok (d := d + 0) (hg := (Or.inl rfl)) (hx := hx) (hr_66_2 := hr_66_2) (hr_66_10 := hr_66_10) G_16) ?_
          refine ev_st (st' := [.int p_16.1]) rfl ?_
          have e_16 := F_206_R G_16
          refine ev_x (i := .istore 7) (len := 2) (p' := 158) (s' := []) (l' := vz_s1 (lv) 7 (.int p_16.1)) rfl rfl rfl ?_
          refine ev_x (i := .aload_n 0) (len := 1) (p' := 159) (s' := [.ref 66]) rfl rfl (ld_a (vg_o (i := 7) (v := .int p_16.1) g_0 (by decide) (Or.inl rfl))) ?_
          refine ev_x (i := .iload 7) (len := 2) (p' := 161) (s' := [.int p_16.1, .ref 66]) rfl rfl (ld_i (vg_s (lv) 7 (.int p_16.1))) ?_
          obtain ⟨p_17, G_17, H⟩ := F_bd H
          refine ev_cv (d := d + 9) (As := [.int p_16.1]) (a := 66) (p' := 164) rfl rfl rfl ly_66 rfl rfl rfl rfl rfl (nb_s1 hnb rfl) rfl (F_162_ok (d := d + 7)   G_17) ?_
          refine ev_st (st' := [.int p_17.1]) rfl ?_
          have e_17 := F_162_R G_17
          refine ev_x (i := .bipush 29) (len := 2) (p' := 166) (s' := [.int 29, .int p_17.1]) rfl rfl rfl ?_
          refine F_jn (A := vz_ev P0 (d + 10) 205 174 (vz_s1 (lv) 7 (.int p_16.1)) [.int (if p_17.1 = 29 then 1 else 0 : Int32)] (hp (p_17.2)) (.inl (some (.int p.1)), hp p.2)) ?_ (fun J => ?_)
          · refine ev_x (i := .istore 8) (len := 2) (p' := 176) (s' := []) (l' := vz_s1 (vz_s1 (lv) 7 (.int p_16.1)) 8 (.int (if p_17.1 = 29 then 1 else 0 : Int32))) rfl rfl rfl ?_
            refine ev_x (i := .iload 8) (len := 2) (p' := 178) (s' := [.int (if p_17.1 = 29 then 1 else 0 : Int32)]) rfl rfl (ld_i (vg_s (vz_s1 (lv) 7 (.int p_16.1)) 8 (.int (if p_17.1 = 29 then 1 else 0 : Int32)))) ?_
            refine F_jn (A := vz_ev P0 (d + 10) 205 190 (vz_s1 (vz_s1 (lv) 7 (.int p_16.1)) 8 (.int (if p_17.1 = 29 then 1 else 0 : Int32))) [.int (if (if p_17.1 = 29 then 1 else 0 : Int32) = 0 then p_16.1 else (p_16.1 + 1) : Int32)] (hp (p_17.2)) (.inl (some (.int p.1)), hp p.2)) ?_ (fun J => ?_)
            · refine ev_x (i := .istore 7) (len := 2) (p' := 192) (s' := []) (l' := vz_s1 (vz_s1 (vz_s1 (lv) 7 (.int p_16.1)) 8 (.int (if p_17.1 = 29 then 1 else 0 : Int32))) 7 (.int (if (if p_17.1 = 29 then 1 else 0 : Int32) = 0 then p_16.1 else (p_16.1 + 1) : Int32))) rfl rfl rfl ?_
              refine ev_x (i := .goto (-64)) (len := 3) (p' := 128) (s' := []) rfl rfl rfl ?_
              exact ih _ _ _ _ _ _ _ _ (vg_o (i := 7) (v := .int (if (if p_17.1 = 29 then 1 else 0 : Int32) = 0 then p_16.1 else (p_16.1 + 1) : Int32)) (vg_o (i := 8) (v := .int (if p_17.1 = 29 then 1 else 0 : Int32)) (vg_o (i := 7) (v := .int p_16.1) g_0 (by decide) (Or.inl rfl)) (by decide) (Or.inl rfl)) (by decide) (Or.inl rfl)) (vg_o (i := 7) (v := .int (if (if p_17.1 = 29 then 1 else 0 : Int32) = 0 then p_16.1 else (p_16.1 + 1) : Int32)) (vg_o (i := 8) (v := .int (if p_17.1 = 29 then 1 else 0 : Int32)) (vg_o (i := 7) (v := .int p_16.1) g_1 (by decide) (Or.inl rfl)) (by decide) (Or.inl rfl)) (by decide) (Or.inl rfl)) (vg_o (i := 7) (v := .int (if (if p_17.1 = 29 then 1 else 0 : Int32) = 0 then p_16.1 else (p_16.1 + 1) : Int32)) (vg_o (i := 8) (v := .int (if p_17.1 = 29 then 1 else 0 : Int32)) (vg_o (i := 7) (v := .int p_16.1) g_4 (by decide) (Or.inl rfl)) (by decide) (Or.inl rfl)) (by decide) (Or.inl rfl)) (vg_o (i := 7) (v := .int (if (if p_17.1 = 29 then 1 else 0 : Int32) = 0 then p_16.1 else (p_16.1 + 1) : Int32)) (vg_o (i := 8) (v := .int (if p_17.1 = 29 then 1 else 0 : Int32)) (vg_o (i := 7) (v := .int p_16.1) g_6 (by decide) (Or.inl rfl)) (by decide) (Or.inl rfl)) (by decide) (Or.inl rfl)) (vg_s (vz_s1 (vz_s1 (lv) 7 (.int p_16.1)) 8 (.int (if p_17.1 = 29 then 1 else 0 : Int32))) 7 (.int (if (if p_17.1 = 29 then 1 else 0 : Int32) = 0 then p_16.1 else (p_16.1 + 1) : Int32))) (vg_o (i := 7) (v := .int (if (if p_17.1 = 29 then 1 else 0 : Int32) = 0 then p_16.1 else (p_16.1 + 1) : Int32)) (vg_s (vz_s1 (lv) 7 (.int p_16.1)) 8 (.int (if p_17.1 = 29 then 1 else 0 : Int32))) (by decide) (Or.inl rfl)) (nb_s1 (nb_s1 (nb_s1 hnb rfl) rfl) rfl) ((congrFun (congrFun e_17 66) 2).trans ((congrFun (congrFun e_16 66) 2).trans hr_66_2)) ((congrFun (congrFun e_17 66) 10).trans ((congrFun (congrFun e_16 66) 10).trans hr_66_10)) H
            · by_cases c_19 : (if p_17.1 = 29 then 1 else 0 : Int32) = 0
              · refine ev_b0 (t := 188) (p' := 188) rfl rfl rfl (if_pos c_19) ?_
                refine ev_x (i := .iload 7) (len := 2) (p' := 190) (s' := [.int p_16.1]) rfl rfl (ld_i (vg_o (i := 8) (v := .int (if p_17.1 = 29 then 1 else 0 : Int32)) (vg_s (lv) 7 (.int p_16.1)) (by decide) (Or.inl rfl))) ?_
                exact ev_st (congrArg (fun z => Value.int z :: []) (by rw [if_pos c_19])) J
              · refine ev_b0 (t := 188) (p' := 181) rfl rfl rfl (if_neg c_19) ?_
                refine ev_x (i := .iload 7) (len := 2) (p' := 183) (s' := [.int p_16.1]) rfl rfl (ld_i (vg_o (i := 8) (v := .int (if p_17.1 = 29 then 1 else 0 : Int32)) (vg_s (lv) 7 (.int p_16.1)) (by decide) (Or.inl rfl))) ?_
                refine ev_x (i := .iconst 1) (len := 1) (p' := 184) (s' := [.int 1, .int p_16.1]) rfl rfl rfl ?_
                refine ev_x (i := .iadd) (len := 1) (p' := 185) (s' := [.int (p_16.1 + 1)]) rfl rfl rfl ?_
                refine ev_x (i := .goto 5) (len := 3) (p' := 190) (s' := [.int (p_16.1 + 1)]) rfl rfl rfl ?_
                exact ev_st (congrArg (fun z => Value.int z :: []) (by rw [if_neg c_19])) J
          · by_cases c_18 : p_17.1 = 29
            · refine ev_b2 (t := 173) (p' := 169) rfl rfl rfl (if_neg (fun q => q c_18)) ?_
              refine ev_x (i := .iconst 1) (len := 1) (p' := 170) (s' := [.int 1]) rfl rfl rfl ?_
              refine ev_x (i := .goto 4) (len := 3) (p' := 174) (s' := [.int 1]) rfl rfl rfl ?_
              exact ev_st (congrArg (fun z => Value.int z :: []) (by rw [if_pos c_18])) J
            · refine ev_b2 (t := 173) (p' := 173) rfl rfl rfl (if_pos c_18) ?_
              refine ev_x (i := .iconst 0) (len := 1) (p' := 174) (s' := [.int 0]) rfl rfl rfl ?_
              exact ev_st (congrArg (fun z => Value.int z :: []) (by rw [if_neg c_18])) J
        · refine ev_b0 (t := 195) (p' := 195) rfl rfl rfl (if_pos c_14) ?_
          exact J_205_195_ok (d := d) (Or.inl rfl) hx g_0 g_1 g_4 g_6 g_7 hnb hr_66_2 hr_66_10 H
  · intro k
    induction k with
    | zero => intro l_1 l_4 l_6 l_7 l_8 σ lv p g_0 g_1 g_4 g_6 g_7 g_8 hnb hr_66_2 hr_66_10 H; unfold L_205 at H; cases H
    | succ k ih =>
      intro l_1 l_4 l_6 l_7 l_8 σ lv p g_0 g_1 g_4 g_6 g_7 g_8 hnb hr_66_2 hr_66_10 H
      unfold L_205 at H
      refine ev_x (i := .iload 8) (len := 2) (p' := 130) (s' := [.int l_8]) rfl rfl (ld_i g_8) ?_
      refine F_if H (fun c_13 H => ?_) (fun c_13 H => ?_)
      · refine ev_b0 (t := 195) (p' := 195) rfl rfl rfl (if_pos c_13) ?_
        exact J_205_195_ok (d := d) (Or.inr rfl) hx g_0 g_1 g_4 g_6 g_7 hnb hr_66_2 hr_66_10 H
      · refine ev_b0 (t := 195) (p' := 133) rfl rfl rfl (if_neg c_13) ?_
        refine ev_x (i := .aload_n 0) (len := 1) (p' := 134) (s' := [.ref 66]) rfl rfl (ld_a g_0) ?_
        refine ev_gi (p' := 137) (v := (gI σ 66 16)) rfl rfl rfl ly_66 rfl rfl rfl ?_
        refine F_if H (fun c_14 H => ?_) (fun c_14 H => ?_)
        · refine ev_b0 (t := 195) (p' := 140) rfl rfl rfl (if_neg (fun q => q c_14)) ?_
          refine ev_x (i := .aload_n 0) (len := 1) (p' := 141) (s' := [.ref 66]) rfl rfl (ld_a g_0) ?_
          refine ev_x (i := .iload 7) (len := 2) (p' := 143) (s' := [.int l_7, .ref 66]) rfl rfl (ld_i g_7) ?_
          refine ev_x (i := .aload_n 0) (len := 1) (p' := 144) (s' := [.ref 66, .int l_7, .ref 66]) rfl rfl (ld_a g_0) ?_
          refine ev_gr (p' := 147) (v := 115) rfl rfl rfl ly_66 rfl rfl hr_66_10 ?_
          refine ev_gc (p' := 150) (v := 143) rfl rfl rfl ly_115 rfl rfl ?_
          refine ev_x (i := .iload 6) (len := 2) (p' := 152) (s' := [.int l_6, .ref 143, .int l_7, .ref 66]) rfl rfl (ld_i g_6) ?_
          obtain ⟨b_15, H⟩ := F_gd H
          refine ev_ga (p' := 153) (v := (gE (σ) 143 (l_6 : Int32).toNatClampNeg)) rfl rfl ly_143 rfl (gd_in b_15) rfl ?_
          obtain ⟨p_16, G_16, H⟩ := F_bd H
          refine ev_cv (d := d + 9) (As := [.int l_7, .int (gE (σ) 143 (l_6 : Int32).toNatClampNeg)]) (a := 66) (p' := 156) rfl rfl rfl ly_66 rfl rfl rfl rfl rfl hnb rfl (F_206_ok (d := d + 0) (hg := (Or.inr rfl)) (hx := hx) (hr_66_2 := hr_66_2) (hr_66_10 := hr_66_10) G_16) ?_
          refine ev_st (st' := [.int p_16.1]) rfl ?_
          have e_16 := F_206_R G_16
          refine ev_x (i := .istore 7) (len := 2) (p' := 158) (s' := []) (l' := vz_s1 (lv) 7 (.int p_16.1)) rfl rfl rfl ?_
          refine ev_x (i := .aload_n 0) (len := 1) (p' := 159) (s' := [.ref 66]) rfl rfl (ld_a (vg_o (i := 7) (v := .int p_16.1) g_0 (by decide) (Or.inl rfl))) ?_
          refine ev_x (i := .iload 7) (len := 2) (p' := 161) (s' := [.int p_16.1, .ref 66]) rfl rfl (ld_i (vg_s (lv) 7 (.int p_16.1))) ?_
          obtain ⟨p_17, G_17, H⟩ := F_bd H
          refine ev_cv (d := d + 9) (As := [.int p_16.1]) (a := 66) (p' := 164) rfl rfl rfl ly_66 rfl rfl rfl rfl rfl (nb_s1 hnb rfl) rfl (F_162_ok (d := d + 7)   G_17) ?_
          refine ev_st (st' := [.int p_17.1]) rfl ?_
          have e_17 := F_162_R G_17
          refine ev_x (i := .bipush 29) (len := 2) (p' := 166) (s' := [.int 29, .int p_17.1]) rfl rfl rfl ?_
          refine F_jn (A := vz_ev P0 (d + 10) 205 174 (vz_s1 (lv) 7 (.int p_16.1)) [.int (if p_17.1 = 29 then 1 else 0 : Int32)] (hp (p_17.2)) (.inl (some (.int p.1)), hp p.2)) ?_ (fun J => ?_)
          · refine ev_x (i := .istore 8) (len := 2) (p' := 176) (s' := []) (l' := vz_s1 (vz_s1 (lv) 7 (.int p_16.1)) 8 (.int (if p_17.1 = 29 then 1 else 0 : Int32))) rfl rfl rfl ?_
            refine ev_x (i := .iload 8) (len := 2) (p' := 178) (s' := [.int (if p_17.1 = 29 then 1 else 0 : Int32)]) rfl rfl (ld_i (vg_s (vz_s1 (lv) 7 (.int p_16.1)) 8 (.int (if p_17.1 = 29 then 1 else 0 : Int32)))) ?_
            refine F_jn (A := vz_ev P0 (d + 10) 205 190 (vz_s1 (vz_s1 (lv) 7 (.int p_16.1)) 8 (.int (if p_17.1 = 29 then 1 else 0 : Int32))) [.int (if (if p_17.1 = 29 then 1 else 0 : Int32) = 0 then p_16.1 else (p_16.1 + 1) : Int32)] (hp (p_17.2)) (.inl (some (.int p.1)), hp p.2)) ?_ (fun J => ?_)
            · refine ev_x (i := .istore 7) (len := 2) (p' := 192) (s' := []) (l' := vz_s1 (vz_s1 (vz_s1 (lv) 7 (.int p_16.1)) 8 (.int (if p_17.1 = 29 then 1 else 0 : Int32))) 7 (.int (if (if p_17.1 = 29 then 1 else 0 : Int32) = 0 then p_16.1 else (p_16.1 + 1) : Int32))) rfl rfl rfl ?_
              refine ev_x (i := .goto (-64)) (len := 3) (p' := 128) (s' := []) rfl rfl rfl ?_
              exact ih _ _ _ _ _ _ _ _ (vg_o (i := 7) (v := .int (if (if p_17.1 = 29 then 1 else 0 : Int32) = 0 then p_16.1 else (p_16.1 + 1) : Int32)) (vg_o (i := 8) (v := .int (if p_17.1 = 29 then 1 else 0 : Int32)) (vg_o (i := 7) (v := .int p_16.1) g_0 (by decide) (Or.inl rfl)) (by decide) (Or.inl rfl)) (by decide) (Or.inl rfl)) (vg_o (i := 7) (v := .int (if (if p_17.1 = 29 then 1 else 0 : Int32) = 0 then p_16.1 else (p_16.1 + 1) : Int32)) (vg_o (i := 8) (v := .int (if p_17.1 = 29 then 1 else 0 : Int32)) (vg_o (i := 7) (v := .int p_16.1) g_1 (by decide) (Or.inl rfl)) (by decide) (Or.inl rfl)) (by decide) (Or.inl rfl)) (vg_o (i := 7) (v := .int (if (if p_17.1 = 29 then 1 else 0 : Int32) = 0 then p_16.1 else (p_16.1 + 1) : Int32)) (vg_o (i := 8) (v := .int (if p_17.1 = 29 then 1 else 0 : Int32)) (vg_o (i := 7) (v := .int p_16.1) g_4 (by decide) (Or.inl rfl)) (by decide) (Or.inl rfl)) (by decide) (Or.inl rfl)) (vg_o (i := 7) (v := .int (if (if p_17.1 = 29 then 1 else 0 : Int32) = 0 then p_16.1 else (p_16.1 + 1) : Int32)) (vg_o (i := 8) (v := .int (if p_17.1 = 29 then 1 else 0 : Int32)) (vg_o (i := 7) (v := .int p_16.1) g_6 (by decide) (Or.inl rfl)) (by decide) (Or.inl rfl)) (by decide) (Or.inl rfl)) (vg_s (vz_s1 (vz_s1 (lv) 7 (.int p_16.1)) 8 (.int (if p_17.1 = 29 then 1 else 0 : Int32))) 7 (.int (if (if p_17.1 = 29 then 1 else 0 : Int32) = 0 then p_16.1 else (p_16.1 + 1) : Int32))) (vg_o (i := 7) (v := .int (if (if p_17.1 = 29 then 1 else 0 : Int32) = 0 then p_16.1 else (p_16.1 + 1) : Int32)) (vg_s (vz_s1 (lv) 7 (.int p_16.1)) 8 (.int (if p_17.1 = 29 then 1 else 0 : Int32))) (by decide) (Or.inl rfl)) (nb_s1 (nb_s1 (nb_s1 hnb rfl) rfl) rfl) ((congrFun (congrFun e_17 66) 2).trans ((congrFun (congrFun e_16 66) 2).trans hr_66_2)) ((congrFun (congrFun e_17 66) 10).trans ((congrFun (congrFun e_16 66) 10).trans hr_66_10)) H
            · by_cases c_19 : (if p_17.1 = 29 then 1 else 0 : Int32) = 0
              · refine ev_b0 (t := 188) (p' := 188) rfl rfl rfl (if_pos c_19) ?_
                refine ev_x (i := .iload 7) (len := 2) (p' := 190) (s' := [.int p_16.1]) rfl rfl (ld_i (vg_o (i := 8) (v := .int (if p_17.1 = 29 then 1 else 0 : Int32)) (vg_s (lv) 7 (.int p_16.1)) (by decide) (Or.inl rfl))) ?_
                exact ev_st (congrArg (fun z => Value.int z :: []) (by rw [if_pos c_19])) J
              · refine ev_b0 (t := 188) (p' := 181) rfl rfl rfl (if_neg c_19) ?_
                refine ev_x (i := .iload 7) (len := 2) (p' := 183) (s' := [.int p_16.1]) rfl rfl (ld_i (vg_o (i := 8) (v := .int (if p_17.1 = 29 then 1 else 0 : Int32)) (vg_s (lv) 7 (.int p_16.1)) (by decide) (Or.inl rfl))) ?_
                refine ev_x (i := .iconst 1) (len := 1) (p' := 184) (s' := [.int 1, .int p_16.1]) rfl rfl rfl ?_
                refine ev_x (i := .iadd) (len := 1) (p' := 185) (s' := [.int (p_16.1 + 1)]) rfl rfl rfl ?_
                refine ev_x (i := .goto 5) (len := 3) (p' := 190) (s' := [.int (p_16.1 + 1)]) rfl rfl rfl ?_
                exact ev_st (congrArg (fun z => Value.int z :: []) (by rw [if_neg c_19])) J
          · by_cases c_18 : p_17.1 = 29
            · refine ev_b2 (t := 173) (p' := 169) rfl rfl rfl (if_neg (fun q => q c_18)) ?_
              refine ev_x (i := .iconst 1) (len := 1) (p' := 170) (s' := [.int 1]) rfl rfl rfl ?_
              refine ev_x (i := .goto 4) (len := 3) (p' := 174) (s' := [.int 1]) rfl rfl rfl ?_
              exact ev_st (congrArg (fun z => Value.int z :: []) (by rw [if_pos c_18])) J
            · refine ev_b2 (t := 173) (p' := 173) rfl rfl rfl (if_pos c_18) ?_
              refine ev_x (i := .iconst 0) (len := 1) (p' := 174) (s' := [.int 0]) rfl rfl rfl ?_
              exact ev_st (congrArg (fun z => Value.int z :: []) (by rw [if_neg c_18])) J
        · refine ev_b0 (t := 195) (p' := 195) rfl rfl rfl (if_pos c_14) ?_
          exact J_205_195_ok (d := d) (Or.inr rfl) hx g_0 g_1 g_4 g_6 g_7 hnb hr_66_2 hr_66_10 H
/-- GameTextModel.branch(III)I -/
def F_205 (N : Nat) (g : Nat) (x : Nat) (x_1 : Int32) (x_2 : Int32) (x_3 : Int32) (σ : st_S) : Option (Int32 × st_S) :=
  if aB x_1 (gN σ (g + 25)) then
  if (gE (σ) (g + 25) (x_1 : Int32).toNatClampNeg) = 8 then
    (F_159 N x_2 (σ)).bind fun p_3 =>
    (F_165 N 5 p_3.1 (p_3.2)).bind fun p_4 =>
    some (x_3, p_4)
  else
    (F_163 N x_2 33 (σ)).bind fun p_5 =>
    (F_201 N g x x_2 p_5.1 0 0 (p_5.2)).bind fun p_6 =>
    if aB ((8 * x_1) + (gE (σ) (g + 25) (x_1 : Int32).toNatClampNeg)) (gN p_6.2 (g + 26)) then
    (F_159 N x_2 (st_e (p_6.2) (g + 26) ((((8 * x_1) + (gE (σ) (g + 25) (x_1 : Int32).toNatClampNeg)) : Int32).toNatClampNeg) p_6.1)).bind fun p_8 =>
    if aB ((8 * x_1) + (gE (σ) (g + 25) (x_1 : Int32).toNatClampNeg)) (gN p_8.2 (g + 27)) then
    if aB ((8 * x_1) + (gE (σ) (g + 25) (x_1 : Int32).toNatClampNeg)) (gN p_8.2 (g + 28)) then
    (F_162 N (p_5.1 + 1) (st_e (st_e (p_8.2) (g + 27) ((((8 * x_1) + (gE (σ) (g + 25) (x_1 : Int32).toNatClampNeg)) : Int32).toNatClampNeg) p_8.1) (g + 28) ((((8 * x_1) + (gE (σ) (g + 25) (x_1 : Int32).toNatClampNeg)) : Int32).toNatClampNeg) (gI p_8.2 (g + 30) 1))).bind fun p_11 =>
    if p_11.1 = 10 then
      J_205_195 N g x x_1 (gE (σ) (g + 25) (x_1 : Int32).toNatClampNeg) ((8 * x_1) + (gE (σ) (g + 25) (x_1 : Int32).toNatClampNeg)) ((p_5.1 + 1) + 1) (p_11.2)
    else
      L_205 N g x N x_1 (gE (σ) (g + 25) (x_1 : Int32).toNatClampNeg) ((8 * x_1) + (gE (σ) (g + 25) (x_1 : Int32).toNatClampNeg)) (p_5.1 + 1) 1 (p_11.2)
    else none
    else none
    else none
  else none
set_option maxRecDepth 100000 in
theorem F_205_R {N : Nat} {g : Nat} {x : Nat} {x_1 : Int32} {x_2 : Int32} {x_3 : Int32} {σ : st_S} {p : Int32 × st_S} (H : F_205 N g x x_1 x_2 x_3 σ = some p) : gR p.2 = gR σ := by
  unfold F_205 at H
  obtain ⟨_, H⟩ := F_gd H
  refine F_if H (fun _ H => ?_) (fun _ H => ?_)
  · obtain ⟨p_3, G_3, H⟩ := F_bd H
    obtain ⟨p_4, G_4, H⟩ := F_bd H
    obtain rfl := Option.some.inj H
    exact ((F_165_R G_4).trans ((F_159_R G_3).trans rfl))
  · obtain ⟨p_5, G_5, H⟩ := F_bd H
    obtain ⟨p_6, G_6, H⟩ := F_bd H
    obtain ⟨_, H⟩ := F_gd H
    obtain ⟨p_8, G_8, H⟩ := F_bd H
    obtain ⟨_, H⟩ := F_gd H
    obtain ⟨_, H⟩ := F_gd H
    obtain ⟨p_11, G_11, H⟩ := F_bd H
    refine F_if H (fun _ H => ?_) (fun _ H => ?_)
    · exact (((J_205_195_R H)).trans ((F_162_R G_11).trans ((F_159_R G_8).trans ((F_201_R G_6).trans ((F_163_R G_5).trans rfl)))))
    · exact (((L_205_R _ _ _ _ _ _ _ _ H)).trans ((F_162_R G_11).trans ((F_159_R G_8).trans ((F_201_R G_6).trans ((F_163_R G_5).trans rfl)))))
set_option maxHeartbeats 4000000 in
set_option maxRecDepth 100000 in
theorem F_205_ok {N d : Nat} {g : Nat} (hg : g = 79 ∨ g = 115) {x : Nat} (hx : x = 67 ∨ x = 69) {x_1 : Int32} {x_2 : Int32} {x_3 : Int32} {σ : st_S} {p : Int32 × st_S} (hr_66_2 : gR σ 66 2 = x) (hr_66_10 : gR σ 66 10 = g) (H : F_205 N g x x_1 x_2 x_3 σ = some p) : vz_ev P0 (d + 10) 205 0 (lv_args 0 [.ref 66, .int x_1, .int x_2, .int x_3]) [] (hp σ) (.inl (some (.int p.1)), hp p.2) := by
  unfold F_205 at H
  rcases hg with rfl | rfl
  · refine ev_x (i := .aload_n 0) (len := 1) (p' := 1) (s' := [.ref 66]) rfl rfl rfl ?_
    refine ev_gr (p' := 4) (v := 79) rfl rfl rfl ly_66 rfl rfl hr_66_10 ?_
    refine ev_gc (p' := 7) (v := 104) rfl rfl rfl ly_79 rfl rfl ?_
    refine ev_x (i := .iload_n 1) (len := 1) (p' := 8) (s' := [.int x_1, .ref 104]) rfl rfl rfl ?_
    obtain ⟨b_1, H⟩ := F_gd H
    refine ev_ga (p' := 9) (v := (gE (σ) 104 (x_1 : Int32).toNatClampNeg)) rfl rfl ly_104 rfl (gd_in b_1) rfl ?_
    refine ev_x (i := .istore 4) (len := 2) (p' := 11) (s' := []) (l' := [(4, .int (gE (σ) 104 (x_1 : Int32).toNatClampNeg)), (0, .ref 66), (1, .int x_1), (2, .int x_2), (3, .int x_3)]) rfl rfl rfl ?_
    refine ev_x (i := .iload 4) (len := 2) (p' := 13) (s' := [.int (gE (σ) 104 (x_1 : Int32).toNatClampNeg)]) rfl rfl rfl ?_
    refine ev_x (i := .bipush 8) (len := 2) (p' := 15) (s' := [.int 8, .int (gE (σ) 104 (x_1 : Int32).toNatClampNeg)]) rfl rfl rfl ?_
    refine F_if H (fun c_2 H => ?_) (fun c_2 H => ?_)
    · refine ev_b2 (t := 30) (p' := 18) rfl rfl rfl (if_neg (fun q => q c_2)) ?_
      refine ev_x (i := .aload_n 0) (len := 1) (p' := 19) (s' := [.ref 66]) rfl rfl rfl ?_
      refine ev_x (i := .iconst 5) (len := 1) (p' := 20) (s' := [.int 5, .ref 66]) rfl rfl rfl ?_
      refine ev_x (i := .aload_n 0) (len := 1) (p' := 21) (s' := [.ref 66, .int 5, .ref 66]) rfl rfl rfl ?_
      refine ev_x (i := .iload_n 2) (len := 1) (p' := 22) (s' := [.int x_2, .ref 66, .int 5, .ref 66]) rfl rfl rfl ?_
      obtain ⟨p_3, G_3, H⟩ := F_bd H
      refine ev_cv (d := d + 9) (As := [.int x_2]) (a := 66) (p' := 25) rfl rfl rfl ly_66 rfl rfl rfl rfl rfl rfl rfl (F_159_ok (d := d + 7)   G_3) ?_
      refine ev_st (st' := [.int p_3.1, .int 5, .ref 66]) rfl ?_
      have e_3 := F_159_R G_3
      obtain ⟨p_4, G_4, H⟩ := F_bd H
      refine ev_cv (d := d + 9) (As := [.int 5, .int p_3.1]) (a := 66) (p' := 28) rfl rfl rfl ly_66 rfl rfl rfl rfl rfl rfl rfl (F_165_ok (d := d + 8)   G_4) ?_
      refine ev_st (st' := []) rfl ?_
      have e_4 := F_165_R G_4
      refine ev_x (i := .iload_n 3) (len := 1) (p' := 29) (s' := [.int x_3]) rfl rfl rfl ?_
      obtain rfl := Option.some.inj H
      exact ev_iret rfl rfl rfl rfl
    · refine ev_b2 (t := 30) (p' := 30) rfl rfl rfl (if_pos c_2) ?_
      refine ev_x (i := .aload_n 0) (len := 1) (p' := 31) (s' := [.ref 66]) rfl rfl rfl ?_
      refine ev_x (i := .iload_n 2) (len := 1) (p' := 32) (s' := [.int x_2, .ref 66]) rfl rfl rfl ?_
      refine ev_x (i := .bipush 33) (len := 2) (p' := 34) (s' := [.int 33, .int x_2, .ref 66]) rfl rfl rfl ?_
      obtain ⟨p_5, G_5, H⟩ := F_bd H
      refine ev_cv (d := d + 9) (As := [.int x_2, .int 33]) (a := 66) (p' := 37) rfl rfl rfl ly_66 rfl rfl rfl rfl rfl rfl rfl (F_163_ok (d := d + 6)   G_5) ?_
      refine ev_st (st' := [.int p_5.1]) rfl ?_
      have e_5 := F_163_R G_5
      refine ev_x (i := .istore 5) (len := 2) (p' := 39) (s' := []) (l' := [(5, .int p_5.1), (4, .int (gE (σ) 104 (x_1 : Int32).toNatClampNeg)), (0, .ref 66), (1, .int x_1), (2, .int x_2), (3, .int x_3)]) rfl rfl rfl ?_
      refine ev_x (i := .bipush 8) (len := 2) (p' := 41) (s' := [.int 8]) rfl rfl rfl ?_
      refine ev_x (i := .iload_n 1) (len := 1) (p' := 42) (s' := [.int x_1, .int 8]) rfl rfl rfl ?_
      refine ev_x (i := .imul) (len := 1) (p' := 43) (s' := [.int (8 * x_1)]) rfl rfl rfl ?_
      refine ev_x (i := .iload 4) (len := 2) (p' := 45) (s' := [.int (gE (σ) 104 (x_1 : Int32).toNatClampNeg), .int (8 * x_1)]) rfl rfl rfl ?_
      refine ev_x (i := .iadd) (len := 1) (p' := 46) (s' := [.int ((8 * x_1) + (gE (σ) 104 (x_1 : Int32).toNatClampNeg))]) rfl rfl rfl ?_
      refine ev_x (i := .istore 6) (len := 2) (p' := 48) (s' := []) (l' := [(6, .int ((8 * x_1) + (gE (σ) 104 (x_1 : Int32).toNatClampNeg))), (5, .int p_5.1), (4, .int (gE (σ) 104 (x_1 : Int32).toNatClampNeg)), (0, .ref 66), (1, .int x_1), (2, .int x_2), (3, .int x_3)]) rfl rfl rfl ?_
      refine ev_x (i := .aload_n 0) (len := 1) (p' := 49) (s' := [.ref 66]) rfl rfl rfl ?_
      refine ev_gr (p' := 52) (v := 79) rfl rfl rfl ly_66 rfl rfl ((congrFun (congrFun e_5 66) 10).trans hr_66_10) ?_
      refine ev_gc (p' := 55) (v := 105) rfl rfl rfl ly_79 rfl rfl ?_
      refine ev_x (i := .iload 6) (len := 2) (p' := 57) (s' := [.int ((8 * x_1) + (gE (σ) 104 (x_1 : Int32).toNatClampNeg)), .ref 105]) rfl rfl rfl ?_
      refine ev_x (i := .aload_n 0) (len := 1) (p' := 58) (s' := [.ref 66, .int ((8 * x_1) + (gE (σ) 104 (x_1 : Int32).toNatClampNeg)), .ref 105]) rfl rfl rfl ?_
      refine ev_x (i := .iload_n 2) (len := 1) (p' := 59) (s' := [.int x_2, .ref 66, .int ((8 * x_1) + (gE (σ) 104 (x_1 : Int32).toNatClampNeg)), .ref 105]) rfl rfl rfl ?_
      refine ev_x (i := .iload 5) (len := 2) (p' := 61) (s' := [.int p_5.1, .int x_2, .ref 66, .int ((8 * x_1) + (gE (σ) 104 (x_1 : Int32).toNatClampNeg)), .ref 105]) rfl rfl rfl ?_
      refine ev_x (i := .iconst 0) (len := 1) (p' := 62) (s' := [.int 0, .int p_5.1, .int x_2, .ref 66, .int ((8 * x_1) + (gE (σ) 104 (x_1 : Int32).toNatClampNeg)), .ref 105]) rfl rfl rfl ?_
      refine ev_x (i := .iconst 0) (len := 1) (p' := 63) (s' := [.int 0, .int 0, .int p_5.1, .int x_2, .ref 66, .int ((8 * x_1) + (gE (σ) 104 (x_1 : Int32).toNatClampNeg)), .ref 105]) rfl rfl rfl ?_
      obtain ⟨p_6, G_6, H⟩ := F_bd H
      refine ev_cv (d := d + 9) (As := [.int x_2, .int p_5.1, .int 0, .int 0]) (a := 66) (p' := 66) rfl rfl rfl ly_66 rfl rfl rfl rfl rfl rfl rfl (F_201_ok (d := d + 1) (hg := (Or.inl rfl)) (hx := hx) (hr_66_2 := ((congrFun (congrFun e_5 66) 2).trans hr_66_2)) (hr_66_10 := ((congrFun (congrFun e_5 66) 10).trans hr_66_10)) G_6) ?_
      refine ev_st (st' := [.int p_6.1, .int ((8 * x_1) + (gE (σ) 104 (x_1 : Int32).toNatClampNeg)), .ref 105]) rfl ?_
      have e_6 := F_201_R G_6
      obtain ⟨b_7, H⟩ := F_gd H
      refine ev_pa (j := (((8 * x_1) + (gE (σ) 104 (x_1 : Int32).toNatClampNeg)) : Int32).toNatClampNeg) (p' := 67) rfl rfl ly_105 rfl (gd_in b_7) rfl ?_
      refine ev_x (i := .aload_n 0) (len := 1) (p' := 68) (s' := [.ref 66]) rfl rfl rfl ?_
      refine ev_gr (p' := 71) (v := 79) rfl rfl rfl ly_66 rfl rfl ((congrFun (congrFun e_6 66) 10).trans ((congrFun (congrFun e_5 66) 10).trans hr_66_10)) ?_
      refine ev_gc (p' := 74) (v := 106) rfl rfl rfl ly_79 rfl rfl ?_
      refine ev_x (i := .iload 6) (len := 2) (p' := 76) (s' := [.int ((8 * x_1) + (gE (σ) 104 (x_1 : Int32).toNatClampNeg)), .ref 106]) rfl rfl rfl ?_
      refine ev_x (i := .aload_n 0) (len := 1) (p' := 77) (s' := [.ref 66, .int ((8 * x_1) + (gE (σ) 104 (x_1 : Int32).toNatClampNeg)), .ref 106]) rfl rfl rfl ?_
      refine ev_x (i := .iload_n 2) (len := 1) (p' := 78) (s' := [.int x_2, .ref 66, .int ((8 * x_1) + (gE (σ) 104 (x_1 : Int32).toNatClampNeg)), .ref 106]) rfl rfl rfl ?_
      obtain ⟨p_8, G_8, H⟩ := F_bd H
      refine ev_cv (d := d + 9) (As := [.int x_2]) (a := 66) (p' := 81) rfl rfl rfl ly_66 rfl rfl rfl rfl rfl rfl rfl (F_159_ok (d := d + 7)   G_8) ?_
      refine ev_st (st' := [.int p_8.1, .int ((8 * x_1) + (gE (σ) 104 (x_1 : Int32).toNatClampNeg)), .ref 106]) rfl ?_
      have e_8 := F_159_R G_8
      obtain ⟨b_9, H⟩ := F_gd H
      refine ev_pa (j := (((8 * x_1) + (gE (σ) 104 (x_1 : Int32).toNatClampNeg)) : Int32).toNatClampNeg) (p' := 82) rfl rfl ly_106 rfl (gd_in b_9) rfl ?_
      refine ev_x (i := .aload_n 0) (len := 1) (p' := 83) (s' := [.ref 66]) rfl rfl rfl ?_
      refine ev_gr (p' := 86) (v := 79) rfl rfl rfl ly_66 rfl rfl ((congrFun (congrFun e_8 66) 10).trans ((congrFun (congrFun e_6 66) 10).trans ((congrFun (congrFun e_5 66) 10).trans hr_66_10))) ?_
      refine ev_gc (p' := 89) (v := 107) rfl rfl rfl ly_79 rfl rfl ?_
      refine ev_x (i := .iload 6) (len := 2) (p' := 91) (s' := [.int ((8 * x_1) + (gE (σ) 104 (x_1 : Int32).toNatClampNeg)), .ref 107]) rfl rfl rfl ?_
      refine ev_x (i := .aload_n 0) (len := 1) (p' := 92) (s' := [.ref 66, .int ((8 * x_1) + (gE (σ) 104 (x_1 : Int32).toNatClampNeg)), .ref 107]) rfl rfl rfl ?_
      refine ev_gr (p' := 95) (v := 79) rfl rfl rfl ly_66 rfl rfl ((congrFun (congrFun e_8 66) 10).trans ((congrFun (congrFun e_6 66) 10).trans ((congrFun (congrFun e_5 66) 10).trans hr_66_10))) ?_
      refine ev_gc (p' := 98) (v := 109) rfl rfl rfl ly_79 rfl rfl ?_
      refine ev_gi (p' := 101) (v := (gI p_8.2 109 1)) rfl rfl rfl ly_109 rfl rfl rfl ?_
      obtain ⟨b_10, H⟩ := F_gd H
      refine ev_pa (j := (((8 * x_1) + (gE (σ) 104 (x_1 : Int32).toNatClampNeg)) : Int32).toNatClampNeg) (p' := 102) rfl rfl ly_107 rfl (gd_in b_10) rfl ?_
      refine ev_x (i := .iload 5) (len := 2) (p' := 104) (s' := [.int p_5.1]) rfl rfl rfl ?_
      refine ev_x (i := .iconst 1) (len := 1) (p' := 105) (s' := [.int 1, .int p_5.1]) rfl rfl rfl ?_
      refine ev_x (i := .iadd) (len := 1) (p' := 106) (s' := [.int (p_5.1 + 1)]) rfl rfl rfl ?_
      refine ev_x (i := .istore 7) (len := 2) (p' := 108) (s' := []) (l' := [(7, .int (p_5.1 + 1)), (6, .int ((8 * x_1) + (gE (σ) 104 (x_1 : Int32).toNatClampNeg))), (5, .int p_5.1), (4, .int (gE (σ) 104 (x_1 : Int32).toNatClampNeg)), (0, .ref 66), (1, .int x_1), (2, .int x_2), (3, .int x_3)]) rfl rfl rfl ?_
      refine ev_x (i := .aload_n 0) (len := 1) (p' := 109) (s' := [.ref 66]) rfl rfl rfl ?_
      refine ev_x (i := .iload 7) (len := 2) (p' := 111) (s' := [.int (p_5.1 + 1), .ref 66]) rfl rfl rfl ?_
      obtain ⟨p_11, G_11, H⟩ := F_bd H
      refine ev_cv (d := d + 9) (As := [.int (p_5.1 + 1)]) (a := 66) (p' := 114) rfl rfl rfl ly_66 rfl rfl rfl rfl rfl rfl rfl (F_162_ok (d := d + 7)   G_11) ?_
      refine ev_st (st' := [.int p_11.1]) rfl ?_
      have e_11 := F_162_R G_11
      refine ev_x (i := .bipush 10) (len := 2) (p' := 116) (s' := [.int 10, .int p_11.1]) rfl rfl rfl ?_
      refine F_if H (fun c_12 H => ?_) (fun c_12 H => ?_)
      · refine ev_b2 (t := 125) (p' := 119) rfl rfl rfl (if_neg (fun q => q c_12)) ?_
        refine ev_x (i := .iinc 7 1) (len := 3) (p' := 122) (s' := []) (l' := [(7, .int ((p_5.1 + 1) + 1)), (6, .int ((8 * x_1) + (gE (σ) 104 (x_1 : Int32).toNatClampNeg))), (5, .int p_5.1), (4, .int (gE (σ) 104 (x_1 : Int32).toNatClampNeg)), (0, .ref 66), (1, .int x_1), (2, .int x_2), (3, .int x_3)]) rfl rfl rfl ?_
        refine ev_x (i := .goto 73) (len := 3) (p' := 195) (s' := []) rfl rfl rfl ?_
        exact J_205_195_ok (d := d) (Or.inl rfl) hx rfl rfl rfl rfl rfl rfl ((congrFun (congrFun e_11 66) 2).trans ((congrFun (congrFun e_8 66) 2).trans ((congrFun (congrFun e_6 66) 2).trans ((congrFun (congrFun e_5 66) 2).trans hr_66_2)))) ((congrFun (congrFun e_11 66) 10).trans ((congrFun (congrFun e_8 66) 10).trans ((congrFun (congrFun e_6 66) 10).trans ((congrFun (congrFun e_5 66) 10).trans hr_66_10)))) H
      · refine ev_b2 (t := 125) (p' := 125) rfl rfl rfl (if_pos c_12) ?_
        refine ev_x (i := .iconst 1) (len := 1) (p' := 126) (s' := [.int 1]) rfl rfl rfl ?_
        refine ev_x (i := .istore 8) (len := 2) (p' := 128) (s' := []) (l' := [(8, .int 1), (7, .int (p_5.1 + 1)), (6, .int ((8 * x_1) + (gE (σ) 104 (x_1 : Int32).toNatClampNeg))), (5, .int p_5.1), (4, .int (gE (σ) 104 (x_1 : Int32).toNatClampNeg)), (0, .ref 66), (1, .int x_1), (2, .int x_2), (3, .int x_3)]) rfl rfl rfl ?_
        exact (L_205_ok (d := d) (Or.inl rfl) hx N) _ _ _ _ _ _ _ _ rfl rfl rfl rfl rfl rfl rfl ((congrFun (congrFun e_11 66) 2).trans ((congrFun (congrFun e_8 66) 2).trans ((congrFun (congrFun e_6 66) 2).trans ((congrFun (congrFun e_5 66) 2).trans hr_66_2)))) ((congrFun (congrFun e_11 66) 10).trans ((congrFun (congrFun e_8 66) 10).trans ((congrFun (congrFun e_6 66) 10).trans ((congrFun (congrFun e_5 66) 10).trans hr_66_10)))) H
  · refine ev_x (i := .aload_n 0) (len := 1) (p' := 1) (s' := [.ref 66]) rfl rfl rfl ?_
    refine ev_gr (p' := 4) (v := 115) rfl rfl rfl ly_66 rfl rfl hr_66_10 ?_
    refine ev_gc (p' := 7) (v := 140) rfl rfl rfl ly_115 rfl rfl ?_
    refine ev_x (i := .iload_n 1) (len := 1) (p' := 8) (s' := [.int x_1, .ref 140]) rfl rfl rfl ?_
    obtain ⟨b_1, H⟩ := F_gd H
    refine ev_ga (p' := 9) (v := (gE (σ) 140 (x_1 : Int32).toNatClampNeg)) rfl rfl ly_140 rfl (gd_in b_1) rfl ?_
    refine ev_x (i := .istore 4) (len := 2) (p' := 11) (s' := []) (l' := [(4, .int (gE (σ) 140 (x_1 : Int32).toNatClampNeg)), (0, .ref 66), (1, .int x_1), (2, .int x_2), (3, .int x_3)]) rfl rfl rfl ?_
    refine ev_x (i := .iload 4) (len := 2) (p' := 13) (s' := [.int (gE (σ) 140 (x_1 : Int32).toNatClampNeg)]) rfl rfl rfl ?_
    refine ev_x (i := .bipush 8) (len := 2) (p' := 15) (s' := [.int 8, .int (gE (σ) 140 (x_1 : Int32).toNatClampNeg)]) rfl rfl rfl ?_
    refine F_if H (fun c_2 H => ?_) (fun c_2 H => ?_)
    · refine ev_b2 (t := 30) (p' := 18) rfl rfl rfl (if_neg (fun q => q c_2)) ?_
      refine ev_x (i := .aload_n 0) (len := 1) (p' := 19) (s' := [.ref 66]) rfl rfl rfl ?_
      refine ev_x (i := .iconst 5) (len := 1) (p' := 20) (s' := [.int 5, .ref 66]) rfl rfl rfl ?_
      refine ev_x (i := .aload_n 0) (len := 1) (p' := 21) (s' := [.ref 66, .int 5, .ref 66]) rfl rfl rfl ?_
      refine ev_x (i := .iload_n 2) (len := 1) (p' := 22) (s' := [.int x_2, .ref 66, .int 5, .ref 66]) rfl rfl rfl ?_
      obtain ⟨p_3, G_3, H⟩ := F_bd H
      refine ev_cv (d := d + 9) (As := [.int x_2]) (a := 66) (p' := 25) rfl rfl rfl ly_66 rfl rfl rfl rfl rfl rfl rfl (F_159_ok (d := d + 7)   G_3) ?_
      refine ev_st (st' := [.int p_3.1, .int 5, .ref 66]) rfl ?_
      have e_3 := F_159_R G_3
      obtain ⟨p_4, G_4, H⟩ := F_bd H
      refine ev_cv (d := d + 9) (As := [.int 5, .int p_3.1]) (a := 66) (p' := 28) rfl rfl rfl ly_66 rfl rfl rfl rfl rfl rfl rfl (F_165_ok (d := d + 8)   G_4) ?_
      refine ev_st (st' := []) rfl ?_
      have e_4 := F_165_R G_4
      refine ev_x (i := .iload_n 3) (len := 1) (p' := 29) (s' := [.int x_3]) rfl rfl rfl ?_
      obtain rfl := Option.some.inj H
      exact ev_iret rfl rfl rfl rfl
    · refine ev_b2 (t := 30) (p' := 30) rfl rfl rfl (if_pos c_2) ?_
      refine ev_x (i := .aload_n 0) (len := 1) (p' := 31) (s' := [.ref 66]) rfl rfl rfl ?_
      refine ev_x (i := .iload_n 2) (len := 1) (p' := 32) (s' := [.int x_2, .ref 66]) rfl rfl rfl ?_
      refine ev_x (i := .bipush 33) (len := 2) (p' := 34) (s' := [.int 33, .int x_2, .ref 66]) rfl rfl rfl ?_
      obtain ⟨p_5, G_5, H⟩ := F_bd H
      refine ev_cv (d := d + 9) (As := [.int x_2, .int 33]) (a := 66) (p' := 37) rfl rfl rfl ly_66 rfl rfl rfl rfl rfl rfl rfl (F_163_ok (d := d + 6)   G_5) ?_
      refine ev_st (st' := [.int p_5.1]) rfl ?_
      have e_5 := F_163_R G_5
      refine ev_x (i := .istore 5) (len := 2) (p' := 39) (s' := []) (l' := [(5, .int p_5.1), (4, .int (gE (σ) 140 (x_1 : Int32).toNatClampNeg)), (0, .ref 66), (1, .int x_1), (2, .int x_2), (3, .int x_3)]) rfl rfl rfl ?_
      refine ev_x (i := .bipush 8) (len := 2) (p' := 41) (s' := [.int 8]) rfl rfl rfl ?_
      refine ev_x (i := .iload_n 1) (len := 1) (p' := 42) (s' := [.int x_1, .int 8]) rfl rfl rfl ?_
      refine ev_x (i := .imul) (len := 1) (p' := 43) (s' := [.int (8 * x_1)]) rfl rfl rfl ?_
      refine ev_x (i := .iload 4) (len := 2) (p' := 45) (s' := [.int (gE (σ) 140 (x_1 : Int32).toNatClampNeg), .int (8 * x_1)]) rfl rfl rfl ?_
      refine ev_x (i := .iadd) (len := 1) (p' := 46) (s' := [.int ((8 * x_1) + (gE (σ) 140 (x_1 : Int32).toNatClampNeg))]) rfl rfl rfl ?_
      refine ev_x (i := .istore 6) (len := 2) (p' := 48) (s' := []) (l' := [(6, .int ((8 * x_1) + (gE (σ) 140 (x_1 : Int32).toNatClampNeg))), (5, .int p_5.1), (4, .int (gE (σ) 140 (x_1 : Int32).toNatClampNeg)), (0, .ref 66), (1, .int x_1), (2, .int x_2), (3, .int x_3)]) rfl rfl rfl ?_
      refine ev_x (i := .aload_n 0) (len := 1) (p' := 49) (s' := [.ref 66]) rfl rfl rfl ?_
      refine ev_gr (p' := 52) (v := 115) rfl rfl rfl ly_66 rfl rfl ((congrFun (congrFun e_5 66) 10).trans hr_66_10) ?_
      refine ev_gc (p' := 55) (v := 141) rfl rfl rfl ly_115 rfl rfl ?_
      refine ev_x (i := .iload 6) (len := 2) (p' := 57) (s' := [.int ((8 * x_1) + (gE (σ) 140 (x_1 : Int32).toNatClampNeg)), .ref 141]) rfl rfl rfl ?_
      refine ev_x (i := .aload_n 0) (len := 1) (p' := 58) (s' := [.ref 66, .int ((8 * x_1) + (gE (σ) 140 (x_1 : Int32).toNatClampNeg)), .ref 141]) rfl rfl rfl ?_
      refine ev_x (i := .iload_n 2) (len := 1) (p' := 59) (s' := [.int x_2, .ref 66, .int ((8 * x_1) + (gE (σ) 140 (x_1 : Int32).toNatClampNeg)), .ref 141]) rfl rfl rfl ?_
      refine ev_x (i := .iload 5) (len := 2) (p' := 61) (s' := [.int p_5.1, .int x_2, .ref 66, .int ((8 * x_1) + (gE (σ) 140 (x_1 : Int32).toNatClampNeg)), .ref 141]) rfl rfl rfl ?_
      refine ev_x (i := .iconst 0) (len := 1) (p' := 62) (s' := [.int 0, .int p_5.1, .int x_2, .ref 66, .int ((8 * x_1) + (gE (σ) 140 (x_1 : Int32).toNatClampNeg)), .ref 141]) rfl rfl rfl ?_
      refine ev_x (i := .iconst 0) (len := 1) (p' := 63) (s' := [.int 0, .int 0, .int p_5.1, .int x_2, .ref 66, .int ((8 * x_1) + (gE (σ) 140 (x_1 : Int32).toNatClampNeg)), .ref 141]) rfl rfl rfl ?_
      obtain ⟨p_6, G_6, H⟩ := F_bd H
      refine ev_cv (d := d + 9) (As := [.int x_2, .int p_5.1, .int 0, .int 0]) (a := 66) (p' := 66) rfl rfl rfl ly_66 rfl rfl rfl rfl rfl rfl rfl (F_201_ok (d := d + 1) (hg := (Or.inr rfl)) (hx := hx) (hr_66_2 := ((congrFun (congrFun e_5 66) 2).trans hr_66_2)) (hr_66_10 := ((congrFun (congrFun e_5 66) 10).trans hr_66_10)) G_6) ?_
      refine ev_st (st' := [.int p_6.1, .int ((8 * x_1) + (gE (σ) 140 (x_1 : Int32).toNatClampNeg)), .ref 141]) rfl ?_
      have e_6 := F_201_R G_6
      obtain ⟨b_7, H⟩ := F_gd H
      refine ev_pa (j := (((8 * x_1) + (gE (σ) 140 (x_1 : Int32).toNatClampNeg)) : Int32).toNatClampNeg) (p' := 67) rfl rfl ly_141 rfl (gd_in b_7) rfl ?_
      refine ev_x (i := .aload_n 0) (len := 1) (p' := 68) (s' := [.ref 66]) rfl rfl rfl ?_
      refine ev_gr (p' := 71) (v := 115) rfl rfl rfl ly_66 rfl rfl ((congrFun (congrFun e_6 66) 10).trans ((congrFun (congrFun e_5 66) 10).trans hr_66_10)) ?_
      refine ev_gc (p' := 74) (v := 142) rfl rfl rfl ly_115 rfl rfl ?_
      refine ev_x (i := .iload 6) (len := 2) (p' := 76) (s' := [.int ((8 * x_1) + (gE (σ) 140 (x_1 : Int32).toNatClampNeg)), .ref 142]) rfl rfl rfl ?_
      refine ev_x (i := .aload_n 0) (len := 1) (p' := 77) (s' := [.ref 66, .int ((8 * x_1) + (gE (σ) 140 (x_1 : Int32).toNatClampNeg)), .ref 142]) rfl rfl rfl ?_
      refine ev_x (i := .iload_n 2) (len := 1) (p' := 78) (s' := [.int x_2, .ref 66, .int ((8 * x_1) + (gE (σ) 140 (x_1 : Int32).toNatClampNeg)), .ref 142]) rfl rfl rfl ?_
      obtain ⟨p_8, G_8, H⟩ := F_bd H
      refine ev_cv (d := d + 9) (As := [.int x_2]) (a := 66) (p' := 81) rfl rfl rfl ly_66 rfl rfl rfl rfl rfl rfl rfl (F_159_ok (d := d + 7)   G_8) ?_
      refine ev_st (st' := [.int p_8.1, .int ((8 * x_1) + (gE (σ) 140 (x_1 : Int32).toNatClampNeg)), .ref 142]) rfl ?_
      have e_8 := F_159_R G_8
      obtain ⟨b_9, H⟩ := F_gd H
      refine ev_pa (j := (((8 * x_1) + (gE (σ) 140 (x_1 : Int32).toNatClampNeg)) : Int32).toNatClampNeg) (p' := 82) rfl rfl ly_142 rfl (gd_in b_9) rfl ?_
      refine ev_x (i := .aload_n 0) (len := 1) (p' := 83) (s' := [.ref 66]) rfl rfl rfl ?_
      refine ev_gr (p' := 86) (v := 115) rfl rfl rfl ly_66 rfl rfl ((congrFun (congrFun e_8 66) 10).trans ((congrFun (congrFun e_6 66) 10).trans ((congrFun (congrFun e_5 66) 10).trans hr_66_10))) ?_
      refine ev_gc (p' := 89) (v := 143) rfl rfl rfl ly_115 rfl rfl ?_
      refine ev_x (i := .iload 6) (len := 2) (p' := 91) (s' := [.int ((8 * x_1) + (gE (σ) 140 (x_1 : Int32).toNatClampNeg)), .ref 143]) rfl rfl rfl ?_
      refine ev_x (i := .aload_n 0) (len := 1) (p' := 92) (s' := [.ref 66, .int ((8 * x_1) + (gE (σ) 140 (x_1 : Int32).toNatClampNeg)), .ref 143]) rfl rfl rfl ?_
      refine ev_gr (p' := 95) (v := 115) rfl rfl rfl ly_66 rfl rfl ((congrFun (congrFun e_8 66) 10).trans ((congrFun (congrFun e_6 66) 10).trans ((congrFun (congrFun e_5 66) 10).trans hr_66_10))) ?_
      refine ev_gc (p' := 98) (v := 145) rfl rfl rfl ly_115 rfl rfl ?_
      refine ev_gi (p' := 101) (v := (gI p_8.2 145 1)) rfl rfl rfl ly_145 rfl rfl rfl ?_
      obtain ⟨b_10, H⟩ := F_gd H
      refine ev_pa (j := (((8 * x_1) + (gE (σ) 140 (x_1 : Int32).toNatClampNeg)) : Int32).toNatClampNeg) (p' := 102) rfl rfl ly_143 rfl (gd_in b_10) rfl ?_
      refine ev_x (i := .iload 5) (len := 2) (p' := 104) (s' := [.int p_5.1]) rfl rfl rfl ?_
      refine ev_x (i := .iconst 1) (len := 1) (p' := 105) (s' := [.int 1, .int p_5.1]) rfl rfl rfl ?_
      refine ev_x (i := .iadd) (len := 1) (p' := 106) (s' := [.int (p_5.1 + 1)]) rfl rfl rfl ?_
      refine ev_x (i := .istore 7) (len := 2) (p' := 108) (s' := []) (l' := [(7, .int (p_5.1 + 1)), (6, .int ((8 * x_1) + (gE (σ) 140 (x_1 : Int32).toNatClampNeg))), (5, .int p_5.1), (4, .int (gE (σ) 140 (x_1 : Int32).toNatClampNeg)), (0, .ref 66), (1, .int x_1), (2, .int x_2), (3, .int x_3)]) rfl rfl rfl ?_
      refine ev_x (i := .aload_n 0) (len := 1) (p' := 109) (s' := [.ref 66]) rfl rfl rfl ?_
      refine ev_x (i := .iload 7) (len := 2) (p' := 111) (s' := [.int (p_5.1 + 1), .ref 66]) rfl rfl rfl ?_
      obtain ⟨p_11, G_11, H⟩ := F_bd H
      refine ev_cv (d := d + 9) (As := [.int (p_5.1 + 1)]) (a := 66) (p' := 114) rfl rfl rfl ly_66 rfl rfl rfl rfl rfl rfl rfl (F_162_ok (d := d + 7)   G_11) ?_
      refine ev_st (st' := [.int p_11.1]) rfl ?_
      have e_11 := F_162_R G_11
      refine ev_x (i := .bipush 10) (len := 2) (p' := 116) (s' := [.int 10, .int p_11.1]) rfl rfl rfl ?_
      refine F_if H (fun c_12 H => ?_) (fun c_12 H => ?_)
      · refine ev_b2 (t := 125) (p' := 119) rfl rfl rfl (if_neg (fun q => q c_12)) ?_
        refine ev_x (i := .iinc 7 1) (len := 3) (p' := 122) (s' := []) (l' := [(7, .int ((p_5.1 + 1) + 1)), (6, .int ((8 * x_1) + (gE (σ) 140 (x_1 : Int32).toNatClampNeg))), (5, .int p_5.1), (4, .int (gE (σ) 140 (x_1 : Int32).toNatClampNeg)), (0, .ref 66), (1, .int x_1), (2, .int x_2), (3, .int x_3)]) rfl rfl rfl ?_
        refine ev_x (i := .goto 73) (len := 3) (p' := 195) (s' := []) rfl rfl rfl ?_
        exact J_205_195_ok (d := d) (Or.inr rfl) hx rfl rfl rfl rfl rfl rfl ((congrFun (congrFun e_11 66) 2).trans ((congrFun (congrFun e_8 66) 2).trans ((congrFun (congrFun e_6 66) 2).trans ((congrFun (congrFun e_5 66) 2).trans hr_66_2)))) ((congrFun (congrFun e_11 66) 10).trans ((congrFun (congrFun e_8 66) 10).trans ((congrFun (congrFun e_6 66) 10).trans ((congrFun (congrFun e_5 66) 10).trans hr_66_10)))) H
      · refine ev_b2 (t := 125) (p' := 125) rfl rfl rfl (if_pos c_12) ?_
        refine ev_x (i := .iconst 1) (len := 1) (p' := 126) (s' := [.int 1]) rfl rfl rfl ?_
        refine ev_x (i := .istore 8) (len := 2) (p' := 128) (s' := []) (l' := [(8, .int 1), (7, .int (p_5.1 + 1)), (6, .int ((8 * x_1) + (gE (σ) 140 (x_1 : Int32).toNatClampNeg))), (5, .int p_5.1), (4, .int (gE (σ) 140 (x_1 : Int32).toNatClampNeg)), (0, .ref 66), (1, .int x_1), (2, .int x_2), (3, .int x_3)]) rfl rfl rfl ?_
        exact (L_205_ok (d := d) (Or.inr rfl) hx N) _ _ _ _ _ _ _ _ rfl rfl rfl rfl rfl rfl rfl ((congrFun (congrFun e_11 66) 2).trans ((congrFun (congrFun e_8 66) 2).trans ((congrFun (congrFun e_6 66) 2).trans ((congrFun (congrFun e_5 66) 2).trans hr_66_2)))) ((congrFun (congrFun e_11 66) 10).trans ((congrFun (congrFun e_8 66) 10).trans ((congrFun (congrFun e_6 66) 10).trans ((congrFun (congrFun e_5 66) 10).trans hr_66_10)))) H
/-- GameTextModel.commandItem(II)V, its loops -/
def L_204 (N : Nat) (g : Nat) (x : Nat) : Nat → Int32 → Int32 → Int32 → st_S → Option (st_S)
  | 0, _, _, _, _ => none
  | k + 1, l_2, l_3, l_5, σ =>
      if (gI σ 66 16) = 0 then
        if l_2 ≤ l_5 then
          some (st_i (σ) g 18 (l_3 + 1))
        else
          (F_205 N g x l_3 l_5 l_2 (σ)).bind fun p_15 =>
          L_204 N g x k l_2 l_3 (p_15.1 + 1) (p_15.2)
      else
        some (st_i (σ) g 18 (l_3 + 1))
set_option maxRecDepth 100000 in
theorem L_204_R {N : Nat} {g : Nat} {x : Nat} : ∀ (k : Nat) (l_2 : Int32) (l_3 : Int32) (l_5 : Int32) (σ : st_S) (p : st_S), L_204 N g x k l_2 l_3 l_5 σ = some p → gR p = gR σ := by
  intro k
  induction k with
  | zero => intro l_2 l_3 l_5 σ p H; unfold L_204 at H; cases H
  | succ k ih =>
    intro l_2 l_3 l_5 σ p H
    unfold L_204 at H
    refine F_if H (fun _ H => ?_) (fun _ H => ?_)
    · refine F_if H (fun _ H => ?_) (fun _ H => ?_)
      · obtain rfl := Option.some.inj H
        exact rfl
      · obtain ⟨p_15, G_15, H⟩ := F_bd H
        exact (((ih _ _ _ _ _ H)).trans ((F_205_R G_15).trans rfl))
    · obtain rfl := Option.some.inj H
      exact rfl
set_option maxHeartbeats 4000000 in
set_option maxRecDepth 100000 in
theorem L_204_ok {N d : Nat} {g : Nat} (hg : g = 79 ∨ g = 115) {x : Nat} (hx : x = 67 ∨ x = 69) : ∀ k : Nat, ∀ (l_2 : Int32) (l_3 : Int32) (l_5 : Int32) (σ : st_S) (lv : vz_L) (p : st_S), vz_g lv 0 = some (.ref 66) → vz_g lv 2 = some (.int l_2) → vz_g lv 3 = some (.int l_3) → vz_g lv 5 = some (.int l_5) → vz_nbL (vz_gr P0) lv = true → gR σ 66 2 = x → gR σ 66 10 = g → L_204 N g x k l_2 l_3 l_5 σ = some p → vz_ev P0 (d + 11) 204 116 lv [] (hp σ) (.inl none, hp p) := by
  rcases hg with rfl | rfl
  · intro k
    induction k with
    | zero => intro l_2 l_3 l_5 σ lv p g_0 g_2 g_3 g_5 hnb hr_66_2 hr_66_10 H; unfold L_204 at H; cases H
    | succ k ih =>
      intro l_2 l_3 l_5 σ lv p g_0 g_2 g_3 g_5 hnb hr_66_2 hr_66_10 H
      unfold L_204 at H
      refine ev_x (i := .aload_n 0) (len := 1) (p' := 117) (s' := [.ref 66]) rfl rfl (ld_a g_0) ?_
      refine ev_gi (p' := 120) (v := (gI σ 66 16)) rfl rfl rfl ly_66 rfl rfl rfl ?_
      refine F_if H (fun c_13 H => ?_) (fun c_13 H => ?_)
      · refine ev_b0 (t := 144) (p' := 123) rfl rfl rfl (if_neg (fun q => q c_13)) ?_
        refine ev_x (i := .iload 5) (len := 2) (p' := 125) (s' := [.int l_5]) rfl rfl (ld_i g_5) ?_
        refine ev_x (i := .iload_n 2) (len := 1) (p' := 126) (s' := [.int l_2, .int l_5]) rfl rfl (ld_i g_2) ?_
        refine F_if H (fun c_14 H => ?_) (fun c_14 H => ?_)
        · refine ev_b2 (t := 144) (p' := 144) rfl rfl rfl (if_pos c_14) ?_
          refine ev_x (i := .aload_n 0) (len := 1) (p' := 145) (s' := [.ref 66]) rfl rfl (ld_a g_0) ?_
          refine ev_gr (p' := 148) (v := 79) rfl rfl rfl ly_66 rfl rfl hr_66_10 ?_
          refine ev_x (i := .iload_n 3) (len := 1) (p' := 149) (s' := [.int l_3, .ref 79]) rfl rfl (ld_i g_3) ?_
          refine ev_x (i := .iconst 1) (len := 1) (p' := 150) (s' := [.int 1, .int l_3, .ref 79]) rfl rfl rfl ?_
          refine ev_x (i := .iadd) (len := 1) (p' := 151) (s' := [.int (l_3 + 1), .ref 79]) rfl rfl rfl ?_
          refine ev_pi (p' := 154) rfl rfl rfl ly_79 rfl rfl rfl rfl ?_
          obtain rfl := Option.some.inj H
          exact ev_vret rfl rfl rfl
        · refine ev_b2 (t := 144) (p' := 129) rfl rfl rfl (if_neg c_14) ?_
          refine ev_x (i := .aload_n 0) (len := 1) (p' := 130) (s' := [.ref 66]) rfl rfl (ld_a g_0) ?_
          refine ev_x (i := .iload_n 3) (len := 1) (p' := 131) (s' := [.int l_3, .ref 66]) rfl rfl (ld_i g_3) ?_
          refine ev_x (i := .iload 5) (len := 2) (p' := 133) (s' := [.int l_5, .int l_3, .ref 66]) rfl rfl (ld_i g_5) ?_
          refine ev_x (i := .iload_n 2) (len := 1) (p' := 134) (s' := [.int l_2, .int l_5, .int l_3, .ref 66]) rfl rfl (ld_i g_2) ?_
          obtain ⟨p_15, G_15, H⟩ := F_bd H
          refine ev_cv (d := d + 10) (As := [.int l_3, .int l_5, .int l_2]) (a := 66) (p' := 137) rfl rfl rfl ly_66 rfl rfl rfl rfl rfl hnb rfl (F_205_ok (d := d + 0) (hg := (Or.inl rfl)) (hx := hx) (hr_66_2 := hr_66_2) (hr_66_10 := hr_66_10) G_15) ?_
          refine ev_st (st' := [.int p_15.1]) rfl ?_
          have e_15 := F_205_R G_15
          refine ev_x (i := .iconst 1) (len := 1) (p' := 138) (s' := [.int 1, .int p_15.1]) rfl rfl rfl ?_
          refine ev_x (i := .iadd) (len := 1) (p' := 139) (s' := [.int (p_15.1 + 1)]) rfl rfl rfl ?_
          refine ev_x (i := .istore 5) (len := 2) (p' := 141) (s' := []) (l' := vz_s1 (lv) 5 (.int (p_15.1 + 1))) rfl rfl rfl ?_
          refine ev_x (i := .goto (-25)) (len := 3) (p' := 116) (s' := []) rfl rfl rfl ?_
          exact ih _ _ _ _ _ _ (vg_o (i := 5) (v := .int (p_15.1 + 1)) g_0 (by decide) (Or.inl rfl)) (vg_o (i := 5) (v := .int (p_15.1 + 1)) g_2 (by decide) (Or.inl rfl)) (vg_o (i := 5) (v := .int (p_15.1 + 1)) g_3 (by decide) (Or.inl rfl)) (vg_s (lv) 5 (.int (p_15.1 + 1))) (nb_s1 hnb rfl) ((congrFun (congrFun e_15 66) 2).trans hr_66_2) ((congrFun (congrFun e_15 66) 10).trans hr_66_10) H
      · refine ev_b0 (t := 144) (p' := 144) rfl rfl rfl (if_pos c_13) ?_
        refine ev_x (i := .aload_n 0) (len := 1) (p' := 145) (s' := [.ref 66]) rfl rfl (ld_a g_0) ?_
        refine ev_gr (p' := 148) (v := 79) rfl rfl rfl ly_66 rfl rfl hr_66_10 ?_
        refine ev_x (i := .iload_n 3) (len := 1) (p' := 149) (s' := [.int l_3, .ref 79]) rfl rfl (ld_i g_3) ?_
        refine ev_x (i := .iconst 1) (len := 1) (p' := 150) (s' := [.int 1, .int l_3, .ref 79]) rfl rfl rfl ?_
        refine ev_x (i := .iadd) (len := 1) (p' := 151) (s' := [.int (l_3 + 1), .ref 79]) rfl rfl rfl ?_
        refine ev_pi (p' := 154) rfl rfl rfl ly_79 rfl rfl rfl rfl ?_
        obtain rfl := Option.some.inj H
        exact ev_vret rfl rfl rfl
  · intro k
    induction k with
    | zero => intro l_2 l_3 l_5 σ lv p g_0 g_2 g_3 g_5 hnb hr_66_2 hr_66_10 H; unfold L_204 at H; cases H
    | succ k ih =>
      intro l_2 l_3 l_5 σ lv p g_0 g_2 g_3 g_5 hnb hr_66_2 hr_66_10 H
      unfold L_204 at H
      refine ev_x (i := .aload_n 0) (len := 1) (p' := 117) (s' := [.ref 66]) rfl rfl (ld_a g_0) ?_
      refine ev_gi (p' := 120) (v := (gI σ 66 16)) rfl rfl rfl ly_66 rfl rfl rfl ?_
      refine F_if H (fun c_13 H => ?_) (fun c_13 H => ?_)
      · refine ev_b0 (t := 144) (p' := 123) rfl rfl rfl (if_neg (fun q => q c_13)) ?_
        refine ev_x (i := .iload 5) (len := 2) (p' := 125) (s' := [.int l_5]) rfl rfl (ld_i g_5) ?_
        refine ev_x (i := .iload_n 2) (len := 1) (p' := 126) (s' := [.int l_2, .int l_5]) rfl rfl (ld_i g_2) ?_
        refine F_if H (fun c_14 H => ?_) (fun c_14 H => ?_)
        · refine ev_b2 (t := 144) (p' := 144) rfl rfl rfl (if_pos c_14) ?_
          refine ev_x (i := .aload_n 0) (len := 1) (p' := 145) (s' := [.ref 66]) rfl rfl (ld_a g_0) ?_
          refine ev_gr (p' := 148) (v := 115) rfl rfl rfl ly_66 rfl rfl hr_66_10 ?_
          refine ev_x (i := .iload_n 3) (len := 1) (p' := 149) (s' := [.int l_3, .ref 115]) rfl rfl (ld_i g_3) ?_
          refine ev_x (i := .iconst 1) (len := 1) (p' := 150) (s' := [.int 1, .int l_3, .ref 115]) rfl rfl rfl ?_
          refine ev_x (i := .iadd) (len := 1) (p' := 151) (s' := [.int (l_3 + 1), .ref 115]) rfl rfl rfl ?_
          refine ev_pi (p' := 154) rfl rfl rfl ly_115 rfl rfl rfl rfl ?_
          obtain rfl := Option.some.inj H
          exact ev_vret rfl rfl rfl
        · refine ev_b2 (t := 144) (p' := 129) rfl rfl rfl (if_neg c_14) ?_
          refine ev_x (i := .aload_n 0) (len := 1) (p' := 130) (s' := [.ref 66]) rfl rfl (ld_a g_0) ?_
          refine ev_x (i := .iload_n 3) (len := 1) (p' := 131) (s' := [.int l_3, .ref 66]) rfl rfl (ld_i g_3) ?_
          refine ev_x (i := .iload 5) (len := 2) (p' := 133) (s' := [.int l_5, .int l_3, .ref 66]) rfl rfl (ld_i g_5) ?_
          refine ev_x (i := .iload_n 2) (len := 1) (p' := 134) (s' := [.int l_2, .int l_5, .int l_3, .ref 66]) rfl rfl (ld_i g_2) ?_
          obtain ⟨p_15, G_15, H⟩ := F_bd H
          refine ev_cv (d := d + 10) (As := [.int l_3, .int l_5, .int l_2]) (a := 66) (p' := 137) rfl rfl rfl ly_66 rfl rfl rfl rfl rfl hnb rfl (F_205_ok (d := d + 0) (hg := (Or.inr rfl)) (hx := hx) (hr_66_2 := hr_66_2) (hr_66_10 := hr_66_10) G_15) ?_
          refine ev_st (st' := [.int p_15.1]) rfl ?_
          have e_15 := F_205_R G_15
          refine ev_x (i := .iconst 1) (len := 1) (p' := 138) (s' := [.int 1, .int p_15.1]) rfl rfl rfl ?_
          refine ev_x (i := .iadd) (len := 1) (p' := 139) (s' := [.int (p_15.1 + 1)]) rfl rfl rfl ?_
          refine ev_x (i := .istore 5) (len := 2) (p' := 141) (s' := []) (l' := vz_s1 (lv) 5 (.int (p_15.1 + 1))) rfl rfl rfl ?_
          refine ev_x (i := .goto (-25)) (len := 3) (p' := 116) (s' := []) rfl rfl rfl ?_
          exact ih _ _ _ _ _ _ (vg_o (i := 5) (v := .int (p_15.1 + 1)) g_0 (by decide) (Or.inl rfl)) (vg_o (i := 5) (v := .int (p_15.1 + 1)) g_2 (by decide) (Or.inl rfl)) (vg_o (i := 5) (v := .int (p_15.1 + 1)) g_3 (by decide) (Or.inl rfl)) (vg_s (lv) 5 (.int (p_15.1 + 1))) (nb_s1 hnb rfl) ((congrFun (congrFun e_15 66) 2).trans hr_66_2) ((congrFun (congrFun e_15 66) 10).trans hr_66_10) H
      · refine ev_b0 (t := 144) (p' := 144) rfl rfl rfl (if_pos c_13) ?_
        refine ev_x (i := .aload_n 0) (len := 1) (p' := 145) (s' := [.ref 66]) rfl rfl (ld_a g_0) ?_
        refine ev_gr (p' := 148) (v := 115) rfl rfl rfl ly_66 rfl rfl hr_66_10 ?_
        refine ev_x (i := .iload_n 3) (len := 1) (p' := 149) (s' := [.int l_3, .ref 115]) rfl rfl (ld_i g_3) ?_
        refine ev_x (i := .iconst 1) (len := 1) (p' := 150) (s' := [.int 1, .int l_3, .ref 115]) rfl rfl rfl ?_
        refine ev_x (i := .iadd) (len := 1) (p' := 151) (s' := [.int (l_3 + 1), .ref 115]) rfl rfl rfl ?_
        refine ev_pi (p' := 154) rfl rfl rfl ly_115 rfl rfl rfl rfl ?_
        obtain rfl := Option.some.inj H
        exact ev_vret rfl rfl rfl
/-- GameTextModel.commandItem(II)V -/
def F_204 (N : Nat) (g : Nat) (x : Nat) (x_1 : Int32) (x_2 : Int32) (σ : st_S) : Option (st_S) :=
  if (gI σ g 18) = 60 then
    (F_159 N x_1 (σ)).bind fun p_2 =>
    (F_165 N 5 p_2.1 (p_2.2)).bind fun p_3 =>
    some (p_3)
  else
    (F_163 N (x_1 + 1) 17 (σ)).bind fun p_4 =>
    (F_162 N x_1 (p_4.2)).bind fun p_5 =>
    if aB (gI σ g 18) (gN p_5.2 (g + 22)) then
    (F_159 N x_1 (st_e (p_5.2) (g + 22) (((gI σ g 18) : Int32).toNatClampNeg) (vp_nar .boolean (if p_5.1 = 8 then 1 else 0 : Int32)))).bind fun p_8 =>
    if aB (gI σ g 18) (gN p_8.2 (g + 23)) then
    (F_201 N g x (x_1 + 1) p_4.1 1 0 (st_e (p_8.2) (g + 23) (((gI σ g 18) : Int32).toNatClampNeg) p_8.1)).bind fun p_10 =>
    if aB (gI σ g 18) (gN p_10.2 (g + 24)) then
    if aB (gI σ g 18) (gN p_10.2 (g + 25)) then
    L_204 N g x N x_2 (gI σ g 18) (p_4.1 + 1) (st_e (st_e (p_10.2) (g + 24) (((gI σ g 18) : Int32).toNatClampNeg) p_10.1) (g + 25) (((gI σ g 18) : Int32).toNatClampNeg) 0)
    else none
    else none
    else none
    else none
set_option maxRecDepth 100000 in
theorem F_204_R {N : Nat} {g : Nat} {x : Nat} {x_1 : Int32} {x_2 : Int32} {σ : st_S} {p : st_S} (H : F_204 N g x x_1 x_2 σ = some p) : gR p = gR σ := by
  unfold F_204 at H
  refine F_if H (fun _ H => ?_) (fun _ H => ?_)
  · obtain ⟨p_2, G_2, H⟩ := F_bd H
    obtain ⟨p_3, G_3, H⟩ := F_bd H
    obtain rfl := Option.some.inj H
    exact ((F_165_R G_3).trans ((F_159_R G_2).trans rfl))
  · obtain ⟨p_4, G_4, H⟩ := F_bd H
    obtain ⟨p_5, G_5, H⟩ := F_bd H
    obtain ⟨_, H⟩ := F_gd H
    obtain ⟨p_8, G_8, H⟩ := F_bd H
    obtain ⟨_, H⟩ := F_gd H
    obtain ⟨p_10, G_10, H⟩ := F_bd H
    obtain ⟨_, H⟩ := F_gd H
    obtain ⟨_, H⟩ := F_gd H
    exact (((L_204_R _ _ _ _ _ _ H)).trans ((F_201_R G_10).trans ((F_159_R G_8).trans ((F_162_R G_5).trans ((F_163_R G_4).trans rfl)))))
set_option maxHeartbeats 4000000 in
set_option maxRecDepth 100000 in
theorem F_204_ok {N d : Nat} {g : Nat} (hg : g = 79 ∨ g = 115) {x : Nat} (hx : x = 67 ∨ x = 69) {x_1 : Int32} {x_2 : Int32} {σ : st_S} {p : st_S} (hr_66_2 : gR σ 66 2 = x) (hr_66_10 : gR σ 66 10 = g) (H : F_204 N g x x_1 x_2 σ = some p) : vz_ev P0 (d + 11) 204 0 (lv_args 0 [.ref 66, .int x_1, .int x_2]) [] (hp σ) (.inl none, hp p) := by
  unfold F_204 at H
  rcases hg with rfl | rfl
  · refine ev_x (i := .aload_n 0) (len := 1) (p' := 1) (s' := [.ref 66]) rfl rfl rfl ?_
    refine ev_gr (p' := 4) (v := 79) rfl rfl rfl ly_66 rfl rfl hr_66_10 ?_
    refine ev_gi (p' := 7) (v := (gI σ 79 18)) rfl rfl rfl ly_79 rfl rfl rfl ?_
    refine ev_x (i := .bipush 60) (len := 2) (p' := 9) (s' := [.int 60, .int (gI σ 79 18)]) rfl rfl rfl ?_
    refine F_if H (fun c_1 H => ?_) (fun c_1 H => ?_)
    · refine ev_b2 (t := 23) (p' := 12) rfl rfl rfl (if_neg (fun q => q c_1)) ?_
      refine ev_x (i := .aload_n 0) (len := 1) (p' := 13) (s' := [.ref 66]) rfl rfl rfl ?_
      refine ev_x (i := .iconst 5) (len := 1) (p' := 14) (s' := [.int 5, .ref 66]) rfl rfl rfl ?_
      refine ev_x (i := .aload_n 0) (len := 1) (p' := 15) (s' := [.ref 66, .int 5, .ref 66]) rfl rfl rfl ?_
      refine ev_x (i := .iload_n 1) (len := 1) (p' := 16) (s' := [.int x_1, .ref 66, .int 5, .ref 66]) rfl rfl rfl ?_
      obtain ⟨p_2, G_2, H⟩ := F_bd H
      refine ev_cv (d := d + 10) (As := [.int x_1]) (a := 66) (p' := 19) rfl rfl rfl ly_66 rfl rfl rfl rfl rfl rfl rfl (F_159_ok (d := d + 8)   G_2) ?_
      refine ev_st (st' := [.int p_2.1, .int 5, .ref 66]) rfl ?_
      have e_2 := F_159_R G_2
      obtain ⟨p_3, G_3, H⟩ := F_bd H
      refine ev_cv (d := d + 10) (As := [.int 5, .int p_2.1]) (a := 66) (p' := 22) rfl rfl rfl ly_66 rfl rfl rfl rfl rfl rfl rfl (F_165_ok (d := d + 9)   G_3) ?_
      refine ev_st (st' := []) rfl ?_
      have e_3 := F_165_R G_3
      obtain rfl := Option.some.inj H
      exact ev_vret rfl rfl rfl
    · refine ev_b2 (t := 23) (p' := 23) rfl rfl rfl (if_pos c_1) ?_
      refine ev_x (i := .aload_n 0) (len := 1) (p' := 24) (s' := [.ref 66]) rfl rfl rfl ?_
      refine ev_gr (p' := 27) (v := 79) rfl rfl rfl ly_66 rfl rfl hr_66_10 ?_
      refine ev_gi (p' := 30) (v := (gI σ 79 18)) rfl rfl rfl ly_79 rfl rfl rfl ?_
      refine ev_x (i := .istore_n 3) (len := 1) (p' := 31) (s' := []) (l' := [(3, .int (gI σ 79 18)), (0, .ref 66), (1, .int x_1), (2, .int x_2)]) rfl rfl rfl ?_
      refine ev_x (i := .aload_n 0) (len := 1) (p' := 32) (s' := [.ref 66]) rfl rfl rfl ?_
      refine ev_x (i := .iload_n 1) (len := 1) (p' := 33) (s' := [.int x_1, .ref 66]) rfl rfl rfl ?_
      refine ev_x (i := .iconst 1) (len := 1) (p' := 34) (s' := [.int 1, .int x_1, .ref 66]) rfl rfl rfl ?_
      refine ev_x (i := .iadd) (len := 1) (p' := 35) (s' := [.int (x_1 + 1), .ref 66]) rfl rfl rfl ?_
      refine ev_x (i := .bipush 17) (len := 2) (p' := 37) (s' := [.int 17, .int (x_1 + 1), .ref 66]) rfl rfl rfl ?_
      obtain ⟨p_4, G_4, H⟩ := F_bd H
      refine ev_cv (d := d + 10) (As := [.int (x_1 + 1), .int 17]) (a := 66) (p' := 40) rfl rfl rfl ly_66 rfl rfl rfl rfl rfl rfl rfl (F_163_ok (d := d + 7)   G_4) ?_
      refine ev_st (st' := [.int p_4.1]) rfl ?_
      have e_4 := F_163_R G_4
      refine ev_x (i := .istore 4) (len := 2) (p' := 42) (s' := []) (l' := [(4, .int p_4.1), (3, .int (gI σ 79 18)), (0, .ref 66), (1, .int x_1), (2, .int x_2)]) rfl rfl rfl ?_
      refine ev_x (i := .aload_n 0) (len := 1) (p' := 43) (s' := [.ref 66]) rfl rfl rfl ?_
      refine ev_gr (p' := 46) (v := 79) rfl rfl rfl ly_66 rfl rfl ((congrFun (congrFun e_4 66) 10).trans hr_66_10) ?_
      refine ev_gc (p' := 49) (v := 101) rfl rfl rfl ly_79 rfl rfl ?_
      refine ev_x (i := .iload_n 3) (len := 1) (p' := 50) (s' := [.int (gI σ 79 18), .ref 101]) rfl rfl rfl ?_
      refine ev_x (i := .aload_n 0) (len := 1) (p' := 51) (s' := [.ref 66, .int (gI σ 79 18), .ref 101]) rfl rfl rfl ?_
      refine ev_x (i := .iload_n 1) (len := 1) (p' := 52) (s' := [.int x_1, .ref 66, .int (gI σ 79 18), .ref 101]) rfl rfl rfl ?_
      obtain ⟨p_5, G_5, H⟩ := F_bd H
      refine ev_cv (d := d + 10) (As := [.int x_1]) (a := 66) (p' := 55) rfl rfl rfl ly_66 rfl rfl rfl rfl rfl rfl rfl (F_162_ok (d := d + 8)   G_5) ?_
      refine ev_st (st' := [.int p_5.1, .int (gI σ 79 18), .ref 101]) rfl ?_
      have e_5 := F_162_R G_5
      refine ev_x (i := .bipush 8) (len := 2) (p' := 57) (s' := [.int 8, .int p_5.1, .int (gI σ 79 18), .ref 101]) rfl rfl rfl ?_
      refine F_jn (A := vz_ev P0 (d + 11) 204 65 [(4, .int p_4.1), (3, .int (gI σ 79 18)), (0, .ref 66), (1, .int x_1), (2, .int x_2)] [.int (if p_5.1 = 8 then 1 else 0 : Int32), .int (gI σ 79 18), .ref 101] (hp (p_5.2)) (.inl none, hp p)) ?_ (fun J => ?_)
      · obtain ⟨b_7, H⟩ := F_gd H
        refine ev_pb (j := ((gI σ 79 18) : Int32).toNatClampNeg) (p' := 66) rfl rfl ly_101 rfl (gd_in b_7) rfl ?_
        refine ev_x (i := .aload_n 0) (len := 1) (p' := 67) (s' := [.ref 66]) rfl rfl rfl ?_
        refine ev_gr (p' := 70) (v := 79) rfl rfl rfl ly_66 rfl rfl ((congrFun (congrFun e_5 66) 10).trans ((congrFun (congrFun e_4 66) 10).trans hr_66_10)) ?_
        refine ev_gc (p' := 73) (v := 102) rfl rfl rfl ly_79 rfl rfl ?_
        refine ev_x (i := .iload_n 3) (len := 1) (p' := 74) (s' := [.int (gI σ 79 18), .ref 102]) rfl rfl rfl ?_
        refine ev_x (i := .aload_n 0) (len := 1) (p' := 75) (s' := [.ref 66, .int (gI σ 79 18), .ref 102]) rfl rfl rfl ?_
        refine ev_x (i := .iload_n 1) (len := 1) (p' := 76) (s' := [.int x_1, .ref 66, .int (gI σ 79 18), .ref 102]) rfl rfl rfl ?_
        obtain ⟨p_8, G_8, H⟩ := F_bd H
        refine ev_cv (d := d + 10) (As := [.int x_1]) (a := 66) (p' := 79) rfl rfl rfl ly_66 rfl rfl rfl rfl rfl rfl rfl (F_159_ok (d := d + 8)   G_8) ?_
        refine ev_st (st' := [.int p_8.1, .int (gI σ 79 18), .ref 102]) rfl ?_
        have e_8 := F_159_R G_8
        obtain ⟨b_9, H⟩ := F_gd H
        refine ev_pa (j := ((gI σ 79 18) : Int32).toNatClampNeg) (p' := 80) rfl rfl ly_102 rfl (gd_in b_9) rfl ?_
        refine ev_x (i := .aload_n 0) (len := 1) (p' := 81) (s' := [.ref 66]) rfl rfl rfl ?_
        refine ev_gr (p' := 84) (v := 79) rfl rfl rfl ly_66 rfl rfl ((congrFun (congrFun e_8 66) 10).trans ((congrFun (congrFun e_5 66) 10).trans ((congrFun (congrFun e_4 66) 10).trans hr_66_10))) ?_
        refine ev_gc (p' := 87) (v := 103) rfl rfl rfl ly_79 rfl rfl ?_
        refine ev_x (i := .iload_n 3) (len := 1) (p' := 88) (s' := [.int (gI σ 79 18), .ref 103]) rfl rfl rfl ?_
        refine ev_x (i := .aload_n 0) (len := 1) (p' := 89) (s' := [.ref 66, .int (gI σ 79 18), .ref 103]) rfl rfl rfl ?_
        refine ev_x (i := .iload_n 1) (len := 1) (p' := 90) (s' := [.int x_1, .ref 66, .int (gI σ 79 18), .ref 103]) rfl rfl rfl ?_
        refine ev_x (i := .iconst 1) (len := 1) (p' := 91) (s' := [.int 1, .int x_1, .ref 66, .int (gI σ 79 18), .ref 103]) rfl rfl rfl ?_
        refine ev_x (i := .iadd) (len := 1) (p' := 92) (s' := [.int (x_1 + 1), .ref 66, .int (gI σ 79 18), .ref 103]) rfl rfl rfl ?_
        refine ev_x (i := .iload 4) (len := 2) (p' := 94) (s' := [.int p_4.1, .int (x_1 + 1), .ref 66, .int (gI σ 79 18), .ref 103]) rfl rfl rfl ?_
        refine ev_x (i := .iconst 1) (len := 1) (p' := 95) (s' := [.int 1, .int p_4.1, .int (x_1 + 1), .ref 66, .int (gI σ 79 18), .ref 103]) rfl rfl rfl ?_
        refine ev_x (i := .iconst 0) (len := 1) (p' := 96) (s' := [.int 0, .int 1, .int p_4.1, .int (x_1 + 1), .ref 66, .int (gI σ 79 18), .ref 103]) rfl rfl rfl ?_
        obtain ⟨p_10, G_10, H⟩ := F_bd H
        refine ev_cv (d := d + 10) (As := [.int (x_1 + 1), .int p_4.1, .int 1, .int 0]) (a := 66) (p' := 99) rfl rfl rfl ly_66 rfl rfl rfl rfl rfl rfl rfl (F_201_ok (d := d + 2) (hg := (Or.inl rfl)) (hx := hx) (hr_66_2 := ((congrFun (congrFun e_8 66) 2).trans ((congrFun (congrFun e_5 66) 2).trans ((congrFun (congrFun e_4 66) 2).trans hr_66_2)))) (hr_66_10 := ((congrFun (congrFun e_8 66) 10).trans ((congrFun (congrFun e_5 66) 10).trans ((congrFun (congrFun e_4 66) 10).trans hr_66_10)))) G_10) ?_
        refine ev_st (st' := [.int p_10.1, .int (gI σ 79 18), .ref 103]) rfl ?_
        have e_10 := F_201_R G_10
        obtain ⟨b_11, H⟩ := F_gd H
        refine ev_pa (j := ((gI σ 79 18) : Int32).toNatClampNeg) (p' := 100) rfl rfl ly_103 rfl (gd_in b_11) rfl ?_
        refine ev_x (i := .aload_n 0) (len := 1) (p' := 101) (s' := [.ref 66]) rfl rfl rfl ?_
        refine ev_gr (p' := 104) (v := 79) rfl rfl rfl ly_66 rfl rfl ((congrFun (congrFun e_10 66) 10).trans ((congrFun (congrFun e_8 66) 10).trans ((congrFun (congrFun e_5 66) 10).trans ((congrFun (congrFun e_4 66) 10).trans hr_66_10)))) ?_
        refine ev_gc (p' := 107) (v := 104) rfl rfl rfl ly_79 rfl rfl ?_
        refine ev_x (i := .iload_n 3) (len := 1) (p' := 108) (s' := [.int (gI σ 79 18), .ref 104]) rfl rfl rfl ?_
        refine ev_x (i := .iconst 0) (len := 1) (p' := 109) (s' := [.int 0, .int (gI σ 79 18), .ref 104]) rfl rfl rfl ?_
        obtain ⟨b_12, H⟩ := F_gd H
        refine ev_pa (j := ((gI σ 79 18) : Int32).toNatClampNeg) (p' := 110) rfl rfl ly_104 rfl (gd_in b_12) rfl ?_
        refine ev_x (i := .iload 4) (len := 2) (p' := 112) (s' := [.int p_4.1]) rfl rfl rfl ?_
        refine ev_x (i := .iconst 1) (len := 1) (p' := 113) (s' := [.int 1, .int p_4.1]) rfl rfl rfl ?_
        refine ev_x (i := .iadd) (len := 1) (p' := 114) (s' := [.int (p_4.1 + 1)]) rfl rfl rfl ?_
        refine ev_x (i := .istore 5) (len := 2) (p' := 116) (s' := []) (l' := [(5, .int (p_4.1 + 1)), (4, .int p_4.1), (3, .int (gI σ 79 18)), (0, .ref 66), (1, .int x_1), (2, .int x_2)]) rfl rfl rfl ?_
        exact (L_204_ok (d := d) (Or.inl rfl) hx N) _ _ _ _ _ _ rfl rfl rfl rfl rfl ((congrFun (congrFun e_10 66) 2).trans ((congrFun (congrFun e_8 66) 2).trans ((congrFun (congrFun e_5 66) 2).trans ((congrFun (congrFun e_4 66) 2).trans hr_66_2)))) ((congrFun (congrFun e_10 66) 10).trans ((congrFun (congrFun e_8 66) 10).trans ((congrFun (congrFun e_5 66) 10).trans ((congrFun (congrFun e_4 66) 10).trans hr_66_10)))) H
      · by_cases c_6 : p_5.1 = 8
        · refine ev_b2 (t := 64) (p' := 60) rfl rfl rfl (if_neg (fun q => q c_6)) ?_
          refine ev_x (i := .iconst 1) (len := 1) (p' := 61) (s' := [.int 1, .int (gI σ 79 18), .ref 101]) rfl rfl rfl ?_
          refine ev_x (i := .goto 4) (len := 3) (p' := 65) (s' := [.int 1, .int (gI σ 79 18), .ref 101]) rfl rfl rfl ?_
          exact ev_st (congrArg (fun z => Value.int z :: [.int (gI σ 79 18), .ref 101]) (by rw [if_pos c_6])) J
        · refine ev_b2 (t := 64) (p' := 64) rfl rfl rfl (if_pos c_6) ?_
          refine ev_x (i := .iconst 0) (len := 1) (p' := 65) (s' := [.int 0, .int (gI σ 79 18), .ref 101]) rfl rfl rfl ?_
          exact ev_st (congrArg (fun z => Value.int z :: [.int (gI σ 79 18), .ref 101]) (by rw [if_neg c_6])) J
  · refine ev_x (i := .aload_n 0) (len := 1) (p' := 1) (s' := [.ref 66]) rfl rfl rfl ?_
    refine ev_gr (p' := 4) (v := 115) rfl rfl rfl ly_66 rfl rfl hr_66_10 ?_
    refine ev_gi (p' := 7) (v := (gI σ 115 18)) rfl rfl rfl ly_115 rfl rfl rfl ?_
    refine ev_x (i := .bipush 60) (len := 2) (p' := 9) (s' := [.int 60, .int (gI σ 115 18)]) rfl rfl rfl ?_
    refine F_if H (fun c_1 H => ?_) (fun c_1 H => ?_)
    · refine ev_b2 (t := 23) (p' := 12) rfl rfl rfl (if_neg (fun q => q c_1)) ?_
      refine ev_x (i := .aload_n 0) (len := 1) (p' := 13) (s' := [.ref 66]) rfl rfl rfl ?_
      refine ev_x (i := .iconst 5) (len := 1) (p' := 14) (s' := [.int 5, .ref 66]) rfl rfl rfl ?_
      refine ev_x (i := .aload_n 0) (len := 1) (p' := 15) (s' := [.ref 66, .int 5, .ref 66]) rfl rfl rfl ?_
      refine ev_x (i := .iload_n 1) (len := 1) (p' := 16) (s' := [.int x_1, .ref 66, .int 5, .ref 66]) rfl rfl rfl ?_
      obtain ⟨p_2, G_2, H⟩ := F_bd H
      refine ev_cv (d := d + 10) (As := [.int x_1]) (a := 66) (p' := 19) rfl rfl rfl ly_66 rfl rfl rfl rfl rfl rfl rfl (F_159_ok (d := d + 8)   G_2) ?_
      refine ev_st (st' := [.int p_2.1, .int 5, .ref 66]) rfl ?_
      have e_2 := F_159_R G_2
      obtain ⟨p_3, G_3, H⟩ := F_bd H
      refine ev_cv (d := d + 10) (As := [.int 5, .int p_2.1]) (a := 66) (p' := 22) rfl rfl rfl ly_66 rfl rfl rfl rfl rfl rfl rfl (F_165_ok (d := d + 9)   G_3) ?_
      refine ev_st (st' := []) rfl ?_
      have e_3 := F_165_R G_3
      obtain rfl := Option.some.inj H
      exact ev_vret rfl rfl rfl
    · refine ev_b2 (t := 23) (p' := 23) rfl rfl rfl (if_pos c_1) ?_
      refine ev_x (i := .aload_n 0) (len := 1) (p' := 24) (s' := [.ref 66]) rfl rfl rfl ?_
      refine ev_gr (p' := 27) (v := 115) rfl rfl rfl ly_66 rfl rfl hr_66_10 ?_
      refine ev_gi (p' := 30) (v := (gI σ 115 18)) rfl rfl rfl ly_115 rfl rfl rfl ?_
      refine ev_x (i := .istore_n 3) (len := 1) (p' := 31) (s' := []) (l' := [(3, .int (gI σ 115 18)), (0, .ref 66), (1, .int x_1), (2, .int x_2)]) rfl rfl rfl ?_
      refine ev_x (i := .aload_n 0) (len := 1) (p' := 32) (s' := [.ref 66]) rfl rfl rfl ?_
      refine ev_x (i := .iload_n 1) (len := 1) (p' := 33) (s' := [.int x_1, .ref 66]) rfl rfl rfl ?_
      refine ev_x (i := .iconst 1) (len := 1) (p' := 34) (s' := [.int 1, .int x_1, .ref 66]) rfl rfl rfl ?_
      refine ev_x (i := .iadd) (len := 1) (p' := 35) (s' := [.int (x_1 + 1), .ref 66]) rfl rfl rfl ?_
      refine ev_x (i := .bipush 17) (len := 2) (p' := 37) (s' := [.int 17, .int (x_1 + 1), .ref 66]) rfl rfl rfl ?_
      obtain ⟨p_4, G_4, H⟩ := F_bd H
      refine ev_cv (d := d + 10) (As := [.int (x_1 + 1), .int 17]) (a := 66) (p' := 40) rfl rfl rfl ly_66 rfl rfl rfl rfl rfl rfl rfl (F_163_ok (d := d + 7)   G_4) ?_
      refine ev_st (st' := [.int p_4.1]) rfl ?_
      have e_4 := F_163_R G_4
      refine ev_x (i := .istore 4) (len := 2) (p' := 42) (s' := []) (l' := [(4, .int p_4.1), (3, .int (gI σ 115 18)), (0, .ref 66), (1, .int x_1), (2, .int x_2)]) rfl rfl rfl ?_
      refine ev_x (i := .aload_n 0) (len := 1) (p' := 43) (s' := [.ref 66]) rfl rfl rfl ?_
      refine ev_gr (p' := 46) (v := 115) rfl rfl rfl ly_66 rfl rfl ((congrFun (congrFun e_4 66) 10).trans hr_66_10) ?_
      refine ev_gc (p' := 49) (v := 137) rfl rfl rfl ly_115 rfl rfl ?_
      refine ev_x (i := .iload_n 3) (len := 1) (p' := 50) (s' := [.int (gI σ 115 18), .ref 137]) rfl rfl rfl ?_
      refine ev_x (i := .aload_n 0) (len := 1) (p' := 51) (s' := [.ref 66, .int (gI σ 115 18), .ref 137]) rfl rfl rfl ?_
      refine ev_x (i := .iload_n 1) (len := 1) (p' := 52) (s' := [.int x_1, .ref 66, .int (gI σ 115 18), .ref 137]) rfl rfl rfl ?_
      obtain ⟨p_5, G_5, H⟩ := F_bd H
      refine ev_cv (d := d + 10) (As := [.int x_1]) (a := 66) (p' := 55) rfl rfl rfl ly_66 rfl rfl rfl rfl rfl rfl rfl (F_162_ok (d := d + 8)   G_5) ?_
      refine ev_st (st' := [.int p_5.1, .int (gI σ 115 18), .ref 137]) rfl ?_
      have e_5 := F_162_R G_5
      refine ev_x (i := .bipush 8) (len := 2) (p' := 57) (s' := [.int 8, .int p_5.1, .int (gI σ 115 18), .ref 137]) rfl rfl rfl ?_
      refine F_jn (A := vz_ev P0 (d + 11) 204 65 [(4, .int p_4.1), (3, .int (gI σ 115 18)), (0, .ref 66), (1, .int x_1), (2, .int x_2)] [.int (if p_5.1 = 8 then 1 else 0 : Int32), .int (gI σ 115 18), .ref 137] (hp (p_5.2)) (.inl none, hp p)) ?_ (fun J => ?_)
      · obtain ⟨b_7, H⟩ := F_gd H
        refine ev_pb (j := ((gI σ 115 18) : Int32).toNatClampNeg) (p' := 66) rfl rfl ly_137 rfl (gd_in b_7) rfl ?_
        refine ev_x (i := .aload_n 0) (len := 1) (p' := 67) (s' := [.ref 66]) rfl rfl rfl ?_
        refine ev_gr (p' := 70) (v := 115) rfl rfl rfl ly_66 rfl rfl ((congrFun (congrFun e_5 66) 10).trans ((congrFun (congrFun e_4 66) 10).trans hr_66_10)) ?_
        refine ev_gc (p' := 73) (v := 138) rfl rfl rfl ly_115 rfl rfl ?_
        refine ev_x (i := .iload_n 3) (len := 1) (p' := 74) (s' := [.int (gI σ 115 18), .ref 138]) rfl rfl rfl ?_
        refine ev_x (i := .aload_n 0) (len := 1) (p' := 75) (s' := [.ref 66, .int (gI σ 115 18), .ref 138]) rfl rfl rfl ?_
        refine ev_x (i := .iload_n 1) (len := 1) (p' := 76) (s' := [.int x_1, .ref 66, .int (gI σ 115 18), .ref 138]) rfl rfl rfl ?_
        obtain ⟨p_8, G_8, H⟩ := F_bd H
        refine ev_cv (d := d + 10) (As := [.int x_1]) (a := 66) (p' := 79) rfl rfl rfl ly_66 rfl rfl rfl rfl rfl rfl rfl (F_159_ok (d := d + 8)   G_8) ?_
        refine ev_st (st' := [.int p_8.1, .int (gI σ 115 18), .ref 138]) rfl ?_
        have e_8 := F_159_R G_8
        obtain ⟨b_9, H⟩ := F_gd H
        refine ev_pa (j := ((gI σ 115 18) : Int32).toNatClampNeg) (p' := 80) rfl rfl ly_138 rfl (gd_in b_9) rfl ?_
        refine ev_x (i := .aload_n 0) (len := 1) (p' := 81) (s' := [.ref 66]) rfl rfl rfl ?_
        refine ev_gr (p' := 84) (v := 115) rfl rfl rfl ly_66 rfl rfl ((congrFun (congrFun e_8 66) 10).trans ((congrFun (congrFun e_5 66) 10).trans ((congrFun (congrFun e_4 66) 10).trans hr_66_10))) ?_
        refine ev_gc (p' := 87) (v := 139) rfl rfl rfl ly_115 rfl rfl ?_
        refine ev_x (i := .iload_n 3) (len := 1) (p' := 88) (s' := [.int (gI σ 115 18), .ref 139]) rfl rfl rfl ?_
        refine ev_x (i := .aload_n 0) (len := 1) (p' := 89) (s' := [.ref 66, .int (gI σ 115 18), .ref 139]) rfl rfl rfl ?_
        refine ev_x (i := .iload_n 1) (len := 1) (p' := 90) (s' := [.int x_1, .ref 66, .int (gI σ 115 18), .ref 139]) rfl rfl rfl ?_
        refine ev_x (i := .iconst 1) (len := 1) (p' := 91) (s' := [.int 1, .int x_1, .ref 66, .int (gI σ 115 18), .ref 139]) rfl rfl rfl ?_
        refine ev_x (i := .iadd) (len := 1) (p' := 92) (s' := [.int (x_1 + 1), .ref 66, .int (gI σ 115 18), .ref 139]) rfl rfl rfl ?_
        refine ev_x (i := .iload 4) (len := 2) (p' := 94) (s' := [.int p_4.1, .int (x_1 + 1), .ref 66, .int (gI σ 115 18), .ref 139]) rfl rfl rfl ?_
        refine ev_x (i := .iconst 1) (len := 1) (p' := 95) (s' := [.int 1, .int p_4.1, .int (x_1 + 1), .ref 66, .int (gI σ 115 18), .ref 139]) rfl rfl rfl ?_
        refine ev_x (i := .iconst 0) (len := 1) (p' := 96) (s' := [.int 0, .int 1, .int p_4.1, .int (x_1 + 1), .ref 66, .int (gI σ 115 18), .ref 139]) rfl rfl rfl ?_
        obtain ⟨p_10, G_10, H⟩ := F_bd H
        refine ev_cv (d := d + 10) (As := [.int (x_1 + 1), .int p_4.1, .int 1, .int 0]) (a := 66) (p' := 99) rfl rfl rfl ly_66 rfl rfl rfl rfl rfl rfl rfl (F_201_ok (d := d + 2) (hg := (Or.inr rfl)) (hx := hx) (hr_66_2 := ((congrFun (congrFun e_8 66) 2).trans ((congrFun (congrFun e_5 66) 2).trans ((congrFun (congrFun e_4 66) 2).trans hr_66_2)))) (hr_66_10 := ((congrFun (congrFun e_8 66) 10).trans ((congrFun (congrFun e_5 66) 10).trans ((congrFun (congrFun e_4 66) 10).trans hr_66_10)))) G_10) ?_
        refine ev_st (st' := [.int p_10.1, .int (gI σ 115 18), .ref 139]) rfl ?_
        have e_10 := F_201_R G_10
        obtain ⟨b_11, H⟩ := F_gd H
        refine ev_pa (j := ((gI σ 115 18) : Int32).toNatClampNeg) (p' := 100) rfl rfl ly_139 rfl (gd_in b_11) rfl ?_
        refine ev_x (i := .aload_n 0) (len := 1) (p' := 101) (s' := [.ref 66]) rfl rfl rfl ?_
        refine ev_gr (p' := 104) (v := 115) rfl rfl rfl ly_66 rfl rfl ((congrFun (congrFun e_10 66) 10).trans ((congrFun (congrFun e_8 66) 10).trans ((congrFun (congrFun e_5 66) 10).trans ((congrFun (congrFun e_4 66) 10).trans hr_66_10)))) ?_
        refine ev_gc (p' := 107) (v := 140) rfl rfl rfl ly_115 rfl rfl ?_
        refine ev_x (i := .iload_n 3) (len := 1) (p' := 108) (s' := [.int (gI σ 115 18), .ref 140]) rfl rfl rfl ?_
        refine ev_x (i := .iconst 0) (len := 1) (p' := 109) (s' := [.int 0, .int (gI σ 115 18), .ref 140]) rfl rfl rfl ?_
        obtain ⟨b_12, H⟩ := F_gd H
        refine ev_pa (j := ((gI σ 115 18) : Int32).toNatClampNeg) (p' := 110) rfl rfl ly_140 rfl (gd_in b_12) rfl ?_
        refine ev_x (i := .iload 4) (len := 2) (p' := 112) (s' := [.int p_4.1]) rfl rfl rfl ?_
        refine ev_x (i := .iconst 1) (len := 1) (p' := 113) (s' := [.int 1, .int p_4.1]) rfl rfl rfl ?_
        refine ev_x (i := .iadd) (len := 1) (p' := 114) (s' := [.int (p_4.1 + 1)]) rfl rfl rfl ?_
        refine ev_x (i := .istore 5) (len := 2) (p' := 116) (s' := []) (l' := [(5, .int (p_4.1 + 1)), (4, .int p_4.1), (3, .int (gI σ 115 18)), (0, .ref 66), (1, .int x_1), (2, .int x_2)]) rfl rfl rfl ?_
        exact (L_204_ok (d := d) (Or.inr rfl) hx N) _ _ _ _ _ _ rfl rfl rfl rfl rfl ((congrFun (congrFun e_10 66) 2).trans ((congrFun (congrFun e_8 66) 2).trans ((congrFun (congrFun e_5 66) 2).trans ((congrFun (congrFun e_4 66) 2).trans hr_66_2)))) ((congrFun (congrFun e_10 66) 10).trans ((congrFun (congrFun e_8 66) 10).trans ((congrFun (congrFun e_5 66) 10).trans ((congrFun (congrFun e_4 66) 10).trans hr_66_10)))) H
      · by_cases c_6 : p_5.1 = 8
        · refine ev_b2 (t := 64) (p' := 60) rfl rfl rfl (if_neg (fun q => q c_6)) ?_
          refine ev_x (i := .iconst 1) (len := 1) (p' := 61) (s' := [.int 1, .int (gI σ 115 18), .ref 137]) rfl rfl rfl ?_
          refine ev_x (i := .goto 4) (len := 3) (p' := 65) (s' := [.int 1, .int (gI σ 115 18), .ref 137]) rfl rfl rfl ?_
          exact ev_st (congrArg (fun z => Value.int z :: [.int (gI σ 115 18), .ref 137]) (by rw [if_pos c_6])) J
        · refine ev_b2 (t := 64) (p' := 64) rfl rfl rfl (if_pos c_6) ?_
          refine ev_x (i := .iconst 0) (len := 1) (p' := 65) (s' := [.int 0, .int (gI σ 115 18), .ref 137]) rfl rfl rfl ?_
          exact ev_st (congrArg (fun z => Value.int z :: [.int (gI σ 115 18), .ref 137]) (by rw [if_neg c_6])) J
/-- GameTextModel.items()V, from 190 -/
def J_160_190 (N : Nat) (g : Nat) (x : Nat) (l_1 : Int32) (σ : st_S) : Option (st_S) :=
  if (gI σ 66 16) = 0 then
    if 0 ≤ (gI σ g 17) then
      some (σ)
    else
      (F_159 N l_1 (σ)).bind fun p_21 =>
      (F_165 N 10 p_21.1 (p_21.2)).bind fun p_22 =>
      some (p_22)
  else
    some (σ)
set_option maxRecDepth 100000 in
theorem J_160_190_R {N : Nat} {g : Nat} {x : Nat} {l_1 : Int32} {σ : st_S} {p : st_S} (H : J_160_190 N g x l_1 σ = some p) : gR p = gR σ := by
  unfold J_160_190 at H
  refine F_if H (fun _ H => ?_) (fun _ H => ?_)
  · refine F_if H (fun _ H => ?_) (fun _ H => ?_)
    · obtain rfl := Option.some.inj H
      exact rfl
    · obtain ⟨p_21, G_21, H⟩ := F_bd H
      obtain ⟨p_22, G_22, H⟩ := F_bd H
      obtain rfl := Option.some.inj H
      exact ((F_165_R G_22).trans ((F_159_R G_21).trans rfl))
  · obtain rfl := Option.some.inj H
    exact rfl
set_option maxHeartbeats 4000000 in
set_option maxRecDepth 100000 in
theorem J_160_190_ok {N d : Nat} {g : Nat} (hg : g = 79 ∨ g = 115) {x : Nat} (hx : x = 67 ∨ x = 69) {l_1 : Int32} {σ : st_S} {lv : vz_L} {p : st_S} (g_0 : vz_g lv 0 = some (.ref 66)) (g_1 : vz_g lv 1 = some (.int l_1)) (hnb : vz_nbL (vz_gr P0) lv = true) (hr_66_2 : gR σ 66 2 = x) (hr_66_10 : gR σ 66 10 = g) (H : J_160_190 N g x l_1 σ = some p) : vz_ev P0 (d + 12) 160 190 lv [] (hp σ) (.inl none, hp p) := by
  unfold J_160_190 at H
  rcases hg with rfl | rfl
  · refine ev_x (i := .aload_n 0) (len := 1) (p' := 191) (s' := [.ref 66]) rfl rfl (ld_a g_0) ?_
    refine ev_gi (p' := 194) (v := (gI σ 66 16)) rfl rfl rfl ly_66 rfl rfl rfl ?_
    refine F_if H (fun c_19 H => ?_) (fun c_19 H => ?_)
    · refine ev_b0 (t := 218) (p' := 197) rfl rfl rfl (if_neg (fun q => q c_19)) ?_
      refine ev_x (i := .aload_n 0) (len := 1) (p' := 198) (s' := [.ref 66]) rfl rfl (ld_a g_0) ?_
      refine ev_gr (p' := 201) (v := 79) rfl rfl rfl ly_66 rfl rfl hr_66_10 ?_
      refine ev_gi (p' := 204) (v := (gI σ 79 17)) rfl rfl rfl ly_79 rfl rfl rfl ?_
      refine F_if H (fun c_20 H => ?_) (fun c_20 H => ?_)
      · refine ev_b0 (t := 218) (p' := 218) rfl rfl rfl (if_pos c_20) ?_
        obtain rfl := Option.some.inj H
        exact ev_vret rfl rfl rfl
      · refine ev_b0 (t := 218) (p' := 207) rfl rfl rfl (if_neg c_20) ?_
        refine ev_x (i := .aload_n 0) (len := 1) (p' := 208) (s' := [.ref 66]) rfl rfl (ld_a g_0) ?_
        refine ev_x (i := .bipush 10) (len := 2) (p' := 210) (s' := [.int 10, .ref 66]) rfl rfl rfl ?_
        refine ev_x (i := .aload_n 0) (len := 1) (p' := 211) (s' := [.ref 66, .int 10, .ref 66]) rfl rfl (ld_a g_0) ?_
        refine ev_x (i := .iload_n 1) (len := 1) (p' := 212) (s' := [.int l_1, .ref 66, .int 10, .ref 66]) rfl rfl (ld_i g_1) ?_
        obtain ⟨p_21, G_21, H⟩ := F_bd H
        refine ev_cv (d := d + 11) (As := [.int l_1]) (a := 66) (p' := 215) rfl rfl rfl ly_66 rfl rfl rfl rfl rfl hnb rfl (F_159_ok (d := d + 9)   G_21) ?_
        refine ev_st (st' := [.int p_21.1, .int 10, .ref 66]) rfl ?_
        have e_21 := F_159_R G_21
        obtain ⟨p_22, G_22, H⟩ := F_bd H
        refine ev_cv (d := d + 11) (As := [.int 10, .int p_21.1]) (a := 66) (p' := 218) rfl rfl rfl ly_66 rfl rfl rfl rfl rfl hnb rfl (F_165_ok (d := d + 10)   G_22) ?_
        refine ev_st (st' := []) rfl ?_
        have e_22 := F_165_R G_22
        obtain rfl := Option.some.inj H
        exact ev_vret rfl rfl rfl
    · refine ev_b0 (t := 218) (p' := 218) rfl rfl rfl (if_pos c_19) ?_
      obtain rfl := Option.some.inj H
      exact ev_vret rfl rfl rfl
  · refine ev_x (i := .aload_n 0) (len := 1) (p' := 191) (s' := [.ref 66]) rfl rfl (ld_a g_0) ?_
    refine ev_gi (p' := 194) (v := (gI σ 66 16)) rfl rfl rfl ly_66 rfl rfl rfl ?_
    refine F_if H (fun c_19 H => ?_) (fun c_19 H => ?_)
    · refine ev_b0 (t := 218) (p' := 197) rfl rfl rfl (if_neg (fun q => q c_19)) ?_
      refine ev_x (i := .aload_n 0) (len := 1) (p' := 198) (s' := [.ref 66]) rfl rfl (ld_a g_0) ?_
      refine ev_gr (p' := 201) (v := 115) rfl rfl rfl ly_66 rfl rfl hr_66_10 ?_
      refine ev_gi (p' := 204) (v := (gI σ 115 17)) rfl rfl rfl ly_115 rfl rfl rfl ?_
      refine F_if H (fun c_20 H => ?_) (fun c_20 H => ?_)
      · refine ev_b0 (t := 218) (p' := 218) rfl rfl rfl (if_pos c_20) ?_
        obtain rfl := Option.some.inj H
        exact ev_vret rfl rfl rfl
      · refine ev_b0 (t := 218) (p' := 207) rfl rfl rfl (if_neg c_20) ?_
        refine ev_x (i := .aload_n 0) (len := 1) (p' := 208) (s' := [.ref 66]) rfl rfl (ld_a g_0) ?_
        refine ev_x (i := .bipush 10) (len := 2) (p' := 210) (s' := [.int 10, .ref 66]) rfl rfl rfl ?_
        refine ev_x (i := .aload_n 0) (len := 1) (p' := 211) (s' := [.ref 66, .int 10, .ref 66]) rfl rfl (ld_a g_0) ?_
        refine ev_x (i := .iload_n 1) (len := 1) (p' := 212) (s' := [.int l_1, .ref 66, .int 10, .ref 66]) rfl rfl (ld_i g_1) ?_
        obtain ⟨p_21, G_21, H⟩ := F_bd H
        refine ev_cv (d := d + 11) (As := [.int l_1]) (a := 66) (p' := 215) rfl rfl rfl ly_66 rfl rfl rfl rfl rfl hnb rfl (F_159_ok (d := d + 9)   G_21) ?_
        refine ev_st (st' := [.int p_21.1, .int 10, .ref 66]) rfl ?_
        have e_21 := F_159_R G_21
        obtain ⟨p_22, G_22, H⟩ := F_bd H
        refine ev_cv (d := d + 11) (As := [.int 10, .int p_21.1]) (a := 66) (p' := 218) rfl rfl rfl ly_66 rfl rfl rfl rfl rfl hnb rfl (F_165_ok (d := d + 10)   G_22) ?_
        refine ev_st (st' := []) rfl ?_
        have e_22 := F_165_R G_22
        obtain rfl := Option.some.inj H
        exact ev_vret rfl rfl rfl
    · refine ev_b0 (t := 218) (p' := 218) rfl rfl rfl (if_pos c_19) ?_
      obtain rfl := Option.some.inj H
      exact ev_vret rfl rfl rfl
/-- GameTextModel.items()V, its loops -/
def L_160 (N : Nat) (g : Nat) (x : Nat) : Nat → Int32 → st_S → Option (st_S)
  | 0, _, _ => none
  | k + 1, l_1, σ =>
      if (gI σ 66 16) = 0 then
        (F_162 N l_1 (σ)).bind fun p_3 =>
        if p_3.1 = 0 then
          J_160_190 N g x l_1 (p_3.2)
        else
          (F_163 N l_1 34 (p_3.2)).bind fun p_5 =>
          (F_162 N l_1 (p_5.2)).bind fun p_6 =>
          if p_6.1 = 3 then
            (F_164 N g x l_1 p_5.1 (p_6.2)).bind fun p_8 =>
            L_160 N g x k (p_5.1 + 1) (p_8)
          else
          if p_6.1 = 4 then
            (F_199 N g x l_1 p_5.1 (p_6.2)).bind fun p_10 =>
            L_160 N g x k (p_5.1 + 1) (p_10)
          else
          if p_6.1 = 6 then
            (F_164 N g x l_1 p_5.1 (p_6.2)).bind fun p_12 =>
            L_160 N g x k (p_5.1 + 1) (p_12)
          else
          if p_6.1 = 11 then
            if (gI p_6.2 g 17) < 0 then
              (F_201 N g x (l_1 + 1) p_5.1 1 0 (p_6.2)).bind fun p_15 =>
              L_160 N g x k (p_5.1 + 1) (st_i (p_15.2) g 17 p_15.1)
            else
              (F_159 N l_1 (p_6.2)).bind fun p_16 =>
              (F_165 N 4 p_16.1 (p_16.2)).bind fun p_17 =>
              L_160 N g x k (p_5.1 + 1) (p_17)
          else
            (F_204 N g x l_1 p_5.1 (p_6.2)).bind fun p_18 =>
            L_160 N g x k (p_5.1 + 1) (p_18)
      else
        J_160_190 N g x l_1 (σ)
set_option maxRecDepth 100000 in
theorem L_160_R {N : Nat} {g : Nat} {x : Nat} : ∀ (k : Nat) (l_1 : Int32) (σ : st_S) (p : st_S), L_160 N g x k l_1 σ = some p → gR p = gR σ := by
  intro k
  induction k with
  | zero => intro l_1 σ p H; unfold L_160 at H; cases H
  | succ k ih =>
    intro l_1 σ p H
    unfold L_160 at H
    refine F_if H (fun _ H => ?_) (fun _ H => ?_)
    · obtain ⟨p_3, G_3, H⟩ := F_bd H
      refine F_if H (fun _ H => ?_) (fun _ H => ?_)
      · exact (((J_160_190_R H)).trans ((F_162_R G_3).trans rfl))
      · obtain ⟨p_5, G_5, H⟩ := F_bd H
        obtain ⟨p_6, G_6, H⟩ := F_bd H
        refine F_if H (fun _ H => ?_) (fun _ H => ?_)
        · obtain ⟨p_8, G_8, H⟩ := F_bd H
          exact (((ih _ _ _ H)).trans ((F_164_R G_8).trans ((F_162_R G_6).trans ((F_163_R G_5).trans ((F_162_R G_3).trans rfl)))))
        · refine F_if H (fun _ H => ?_) (fun _ H => ?_)
          · obtain ⟨p_10, G_10, H⟩ := F_bd H
            exact (((ih _ _ _ H)).trans ((F_199_R G_10).trans ((F_162_R G_6).trans ((F_163_R G_5).trans ((F_162_R G_3).trans rfl)))))
          · refine F_if H (fun _ H => ?_) (fun _ H => ?_)
            · obtain ⟨p_12, G_12, H⟩ := F_bd H
              exact (((ih _ _ _ H)).trans ((F_164_R G_12).trans ((F_162_R G_6).trans ((F_163_R G_5).trans ((F_162_R G_3).trans rfl)))))
            · refine F_if H (fun _ H => ?_) (fun _ H => ?_)
              · refine F_if H (fun _ H => ?_) (fun _ H => ?_)
                · obtain ⟨p_15, G_15, H⟩ := F_bd H
                  exact (((ih _ _ _ H)).trans ((F_201_R G_15).trans ((F_162_R G_6).trans ((F_163_R G_5).trans ((F_162_R G_3).trans rfl)))))
                · obtain ⟨p_16, G_16, H⟩ := F_bd H
                  obtain ⟨p_17, G_17, H⟩ := F_bd H
                  exact (((ih _ _ _ H)).trans ((F_165_R G_17).trans ((F_159_R G_16).trans ((F_162_R G_6).trans ((F_163_R G_5).trans ((F_162_R G_3).trans rfl))))))
              · obtain ⟨p_18, G_18, H⟩ := F_bd H
                exact (((ih _ _ _ H)).trans ((F_204_R G_18).trans ((F_162_R G_6).trans ((F_163_R G_5).trans ((F_162_R G_3).trans rfl)))))
    · exact (((J_160_190_R H)).trans rfl)
set_option maxHeartbeats 4000000 in
set_option maxRecDepth 100000 in
theorem L_160_ok {N d : Nat} {g : Nat} (hg : g = 79 ∨ g = 115) {x : Nat} (hx : x = 67 ∨ x = 69) : ∀ k : Nat, ∀ (l_1 : Int32) (σ : st_S) (lv : vz_L) (p : st_S), vz_g lv 0 = some (.ref 66) → vz_g lv 1 = some (.int l_1) → vz_nbL (vz_gr P0) lv = true → gR σ 66 2 = x → gR σ 66 10 = g → L_160 N g x k l_1 σ = some p → vz_ev P0 (d + 12) 160 38 lv [] (hp σ) (.inl none, hp p) := by
  rcases hg with rfl | rfl
  · intro k
    induction k with
    | zero => intro l_1 σ lv p g_0 g_1 hnb hr_66_2 hr_66_10 H; unfold L_160 at H; cases H
    | succ k ih =>
      intro l_1 σ lv p g_0 g_1 hnb hr_66_2 hr_66_10 H
      unfold L_160 at H
      refine ev_x (i := .aload_n 0) (len := 1) (p' := 39) (s' := [.ref 66]) rfl rfl (ld_a g_0) ?_
      refine ev_gi (p' := 42) (v := (gI σ 66 16)) rfl rfl rfl ly_66 rfl rfl rfl ?_
      refine F_if H (fun c_2 H => ?_) (fun c_2 H => ?_)
      · refine ev_b0 (t := 190) (p' := 45) rfl rfl rfl (if_neg (fun q => q c_2)) ?_
        refine ev_x (i := .aload_n 0) (len := 1) (p' := 46) (s' := [.ref 66]) rfl rfl (ld_a g_0) ?_
        refine ev_x (i := .iload_n 1) (len := 1) (p' := 47) (s' := [.int l_1, .ref 66]) rfl rfl (ld_i g_1) ?_
        obtain ⟨p_3, G_3, H⟩ := F_bd H
        refine ev_cv (d := d + 11) (As := [.int l_1]) (a := 66) (p' := 50) rfl rfl rfl ly_66 rfl rfl rfl rfl rfl hnb rfl (F_162_ok (d := d + 9)   G_3) ?_
        refine ev_st (st' := [.int p_3.1]) rfl ?_
        have e_3 := F_162_R G_3
        refine F_if H (fun c_4 H => ?_) (fun c_4 H => ?_)
        · refine ev_b0 (t := 190) (p' := 190) rfl rfl rfl (if_pos c_4) ?_
          exact J_160_190_ok (d := d) (Or.inl rfl) hx g_0 g_1 hnb ((congrFun (congrFun e_3 66) 2).trans hr_66_2) ((congrFun (congrFun e_3 66) 10).trans hr_66_10) H
        · refine ev_b0 (t := 190) (p' := 53) rfl rfl rfl (if_neg c_4) ?_
          refine ev_x (i := .aload_n 0) (len := 1) (p' := 54) (s' := [.ref 66]) rfl rfl (ld_a g_0) ?_
          refine ev_x (i := .iload_n 1) (len := 1) (p' := 55) (s' := [.int l_1, .ref 66]) rfl rfl (ld_i g_1) ?_
          refine ev_x (i := .bipush 34) (len := 2) (p' := 57) (s' := [.int 34, .int l_1, .ref 66]) rfl rfl rfl ?_
          obtain ⟨p_5, G_5, H⟩ := F_bd H
          refine ev_cv (d := d + 11) (As := [.int l_1, .int 34]) (a := 66) (p' := 60) rfl rfl rfl ly_66 rfl rfl rfl rfl rfl hnb rfl (F_163_ok (d := d + 8)   G_5) ?_
          refine ev_st (st' := [.int p_5.1]) rfl ?_
          have e_5 := F_163_R G_5
          refine ev_x (i := .istore_n 2) (len := 1) (p' := 61) (s' := []) (l' := vz_s1 (lv) 2 (.int p_5.1)) rfl rfl rfl ?_
          refine ev_x (i := .aload_n 0) (len := 1) (p' := 62) (s' := [.ref 66]) rfl rfl (ld_a (vg_o (i := 2) (v := .int p_5.1) g_0 (by decide) (Or.inl rfl))) ?_
          refine ev_x (i := .iload_n 1) (len := 1) (p' := 63) (s' := [.int l_1, .ref 66]) rfl rfl (ld_i (vg_o (i := 2) (v := .int p_5.1) g_1 (by decide) (Or.inl rfl))) ?_
          obtain ⟨p_6, G_6, H⟩ := F_bd H
          refine ev_cv (d := d + 11) (As := [.int l_1]) (a := 66) (p' := 66) rfl rfl rfl ly_66 rfl rfl rfl rfl rfl (nb_s1 hnb rfl) rfl (F_162_ok (d := d + 9)   G_6) ?_
          refine ev_st (st' := [.int p_6.1]) rfl ?_
          have e_6 := F_162_R G_6
          refine F_if H (fun c_7 H => ?_) (fun c_7 H => ?_)
          · refine ev_st (st' := [.int 3]) (congrArg (fun z => Value.int z :: []) c_7) ?_
            refine ev_ts (off := 50) (t := 116) rfl rfl (by decide) rfl ?_
            refine ev_x (i := .aload_n 0) (len := 1) (p' := 117) (s' := [.ref 66]) rfl rfl (ld_a (vg_o (i := 2) (v := .int p_5.1) g_0 (by decide) (Or.inl rfl))) ?_
            refine ev_x (i := .iload_n 1) (len := 1) (p' := 118) (s' := [.int l_1, .ref 66]) rfl rfl (ld_i (vg_o (i := 2) (v := .int p_5.1) g_1 (by decide) (Or.inl rfl))) ?_
            refine ev_x (i := .iload_n 2) (len := 1) (p' := 119) (s' := [.int p_5.1, .int l_1, .ref 66]) rfl rfl (ld_i (vg_s (lv) 2 (.int p_5.1))) ?_
            obtain ⟨p_8, G_8, H⟩ := F_bd H
            refine ev_cv (d := d + 11) (As := [.int l_1, .int p_5.1]) (a := 66) (p' := 122) rfl rfl rfl ly_66 rfl rfl rfl rfl rfl (nb_s1 hnb rfl) rfl (F_164_ok (d := d + 3) (hg := (Or.inl rfl)) (hx := hx) (hr_66_2 := ((congrFun (congrFun e_6 66) 2).trans ((congrFun (congrFun e_5 66) 2).trans ((congrFun (congrFun e_3 66) 2).trans hr_66_2)))) (hr_66_10 := ((congrFun (congrFun e_6 66) 10).trans ((congrFun (congrFun e_5 66) 10).trans ((congrFun (congrFun e_3 66) 10).trans hr_66_10)))) G_8) ?_
            refine ev_st (st' := []) rfl ?_
            have e_8 := F_164_R G_8
            refine ev_x (i := .goto 61) (len := 3) (p' := 183) (s' := []) rfl rfl rfl ?_
            refine ev_x (i := .iload_n 2) (len := 1) (p' := 184) (s' := [.int p_5.1]) rfl rfl (ld_i (vg_s (lv) 2 (.int p_5.1))) ?_
            refine ev_x (i := .iconst 1) (len := 1) (p' := 185) (s' := [.int 1, .int p_5.1]) rfl rfl rfl ?_
            refine ev_x (i := .iadd) (len := 1) (p' := 186) (s' := [.int (p_5.1 + 1)]) rfl rfl rfl ?_
            refine ev_x (i := .istore_n 1) (len := 1) (p' := 187) (s' := []) (l' := vz_s1 (vz_s1 (lv) 2 (.int p_5.1)) 1 (.int (p_5.1 + 1))) rfl rfl rfl ?_
            refine ev_x (i := .goto (-149)) (len := 3) (p' := 38) (s' := []) rfl rfl rfl ?_
            exact ih _ _ _ _ (vg_o (i := 1) (v := .int (p_5.1 + 1)) (vg_o (i := 2) (v := .int p_5.1) g_0 (by decide) (Or.inl rfl)) (by decide) (Or.inl rfl)) (vg_s (vz_s1 (lv) 2 (.int p_5.1)) 1 (.int (p_5.1 + 1))) (nb_s1 (nb_s1 hnb rfl) rfl) ((congrFun (congrFun e_8 66) 2).trans ((congrFun (congrFun e_6 66) 2).trans ((congrFun (congrFun e_5 66) 2).trans ((congrFun (congrFun e_3 66) 2).trans hr_66_2)))) ((congrFun (congrFun e_8 66) 10).trans ((congrFun (congrFun e_6 66) 10).trans ((congrFun (congrFun e_5 66) 10).trans ((congrFun (congrFun e_3 66) 10).trans hr_66_10)))) H
          · refine F_if H (fun c_9 H => ?_) (fun c_9 H => ?_)
            · refine ev_st (st' := [.int 4]) (congrArg (fun z => Value.int z :: []) c_9) ?_
              refine ev_ts (off := 59) (t := 125) rfl rfl (by decide) rfl ?_
              refine ev_x (i := .aload_n 0) (len := 1) (p' := 126) (s' := [.ref 66]) rfl rfl (ld_a (vg_o (i := 2) (v := .int p_5.1) g_0 (by decide) (Or.inl rfl))) ?_
              refine ev_x (i := .iload_n 1) (len := 1) (p' := 127) (s' := [.int l_1, .ref 66]) rfl rfl (ld_i (vg_o (i := 2) (v := .int p_5.1) g_1 (by decide) (Or.inl rfl))) ?_
              refine ev_x (i := .iload_n 2) (len := 1) (p' := 128) (s' := [.int p_5.1, .int l_1, .ref 66]) rfl rfl (ld_i (vg_s (lv) 2 (.int p_5.1))) ?_
              obtain ⟨p_10, G_10, H⟩ := F_bd H
              refine ev_cv (d := d + 11) (As := [.int l_1, .int p_5.1]) (a := 66) (p' := 131) rfl rfl rfl ly_66 rfl rfl rfl rfl rfl (nb_s1 hnb rfl) rfl (F_199_ok (d := d + 2) (hg := (Or.inl rfl)) (hx := hx) (hr_66_2 := ((congrFun (congrFun e_6 66) 2).trans ((congrFun (congrFun e_5 66) 2).trans ((congrFun (congrFun e_3 66) 2).trans hr_66_2)))) (hr_66_10 := ((congrFun (congrFun e_6 66) 10).trans ((congrFun (congrFun e_5 66) 10).trans ((congrFun (congrFun e_3 66) 10).trans hr_66_10)))) G_10) ?_
              refine ev_st (st' := []) rfl ?_
              have e_10 := F_199_R G_10
              refine ev_x (i := .goto 52) (len := 3) (p' := 183) (s' := []) rfl rfl rfl ?_
              refine ev_x (i := .iload_n 2) (len := 1) (p' := 184) (s' := [.int p_5.1]) rfl rfl (ld_i (vg_s (lv) 2 (.int p_5.1))) ?_
              refine ev_x (i := .iconst 1) (len := 1) (p' := 185) (s' := [.int 1, .int p_5.1]) rfl rfl rfl ?_
              refine ev_x (i := .iadd) (len := 1) (p' := 186) (s' := [.int (p_5.1 + 1)]) rfl rfl rfl ?_
              refine ev_x (i := .istore_n 1) (len := 1) (p' := 187) (s' := []) (l' := vz_s1 (vz_s1 (lv) 2 (.int p_5.1)) 1 (.int (p_5.1 + 1))) rfl rfl rfl ?_
              refine ev_x (i := .goto (-149)) (len := 3) (p' := 38) (s' := []) rfl rfl rfl ?_
              exact ih _ _ _ _ (vg_o (i := 1) (v := .int (p_5.1 + 1)) (vg_o (i := 2) (v := .int p_5.1) g_0 (by decide) (Or.inl rfl)) (by decide) (Or.inl rfl)) (vg_s (vz_s1 (lv) 2 (.int p_5.1)) 1 (.int (p_5.1 + 1))) (nb_s1 (nb_s1 hnb rfl) rfl) ((congrFun (congrFun e_10 66) 2).trans ((congrFun (congrFun e_6 66) 2).trans ((congrFun (congrFun e_5 66) 2).trans ((congrFun (congrFun e_3 66) 2).trans hr_66_2)))) ((congrFun (congrFun e_10 66) 10).trans ((congrFun (congrFun e_6 66) 10).trans ((congrFun (congrFun e_5 66) 10).trans ((congrFun (congrFun e_3 66) 10).trans hr_66_10)))) H
            · refine F_if H (fun c_11 H => ?_) (fun c_11 H => ?_)
              · refine ev_st (st' := [.int 6]) (congrArg (fun z => Value.int z :: []) c_11) ?_
                refine ev_ts (off := 50) (t := 116) rfl rfl (by decide) rfl ?_
                refine ev_x (i := .aload_n 0) (len := 1) (p' := 117) (s' := [.ref 66]) rfl rfl (ld_a (vg_o (i := 2) (v := .int p_5.1) g_0 (by decide) (Or.inl rfl))) ?_
                refine ev_x (i := .iload_n 1) (len := 1) (p' := 118) (s' := [.int l_1, .ref 66]) rfl rfl (ld_i (vg_o (i := 2) (v := .int p_5.1) g_1 (by decide) (Or.inl rfl))) ?_
                refine ev_x (i := .iload_n 2) (len := 1) (p' := 119) (s' := [.int p_5.1, .int l_1, .ref 66]) rfl rfl (ld_i (vg_s (lv) 2 (.int p_5.1))) ?_
                obtain ⟨p_12, G_12, H⟩ := F_bd H
                refine ev_cv (d := d + 11) (As := [.int l_1, .int p_5.1]) (a := 66) (p' := 122) rfl rfl rfl ly_66 rfl rfl rfl rfl rfl (nb_s1 hnb rfl) rfl (F_164_ok (d := d + 3) (hg := (Or.inl rfl)) (hx := hx) (hr_66_2 := ((congrFun (congrFun e_6 66) 2).trans ((congrFun (congrFun e_5 66) 2).trans ((congrFun (congrFun e_3 66) 2).trans hr_66_2)))) (hr_66_10 := ((congrFun (congrFun e_6 66) 10).trans ((congrFun (congrFun e_5 66) 10).trans ((congrFun (congrFun e_3 66) 10).trans hr_66_10)))) G_12) ?_
                refine ev_st (st' := []) rfl ?_
                have e_12 := F_164_R G_12
                refine ev_x (i := .goto 61) (len := 3) (p' := 183) (s' := []) rfl rfl rfl ?_
                refine ev_x (i := .iload_n 2) (len := 1) (p' := 184) (s' := [.int p_5.1]) rfl rfl (ld_i (vg_s (lv) 2 (.int p_5.1))) ?_
                refine ev_x (i := .iconst 1) (len := 1) (p' := 185) (s' := [.int 1, .int p_5.1]) rfl rfl rfl ?_
                refine ev_x (i := .iadd) (len := 1) (p' := 186) (s' := [.int (p_5.1 + 1)]) rfl rfl rfl ?_
                refine ev_x (i := .istore_n 1) (len := 1) (p' := 187) (s' := []) (l' := vz_s1 (vz_s1 (lv) 2 (.int p_5.1)) 1 (.int (p_5.1 + 1))) rfl rfl rfl ?_
                refine ev_x (i := .goto (-149)) (len := 3) (p' := 38) (s' := []) rfl rfl rfl ?_
                exact ih _ _ _ _ (vg_o (i := 1) (v := .int (p_5.1 + 1)) (vg_o (i := 2) (v := .int p_5.1) g_0 (by decide) (Or.inl rfl)) (by decide) (Or.inl rfl)) (vg_s (vz_s1 (lv) 2 (.int p_5.1)) 1 (.int (p_5.1 + 1))) (nb_s1 (nb_s1 hnb rfl) rfl) ((congrFun (congrFun e_12 66) 2).trans ((congrFun (congrFun e_6 66) 2).trans ((congrFun (congrFun e_5 66) 2).trans ((congrFun (congrFun e_3 66) 2).trans hr_66_2)))) ((congrFun (congrFun e_12 66) 10).trans ((congrFun (congrFun e_6 66) 10).trans ((congrFun (congrFun e_5 66) 10).trans ((congrFun (congrFun e_3 66) 10).trans hr_66_10)))) H
              · refine F_if H (fun c_13 H => ?_) (fun c_13 H => ?_)
                · refine ev_st (st' := [.int 11]) (congrArg (fun z => Value.int z :: []) c_13) ?_
                  refine ev_ts (off := 68) (t := 134) rfl rfl (by decide) rfl ?_
                  refine ev_x (i := .aload_n 0) (len := 1) (p' := 135) (s' := [.ref 66]) rfl rfl (ld_a (vg_o (i := 2) (v := .int p_5.1) g_0 (by decide) (Or.inl rfl))) ?_
                  refine ev_gr (p' := 138) (v := 79) rfl rfl rfl ly_66 rfl rfl ((congrFun (congrFun e_6 66) 10).trans ((congrFun (congrFun e_5 66) 10).trans ((congrFun (congrFun e_3 66) 10).trans hr_66_10))) ?_
                  refine ev_gi (p' := 141) (v := (gI p_6.2 79 17)) rfl rfl rfl ly_79 rfl rfl rfl ?_
                  refine F_if H (fun c_14 H => ?_) (fun c_14 H => ?_)
                  · refine ev_b0 (t := 157) (p' := 157) rfl rfl rfl (if_pos c_14) ?_
                    refine ev_x (i := .aload_n 0) (len := 1) (p' := 158) (s' := [.ref 66]) rfl rfl (ld_a (vg_o (i := 2) (v := .int p_5.1) g_0 (by decide) (Or.inl rfl))) ?_
                    refine ev_gr (p' := 161) (v := 79) rfl rfl rfl ly_66 rfl rfl ((congrFun (congrFun e_6 66) 10).trans ((congrFun (congrFun e_5 66) 10).trans ((congrFun (congrFun e_3 66) 10).trans hr_66_10))) ?_
                    refine ev_x (i := .aload_n 0) (len := 1) (p' := 162) (s' := [.ref 66, .ref 79]) rfl rfl (ld_a (vg_o (i := 2) (v := .int p_5.1) g_0 (by decide) (Or.inl rfl))) ?_
                    refine ev_x (i := .iload_n 1) (len := 1) (p' := 163) (s' := [.int l_1, .ref 66, .ref 79]) rfl rfl (ld_i (vg_o (i := 2) (v := .int p_5.1) g_1 (by decide) (Or.inl rfl))) ?_
                    refine ev_x (i := .iconst 1) (len := 1) (p' := 164) (s' := [.int 1, .int l_1, .ref 66, .ref 79]) rfl rfl rfl ?_
                    refine ev_x (i := .iadd) (len := 1) (p' := 165) (s' := [.int (l_1 + 1), .ref 66, .ref 79]) rfl rfl rfl ?_
                    refine ev_x (i := .iload_n 2) (len := 1) (p' := 166) (s' := [.int p_5.1, .int (l_1 + 1), .ref 66, .ref 79]) rfl rfl (ld_i (vg_s (lv) 2 (.int p_5.1))) ?_
                    refine ev_x (i := .iconst 1) (len := 1) (p' := 167) (s' := [.int 1, .int p_5.1, .int (l_1 + 1), .ref 66, .ref 79]) rfl rfl rfl ?_
                    refine ev_x (i := .iconst 0) (len := 1) (p' := 168) (s' := [.int 0, .int 1, .int p_5.1, .int (l_1 + 1), .ref 66, .ref 79]) rfl rfl rfl ?_
                    obtain ⟨p_15, G_15, H⟩ := F_bd H
                    refine ev_cv (d := d + 11) (As := [.int (l_1 + 1), .int p_5.1, .int 1, .int 0]) (a := 66) (p' := 171) rfl rfl rfl ly_66 rfl rfl rfl rfl rfl (nb_s1 hnb rfl) rfl (F_201_ok (d := d + 3) (hg := (Or.inl rfl)) (hx := hx) (hr_66_2 := ((congrFun (congrFun e_6 66) 2).trans ((congrFun (congrFun e_5 66) 2).trans ((congrFun (congrFun e_3 66) 2).trans hr_66_2)))) (hr_66_10 := ((congrFun (congrFun e_6 66) 10).trans ((congrFun (congrFun e_5 66) 10).trans ((congrFun (congrFun e_3 66) 10).trans hr_66_10)))) G_15) ?_
                    refine ev_st (st' := [.int p_15.1, .ref 79]) rfl ?_
                    have e_15 := F_201_R G_15
                    refine ev_pi (p' := 174) rfl rfl rfl ly_79 rfl rfl rfl rfl ?_
                    refine ev_x (i := .goto 9) (len := 3) (p' := 183) (s' := []) rfl rfl rfl ?_
                    refine ev_x (i := .iload_n 2) (len := 1) (p' := 184) (s' := [.int p_5.1]) rfl rfl (ld_i (vg_s (lv) 2 (.int p_5.1))) ?_
                    refine ev_x (i := .iconst 1) (len := 1) (p' := 185) (s' := [.int 1, .int p_5.1]) rfl rfl rfl ?_
                    refine ev_x (i := .iadd) (len := 1) (p' := 186) (s' := [.int (p_5.1 + 1)]) rfl rfl rfl ?_
                    refine ev_x (i := .istore_n 1) (len := 1) (p' := 187) (s' := []) (l' := vz_s1 (vz_s1 (lv) 2 (.int p_5.1)) 1 (.int (p_5.1 + 1))) rfl rfl rfl ?_
                    refine ev_x (i := .goto (-149)) (len := 3) (p' := 38) (s' := []) rfl rfl rfl ?_
                    exact ih _ _ _ _ (vg_o (i := 1) (v := .int (p_5.1 + 1)) (vg_o (i := 2) (v := .int p_5.1) g_0 (by decide) (Or.inl rfl)) (by decide) (Or.inl rfl)) (vg_s (vz_s1 (lv) 2 (.int p_5.1)) 1 (.int (p_5.1 + 1))) (nb_s1 (nb_s1 hnb rfl) rfl) ((congrFun (congrFun e_15 66) 2).trans ((congrFun (congrFun e_6 66) 2).trans ((congrFun (congrFun e_5 66) 2).trans ((congrFun (congrFun e_3 66) 2).trans hr_66_2)))) ((congrFun (congrFun e_15 66) 10).trans ((congrFun (congrFun e_6 66) 10).trans ((congrFun (congrFun e_5 66) 10).trans ((congrFun (congrFun e_3 66) 10).trans hr_66_10)))) H
                  · refine ev_b0 (t := 157) (p' := 144) rfl rfl rfl (if_neg c_14) ?_
                    refine ev_x (i := .aload_n 0) (len := 1) (p' := 145) (s' := [.ref 66]) rfl rfl (ld_a (vg_o (i := 2) (v := .int p_5.1) g_0 (by decide) (Or.inl rfl))) ?_
                    refine ev_x (i := .iconst 4) (len := 1) (p' := 146) (s' := [.int 4, .ref 66]) rfl rfl rfl ?_
                    refine ev_x (i := .aload_n 0) (len := 1) (p' := 147) (s' := [.ref 66, .int 4, .ref 66]) rfl rfl (ld_a (vg_o (i := 2) (v := .int p_5.1) g_0 (by decide) (Or.inl rfl))) ?_
                    refine ev_x (i := .iload_n 1) (len := 1) (p' := 148) (s' := [.int l_1, .ref 66, .int 4, .ref 66]) rfl rfl (ld_i (vg_o (i := 2) (v := .int p_5.1) g_1 (by decide) (Or.inl rfl))) ?_
                    obtain ⟨p_16, G_16, H⟩ := F_bd H
                    refine ev_cv (d := d + 11) (As := [.int l_1]) (a := 66) (p' := 151) rfl rfl rfl ly_66 rfl rfl rfl rfl rfl (nb_s1 hnb rfl) rfl (F_159_ok (d := d + 9)   G_16) ?_
                    refine ev_st (st' := [.int p_16.1, .int 4, .ref 66]) rfl ?_
                    have e_16 := F_159_R G_16
                    obtain ⟨p_17, G_17, H⟩ := F_bd H
                    refine ev_cv (d := d + 11) (As := [.int 4, .int p_16.1]) (a := 66) (p' := 154) rfl rfl rfl ly_66 rfl rfl rfl rfl rfl (nb_s1 hnb rfl) rfl (F_165_ok (d := d + 10)   G_17) ?_
                    refine ev_st (st' := []) rfl ?_
                    have e_17 := F_165_R G_17
                    refine ev_x (i := .goto 29) (len := 3) (p' := 183) (s' := []) rfl rfl rfl ?_
                    refine ev_x (i := .iload_n 2) (len := 1) (p' := 184) (s' := [.int p_5.1]) rfl rfl (ld_i (vg_s (lv) 2 (.int p_5.1))) ?_
                    refine ev_x (i := .iconst 1) (len := 1) (p' := 185) (s' := [.int 1, .int p_5.1]) rfl rfl rfl ?_
                    refine ev_x (i := .iadd) (len := 1) (p' := 186) (s' := [.int (p_5.1 + 1)]) rfl rfl rfl ?_
                    refine ev_x (i := .istore_n 1) (len := 1) (p' := 187) (s' := []) (l' := vz_s1 (vz_s1 (lv) 2 (.int p_5.1)) 1 (.int (p_5.1 + 1))) rfl rfl rfl ?_
                    refine ev_x (i := .goto (-149)) (len := 3) (p' := 38) (s' := []) rfl rfl rfl ?_
                    exact ih _ _ _ _ (vg_o (i := 1) (v := .int (p_5.1 + 1)) (vg_o (i := 2) (v := .int p_5.1) g_0 (by decide) (Or.inl rfl)) (by decide) (Or.inl rfl)) (vg_s (vz_s1 (lv) 2 (.int p_5.1)) 1 (.int (p_5.1 + 1))) (nb_s1 (nb_s1 hnb rfl) rfl) ((congrFun (congrFun e_17 66) 2).trans ((congrFun (congrFun e_16 66) 2).trans ((congrFun (congrFun e_6 66) 2).trans ((congrFun (congrFun e_5 66) 2).trans ((congrFun (congrFun e_3 66) 2).trans hr_66_2))))) ((congrFun (congrFun e_17 66) 10).trans ((congrFun (congrFun e_16 66) 10).trans ((congrFun (congrFun e_6 66) 10).trans ((congrFun (congrFun e_5 66) 10).trans ((congrFun (congrFun e_3 66) 10).trans hr_66_10))))) H
                · have n_3 : (3 : Int) ≠ (p_6.1 : Int32).toInt := i32_ne (k := 3) (by decide) c_7
                  have n_4 : (4 : Int) ≠ (p_6.1 : Int32).toInt := i32_ne (k := 4) (by decide) c_9
                  have n_6 : (6 : Int) ≠ (p_6.1 : Int32).toInt := i32_ne (k := 6) (by decide) c_11
                  have n_11 : (11 : Int) ≠ (p_6.1 : Int32).toInt := i32_ne (k := 11) (by decide) c_13
                  refine ev_ts (off := 111) (t := 177) rfl rfl ?hsw rfl ?_
                  case hsw =>
                    by_cases hq : (p_6.1 : Int32).toInt < 3 ∨ 11 < (p_6.1 : Int32).toInt
                    · exact if_pos hq
                    · rw [if_neg hq]
                      have hw : (p_6.1 : Int32).toInt = 5 ∨ (p_6.1 : Int32).toInt = 7 ∨ (p_6.1 : Int32).toInt = 8 ∨ (p_6.1 : Int32).toInt = 9 ∨ (p_6.1 : Int32).toInt = 10 := by omega
                      rcases hw with hw | hw | hw | hw | hw <;> rw [hw] <;> rfl
                  refine ev_x (i := .aload_n 0) (len := 1) (p' := 178) (s' := [.ref 66]) rfl rfl (ld_a (vg_o (i := 2) (v := .int p_5.1) g_0 (by decide) (Or.inl rfl))) ?_
                  refine ev_x (i := .iload_n 1) (len := 1) (p' := 179) (s' := [.int l_1, .ref 66]) rfl rfl (ld_i (vg_o (i := 2) (v := .int p_5.1) g_1 (by decide) (Or.inl rfl))) ?_
                  refine ev_x (i := .iload_n 2) (len := 1) (p' := 180) (s' := [.int p_5.1, .int l_1, .ref 66]) rfl rfl (ld_i (vg_s (lv) 2 (.int p_5.1))) ?_
                  obtain ⟨p_18, G_18, H⟩ := F_bd H
                  refine ev_cv (d := d + 11) (As := [.int l_1, .int p_5.1]) (a := 66) (p' := 183) rfl rfl rfl ly_66 rfl rfl rfl rfl rfl (nb_s1 hnb rfl) rfl (F_204_ok (d := d + 0) (hg := (Or.inl rfl)) (hx := hx) (hr_66_2 := ((congrFun (congrFun e_6 66) 2).trans ((congrFun (congrFun e_5 66) 2).trans ((congrFun (congrFun e_3 66) 2).trans hr_66_2)))) (hr_66_10 := ((congrFun (congrFun e_6 66) 10).trans ((congrFun (congrFun e_5 66) 10).trans ((congrFun (congrFun e_3 66) 10).trans hr_66_10)))) G_18) ?_
                  refine ev_st (st' := []) rfl ?_
                  have e_18 := F_204_R G_18
                  refine ev_x (i := .iload_n 2) (len := 1) (p' := 184) (s' := [.int p_5.1]) rfl rfl (ld_i (vg_s (lv) 2 (.int p_5.1))) ?_
                  refine ev_x (i := .iconst 1) (len := 1) (p' := 185) (s' := [.int 1, .int p_5.1]) rfl rfl rfl ?_
                  refine ev_x (i := .iadd) (len := 1) (p' := 186) (s' := [.int (p_5.1 + 1)]) rfl rfl rfl ?_
                  refine ev_x (i := .istore_n 1) (len := 1) (p' := 187) (s' := []) (l' := vz_s1 (vz_s1 (lv) 2 (.int p_5.1)) 1 (.int (p_5.1 + 1))) rfl rfl rfl ?_
                  refine ev_x (i := .goto (-149)) (len := 3) (p' := 38) (s' := []) rfl rfl rfl ?_
                  exact ih _ _ _ _ (vg_o (i := 1) (v := .int (p_5.1 + 1)) (vg_o (i := 2) (v := .int p_5.1) g_0 (by decide) (Or.inl rfl)) (by decide) (Or.inl rfl)) (vg_s (vz_s1 (lv) 2 (.int p_5.1)) 1 (.int (p_5.1 + 1))) (nb_s1 (nb_s1 hnb rfl) rfl) ((congrFun (congrFun e_18 66) 2).trans ((congrFun (congrFun e_6 66) 2).trans ((congrFun (congrFun e_5 66) 2).trans ((congrFun (congrFun e_3 66) 2).trans hr_66_2)))) ((congrFun (congrFun e_18 66) 10).trans ((congrFun (congrFun e_6 66) 10).trans ((congrFun (congrFun e_5 66) 10).trans ((congrFun (congrFun e_3 66) 10).trans hr_66_10)))) H
      · refine ev_b0 (t := 190) (p' := 190) rfl rfl rfl (if_pos c_2) ?_
        exact J_160_190_ok (d := d) (Or.inl rfl) hx g_0 g_1 hnb hr_66_2 hr_66_10 H
  · intro k
    induction k with
    | zero => intro l_1 σ lv p g_0 g_1 hnb hr_66_2 hr_66_10 H; unfold L_160 at H; cases H
    | succ k ih =>
      intro l_1 σ lv p g_0 g_1 hnb hr_66_2 hr_66_10 H
      unfold L_160 at H
      refine ev_x (i := .aload_n 0) (len := 1) (p' := 39) (s' := [.ref 66]) rfl rfl (ld_a g_0) ?_
      refine ev_gi (p' := 42) (v := (gI σ 66 16)) rfl rfl rfl ly_66 rfl rfl rfl ?_
      refine F_if H (fun c_2 H => ?_) (fun c_2 H => ?_)
      · refine ev_b0 (t := 190) (p' := 45) rfl rfl rfl (if_neg (fun q => q c_2)) ?_
        refine ev_x (i := .aload_n 0) (len := 1) (p' := 46) (s' := [.ref 66]) rfl rfl (ld_a g_0) ?_
        refine ev_x (i := .iload_n 1) (len := 1) (p' := 47) (s' := [.int l_1, .ref 66]) rfl rfl (ld_i g_1) ?_
        obtain ⟨p_3, G_3, H⟩ := F_bd H
        refine ev_cv (d := d + 11) (As := [.int l_1]) (a := 66) (p' := 50) rfl rfl rfl ly_66 rfl rfl rfl rfl rfl hnb rfl (F_162_ok (d := d + 9)   G_3) ?_
        refine ev_st (st' := [.int p_3.1]) rfl ?_
        have e_3 := F_162_R G_3
        refine F_if H (fun c_4 H => ?_) (fun c_4 H => ?_)
        · refine ev_b0 (t := 190) (p' := 190) rfl rfl rfl (if_pos c_4) ?_
          exact J_160_190_ok (d := d) (Or.inr rfl) hx g_0 g_1 hnb ((congrFun (congrFun e_3 66) 2).trans hr_66_2) ((congrFun (congrFun e_3 66) 10).trans hr_66_10) H
        · refine ev_b0 (t := 190) (p' := 53) rfl rfl rfl (if_neg c_4) ?_
          refine ev_x (i := .aload_n 0) (len := 1) (p' := 54) (s' := [.ref 66]) rfl rfl (ld_a g_0) ?_
          refine ev_x (i := .iload_n 1) (len := 1) (p' := 55) (s' := [.int l_1, .ref 66]) rfl rfl (ld_i g_1) ?_
          refine ev_x (i := .bipush 34) (len := 2) (p' := 57) (s' := [.int 34, .int l_1, .ref 66]) rfl rfl rfl ?_
          obtain ⟨p_5, G_5, H⟩ := F_bd H
          refine ev_cv (d := d + 11) (As := [.int l_1, .int 34]) (a := 66) (p' := 60) rfl rfl rfl ly_66 rfl rfl rfl rfl rfl hnb rfl (F_163_ok (d := d + 8)   G_5) ?_
          refine ev_st (st' := [.int p_5.1]) rfl ?_
          have e_5 := F_163_R G_5
          refine ev_x (i := .istore_n 2) (len := 1) (p' := 61) (s' := []) (l' := vz_s1 (lv) 2 (.int p_5.1)) rfl rfl rfl ?_
          refine ev_x (i := .aload_n 0) (len := 1) (p' := 62) (s' := [.ref 66]) rfl rfl (ld_a (vg_o (i := 2) (v := .int p_5.1) g_0 (by decide) (Or.inl rfl))) ?_
          refine ev_x (i := .iload_n 1) (len := 1) (p' := 63) (s' := [.int l_1, .ref 66]) rfl rfl (ld_i (vg_o (i := 2) (v := .int p_5.1) g_1 (by decide) (Or.inl rfl))) ?_
          obtain ⟨p_6, G_6, H⟩ := F_bd H
          refine ev_cv (d := d + 11) (As := [.int l_1]) (a := 66) (p' := 66) rfl rfl rfl ly_66 rfl rfl rfl rfl rfl (nb_s1 hnb rfl) rfl (F_162_ok (d := d + 9)   G_6) ?_
          refine ev_st (st' := [.int p_6.1]) rfl ?_
          have e_6 := F_162_R G_6
          refine F_if H (fun c_7 H => ?_) (fun c_7 H => ?_)
          · refine ev_st (st' := [.int 3]) (congrArg (fun z => Value.int z :: []) c_7) ?_
            refine ev_ts (off := 50) (t := 116) rfl rfl (by decide) rfl ?_
            refine ev_x (i := .aload_n 0) (len := 1) (p' := 117) (s' := [.ref 66]) rfl rfl (ld_a (vg_o (i := 2) (v := .int p_5.1) g_0 (by decide) (Or.inl rfl))) ?_
            refine ev_x (i := .iload_n 1) (len := 1) (p' := 118) (s' := [.int l_1, .ref 66]) rfl rfl (ld_i (vg_o (i := 2) (v := .int p_5.1) g_1 (by decide) (Or.inl rfl))) ?_
            refine ev_x (i := .iload_n 2) (len := 1) (p' := 119) (s' := [.int p_5.1, .int l_1, .ref 66]) rfl rfl (ld_i (vg_s (lv) 2 (.int p_5.1))) ?_
            obtain ⟨p_8, G_8, H⟩ := F_bd H
            refine ev_cv (d := d + 11) (As := [.int l_1, .int p_5.1]) (a := 66) (p' := 122) rfl rfl rfl ly_66 rfl rfl rfl rfl rfl (nb_s1 hnb rfl) rfl (F_164_ok (d := d + 3) (hg := (Or.inr rfl)) (hx := hx) (hr_66_2 := ((congrFun (congrFun e_6 66) 2).trans ((congrFun (congrFun e_5 66) 2).trans ((congrFun (congrFun e_3 66) 2).trans hr_66_2)))) (hr_66_10 := ((congrFun (congrFun e_6 66) 10).trans ((congrFun (congrFun e_5 66) 10).trans ((congrFun (congrFun e_3 66) 10).trans hr_66_10)))) G_8) ?_
            refine ev_st (st' := []) rfl ?_
            have e_8 := F_164_R G_8
            refine ev_x (i := .goto 61) (len := 3) (p' := 183) (s' := []) rfl rfl rfl ?_
            refine ev_x (i := .iload_n 2) (len := 1) (p' := 184) (s' := [.int p_5.1]) rfl rfl (ld_i (vg_s (lv) 2 (.int p_5.1))) ?_
            refine ev_x (i := .iconst 1) (len := 1) (p' := 185) (s' := [.int 1, .int p_5.1]) rfl rfl rfl ?_
            refine ev_x (i := .iadd) (len := 1) (p' := 186) (s' := [.int (p_5.1 + 1)]) rfl rfl rfl ?_
            refine ev_x (i := .istore_n 1) (len := 1) (p' := 187) (s' := []) (l' := vz_s1 (vz_s1 (lv) 2 (.int p_5.1)) 1 (.int (p_5.1 + 1))) rfl rfl rfl ?_
            refine ev_x (i := .goto (-149)) (len := 3) (p' := 38) (s' := []) rfl rfl rfl ?_
            exact ih _ _ _ _ (vg_o (i := 1) (v := .int (p_5.1 + 1)) (vg_o (i := 2) (v := .int p_5.1) g_0 (by decide) (Or.inl rfl)) (by decide) (Or.inl rfl)) (vg_s (vz_s1 (lv) 2 (.int p_5.1)) 1 (.int (p_5.1 + 1))) (nb_s1 (nb_s1 hnb rfl) rfl) ((congrFun (congrFun e_8 66) 2).trans ((congrFun (congrFun e_6 66) 2).trans ((congrFun (congrFun e_5 66) 2).trans ((congrFun (congrFun e_3 66) 2).trans hr_66_2)))) ((congrFun (congrFun e_8 66) 10).trans ((congrFun (congrFun e_6 66) 10).trans ((congrFun (congrFun e_5 66) 10).trans ((congrFun (congrFun e_3 66) 10).trans hr_66_10)))) H
          · refine F_if H (fun c_9 H => ?_) (fun c_9 H => ?_)
            · refine ev_st (st' := [.int 4]) (congrArg (fun z => Value.int z :: []) c_9) ?_
              refine ev_ts (off := 59) (t := 125) rfl rfl (by decide) rfl ?_
              refine ev_x (i := .aload_n 0) (len := 1) (p' := 126) (s' := [.ref 66]) rfl rfl (ld_a (vg_o (i := 2) (v := .int p_5.1) g_0 (by decide) (Or.inl rfl))) ?_
              refine ev_x (i := .iload_n 1) (len := 1) (p' := 127) (s' := [.int l_1, .ref 66]) rfl rfl (ld_i (vg_o (i := 2) (v := .int p_5.1) g_1 (by decide) (Or.inl rfl))) ?_
              refine ev_x (i := .iload_n 2) (len := 1) (p' := 128) (s' := [.int p_5.1, .int l_1, .ref 66]) rfl rfl (ld_i (vg_s (lv) 2 (.int p_5.1))) ?_
              obtain ⟨p_10, G_10, H⟩ := F_bd H
              refine ev_cv (d := d + 11) (As := [.int l_1, .int p_5.1]) (a := 66) (p' := 131) rfl rfl rfl ly_66 rfl rfl rfl rfl rfl (nb_s1 hnb rfl) rfl (F_199_ok (d := d + 2) (hg := (Or.inr rfl)) (hx := hx) (hr_66_2 := ((congrFun (congrFun e_6 66) 2).trans ((congrFun (congrFun e_5 66) 2).trans ((congrFun (congrFun e_3 66) 2).trans hr_66_2)))) (hr_66_10 := ((congrFun (congrFun e_6 66) 10).trans ((congrFun (congrFun e_5 66) 10).trans ((congrFun (congrFun e_3 66) 10).trans hr_66_10)))) G_10) ?_
              refine ev_st (st' := []) rfl ?_
              have e_10 := F_199_R G_10
              refine ev_x (i := .goto 52) (len := 3) (p' := 183) (s' := []) rfl rfl rfl ?_
              refine ev_x (i := .iload_n 2) (len := 1) (p' := 184) (s' := [.int p_5.1]) rfl rfl (ld_i (vg_s (lv) 2 (.int p_5.1))) ?_
              refine ev_x (i := .iconst 1) (len := 1) (p' := 185) (s' := [.int 1, .int p_5.1]) rfl rfl rfl ?_
              refine ev_x (i := .iadd) (len := 1) (p' := 186) (s' := [.int (p_5.1 + 1)]) rfl rfl rfl ?_
              refine ev_x (i := .istore_n 1) (len := 1) (p' := 187) (s' := []) (l' := vz_s1 (vz_s1 (lv) 2 (.int p_5.1)) 1 (.int (p_5.1 + 1))) rfl rfl rfl ?_
              refine ev_x (i := .goto (-149)) (len := 3) (p' := 38) (s' := []) rfl rfl rfl ?_
              exact ih _ _ _ _ (vg_o (i := 1) (v := .int (p_5.1 + 1)) (vg_o (i := 2) (v := .int p_5.1) g_0 (by decide) (Or.inl rfl)) (by decide) (Or.inl rfl)) (vg_s (vz_s1 (lv) 2 (.int p_5.1)) 1 (.int (p_5.1 + 1))) (nb_s1 (nb_s1 hnb rfl) rfl) ((congrFun (congrFun e_10 66) 2).trans ((congrFun (congrFun e_6 66) 2).trans ((congrFun (congrFun e_5 66) 2).trans ((congrFun (congrFun e_3 66) 2).trans hr_66_2)))) ((congrFun (congrFun e_10 66) 10).trans ((congrFun (congrFun e_6 66) 10).trans ((congrFun (congrFun e_5 66) 10).trans ((congrFun (congrFun e_3 66) 10).trans hr_66_10)))) H
            · refine F_if H (fun c_11 H => ?_) (fun c_11 H => ?_)
              · refine ev_st (st' := [.int 6]) (congrArg (fun z => Value.int z :: []) c_11) ?_
                refine ev_ts (off := 50) (t := 116) rfl rfl (by decide) rfl ?_
                refine ev_x (i := .aload_n 0) (len := 1) (p' := 117) (s' := [.ref 66]) rfl rfl (ld_a (vg_o (i := 2) (v := .int p_5.1) g_0 (by decide) (Or.inl rfl))) ?_
                refine ev_x (i := .iload_n 1) (len := 1) (p' := 118) (s' := [.int l_1, .ref 66]) rfl rfl (ld_i (vg_o (i := 2) (v := .int p_5.1) g_1 (by decide) (Or.inl rfl))) ?_
                refine ev_x (i := .iload_n 2) (len := 1) (p' := 119) (s' := [.int p_5.1, .int l_1, .ref 66]) rfl rfl (ld_i (vg_s (lv) 2 (.int p_5.1))) ?_
                obtain ⟨p_12, G_12, H⟩ := F_bd H
                refine ev_cv (d := d + 11) (As := [.int l_1, .int p_5.1]) (a := 66) (p' := 122) rfl rfl rfl ly_66 rfl rfl rfl rfl rfl (nb_s1 hnb rfl) rfl (F_164_ok (d := d + 3) (hg := (Or.inr rfl)) (hx := hx) (hr_66_2 := ((congrFun (congrFun e_6 66) 2).trans ((congrFun (congrFun e_5 66) 2).trans ((congrFun (congrFun e_3 66) 2).trans hr_66_2)))) (hr_66_10 := ((congrFun (congrFun e_6 66) 10).trans ((congrFun (congrFun e_5 66) 10).trans ((congrFun (congrFun e_3 66) 10).trans hr_66_10)))) G_12) ?_
                refine ev_st (st' := []) rfl ?_
                have e_12 := F_164_R G_12
                refine ev_x (i := .goto 61) (len := 3) (p' := 183) (s' := []) rfl rfl rfl ?_
                refine ev_x (i := .iload_n 2) (len := 1) (p' := 184) (s' := [.int p_5.1]) rfl rfl (ld_i (vg_s (lv) 2 (.int p_5.1))) ?_
                refine ev_x (i := .iconst 1) (len := 1) (p' := 185) (s' := [.int 1, .int p_5.1]) rfl rfl rfl ?_
                refine ev_x (i := .iadd) (len := 1) (p' := 186) (s' := [.int (p_5.1 + 1)]) rfl rfl rfl ?_
                refine ev_x (i := .istore_n 1) (len := 1) (p' := 187) (s' := []) (l' := vz_s1 (vz_s1 (lv) 2 (.int p_5.1)) 1 (.int (p_5.1 + 1))) rfl rfl rfl ?_
                refine ev_x (i := .goto (-149)) (len := 3) (p' := 38) (s' := []) rfl rfl rfl ?_
                exact ih _ _ _ _ (vg_o (i := 1) (v := .int (p_5.1 + 1)) (vg_o (i := 2) (v := .int p_5.1) g_0 (by decide) (Or.inl rfl)) (by decide) (Or.inl rfl)) (vg_s (vz_s1 (lv) 2 (.int p_5.1)) 1 (.int (p_5.1 + 1))) (nb_s1 (nb_s1 hnb rfl) rfl) ((congrFun (congrFun e_12 66) 2).trans ((congrFun (congrFun e_6 66) 2).trans ((congrFun (congrFun e_5 66) 2).trans ((congrFun (congrFun e_3 66) 2).trans hr_66_2)))) ((congrFun (congrFun e_12 66) 10).trans ((congrFun (congrFun e_6 66) 10).trans ((congrFun (congrFun e_5 66) 10).trans ((congrFun (congrFun e_3 66) 10).trans hr_66_10)))) H
              · refine F_if H (fun c_13 H => ?_) (fun c_13 H => ?_)
                · refine ev_st (st' := [.int 11]) (congrArg (fun z => Value.int z :: []) c_13) ?_
                  refine ev_ts (off := 68) (t := 134) rfl rfl (by decide) rfl ?_
                  refine ev_x (i := .aload_n 0) (len := 1) (p' := 135) (s' := [.ref 66]) rfl rfl (ld_a (vg_o (i := 2) (v := .int p_5.1) g_0 (by decide) (Or.inl rfl))) ?_
                  refine ev_gr (p' := 138) (v := 115) rfl rfl rfl ly_66 rfl rfl ((congrFun (congrFun e_6 66) 10).trans ((congrFun (congrFun e_5 66) 10).trans ((congrFun (congrFun e_3 66) 10).trans hr_66_10))) ?_
                  refine ev_gi (p' := 141) (v := (gI p_6.2 115 17)) rfl rfl rfl ly_115 rfl rfl rfl ?_
                  refine F_if H (fun c_14 H => ?_) (fun c_14 H => ?_)
                  · refine ev_b0 (t := 157) (p' := 157) rfl rfl rfl (if_pos c_14) ?_
                    refine ev_x (i := .aload_n 0) (len := 1) (p' := 158) (s' := [.ref 66]) rfl rfl (ld_a (vg_o (i := 2) (v := .int p_5.1) g_0 (by decide) (Or.inl rfl))) ?_
                    refine ev_gr (p' := 161) (v := 115) rfl rfl rfl ly_66 rfl rfl ((congrFun (congrFun e_6 66) 10).trans ((congrFun (congrFun e_5 66) 10).trans ((congrFun (congrFun e_3 66) 10).trans hr_66_10))) ?_
                    refine ev_x (i := .aload_n 0) (len := 1) (p' := 162) (s' := [.ref 66, .ref 115]) rfl rfl (ld_a (vg_o (i := 2) (v := .int p_5.1) g_0 (by decide) (Or.inl rfl))) ?_
                    refine ev_x (i := .iload_n 1) (len := 1) (p' := 163) (s' := [.int l_1, .ref 66, .ref 115]) rfl rfl (ld_i (vg_o (i := 2) (v := .int p_5.1) g_1 (by decide) (Or.inl rfl))) ?_
                    refine ev_x (i := .iconst 1) (len := 1) (p' := 164) (s' := [.int 1, .int l_1, .ref 66, .ref 115]) rfl rfl rfl ?_
                    refine ev_x (i := .iadd) (len := 1) (p' := 165) (s' := [.int (l_1 + 1), .ref 66, .ref 115]) rfl rfl rfl ?_
                    refine ev_x (i := .iload_n 2) (len := 1) (p' := 166) (s' := [.int p_5.1, .int (l_1 + 1), .ref 66, .ref 115]) rfl rfl (ld_i (vg_s (lv) 2 (.int p_5.1))) ?_
                    refine ev_x (i := .iconst 1) (len := 1) (p' := 167) (s' := [.int 1, .int p_5.1, .int (l_1 + 1), .ref 66, .ref 115]) rfl rfl rfl ?_
                    refine ev_x (i := .iconst 0) (len := 1) (p' := 168) (s' := [.int 0, .int 1, .int p_5.1, .int (l_1 + 1), .ref 66, .ref 115]) rfl rfl rfl ?_
                    obtain ⟨p_15, G_15, H⟩ := F_bd H
                    refine ev_cv (d := d + 11) (As := [.int (l_1 + 1), .int p_5.1, .int 1, .int 0]) (a := 66) (p' := 171) rfl rfl rfl ly_66 rfl rfl rfl rfl rfl (nb_s1 hnb rfl) rfl (F_201_ok (d := d + 3) (hg := (Or.inr rfl)) (hx := hx) (hr_66_2 := ((congrFun (congrFun e_6 66) 2).trans ((congrFun (congrFun e_5 66) 2).trans ((congrFun (congrFun e_3 66) 2).trans hr_66_2)))) (hr_66_10 := ((congrFun (congrFun e_6 66) 10).trans ((congrFun (congrFun e_5 66) 10).trans ((congrFun (congrFun e_3 66) 10).trans hr_66_10)))) G_15) ?_
                    refine ev_st (st' := [.int p_15.1, .ref 115]) rfl ?_
                    have e_15 := F_201_R G_15
                    refine ev_pi (p' := 174) rfl rfl rfl ly_115 rfl rfl rfl rfl ?_
                    refine ev_x (i := .goto 9) (len := 3) (p' := 183) (s' := []) rfl rfl rfl ?_
                    refine ev_x (i := .iload_n 2) (len := 1) (p' := 184) (s' := [.int p_5.1]) rfl rfl (ld_i (vg_s (lv) 2 (.int p_5.1))) ?_
                    refine ev_x (i := .iconst 1) (len := 1) (p' := 185) (s' := [.int 1, .int p_5.1]) rfl rfl rfl ?_
                    refine ev_x (i := .iadd) (len := 1) (p' := 186) (s' := [.int (p_5.1 + 1)]) rfl rfl rfl ?_
                    refine ev_x (i := .istore_n 1) (len := 1) (p' := 187) (s' := []) (l' := vz_s1 (vz_s1 (lv) 2 (.int p_5.1)) 1 (.int (p_5.1 + 1))) rfl rfl rfl ?_
                    refine ev_x (i := .goto (-149)) (len := 3) (p' := 38) (s' := []) rfl rfl rfl ?_
                    exact ih _ _ _ _ (vg_o (i := 1) (v := .int (p_5.1 + 1)) (vg_o (i := 2) (v := .int p_5.1) g_0 (by decide) (Or.inl rfl)) (by decide) (Or.inl rfl)) (vg_s (vz_s1 (lv) 2 (.int p_5.1)) 1 (.int (p_5.1 + 1))) (nb_s1 (nb_s1 hnb rfl) rfl) ((congrFun (congrFun e_15 66) 2).trans ((congrFun (congrFun e_6 66) 2).trans ((congrFun (congrFun e_5 66) 2).trans ((congrFun (congrFun e_3 66) 2).trans hr_66_2)))) ((congrFun (congrFun e_15 66) 10).trans ((congrFun (congrFun e_6 66) 10).trans ((congrFun (congrFun e_5 66) 10).trans ((congrFun (congrFun e_3 66) 10).trans hr_66_10)))) H
                  · refine ev_b0 (t := 157) (p' := 144) rfl rfl rfl (if_neg c_14) ?_
                    refine ev_x (i := .aload_n 0) (len := 1) (p' := 145) (s' := [.ref 66]) rfl rfl (ld_a (vg_o (i := 2) (v := .int p_5.1) g_0 (by decide) (Or.inl rfl))) ?_
                    refine ev_x (i := .iconst 4) (len := 1) (p' := 146) (s' := [.int 4, .ref 66]) rfl rfl rfl ?_
                    refine ev_x (i := .aload_n 0) (len := 1) (p' := 147) (s' := [.ref 66, .int 4, .ref 66]) rfl rfl (ld_a (vg_o (i := 2) (v := .int p_5.1) g_0 (by decide) (Or.inl rfl))) ?_
                    refine ev_x (i := .iload_n 1) (len := 1) (p' := 148) (s' := [.int l_1, .ref 66, .int 4, .ref 66]) rfl rfl (ld_i (vg_o (i := 2) (v := .int p_5.1) g_1 (by decide) (Or.inl rfl))) ?_
                    obtain ⟨p_16, G_16, H⟩ := F_bd H
                    refine ev_cv (d := d + 11) (As := [.int l_1]) (a := 66) (p' := 151) rfl rfl rfl ly_66 rfl rfl rfl rfl rfl (nb_s1 hnb rfl) rfl (F_159_ok (d := d + 9)   G_16) ?_
                    refine ev_st (st' := [.int p_16.1, .int 4, .ref 66]) rfl ?_
                    have e_16 := F_159_R G_16
                    obtain ⟨p_17, G_17, H⟩ := F_bd H
                    refine ev_cv (d := d + 11) (As := [.int 4, .int p_16.1]) (a := 66) (p' := 154) rfl rfl rfl ly_66 rfl rfl rfl rfl rfl (nb_s1 hnb rfl) rfl (F_165_ok (d := d + 10)   G_17) ?_
                    refine ev_st (st' := []) rfl ?_
                    have e_17 := F_165_R G_17
                    refine ev_x (i := .goto 29) (len := 3) (p' := 183) (s' := []) rfl rfl rfl ?_
                    refine ev_x (i := .iload_n 2) (len := 1) (p' := 184) (s' := [.int p_5.1]) rfl rfl (ld_i (vg_s (lv) 2 (.int p_5.1))) ?_
                    refine ev_x (i := .iconst 1) (len := 1) (p' := 185) (s' := [.int 1, .int p_5.1]) rfl rfl rfl ?_
                    refine ev_x (i := .iadd) (len := 1) (p' := 186) (s' := [.int (p_5.1 + 1)]) rfl rfl rfl ?_
                    refine ev_x (i := .istore_n 1) (len := 1) (p' := 187) (s' := []) (l' := vz_s1 (vz_s1 (lv) 2 (.int p_5.1)) 1 (.int (p_5.1 + 1))) rfl rfl rfl ?_
                    refine ev_x (i := .goto (-149)) (len := 3) (p' := 38) (s' := []) rfl rfl rfl ?_
                    exact ih _ _ _ _ (vg_o (i := 1) (v := .int (p_5.1 + 1)) (vg_o (i := 2) (v := .int p_5.1) g_0 (by decide) (Or.inl rfl)) (by decide) (Or.inl rfl)) (vg_s (vz_s1 (lv) 2 (.int p_5.1)) 1 (.int (p_5.1 + 1))) (nb_s1 (nb_s1 hnb rfl) rfl) ((congrFun (congrFun e_17 66) 2).trans ((congrFun (congrFun e_16 66) 2).trans ((congrFun (congrFun e_6 66) 2).trans ((congrFun (congrFun e_5 66) 2).trans ((congrFun (congrFun e_3 66) 2).trans hr_66_2))))) ((congrFun (congrFun e_17 66) 10).trans ((congrFun (congrFun e_16 66) 10).trans ((congrFun (congrFun e_6 66) 10).trans ((congrFun (congrFun e_5 66) 10).trans ((congrFun (congrFun e_3 66) 10).trans hr_66_10))))) H
                · have n_3 : (3 : Int) ≠ (p_6.1 : Int32).toInt := i32_ne (k := 3) (by decide) c_7
                  have n_4 : (4 : Int) ≠ (p_6.1 : Int32).toInt := i32_ne (k := 4) (by decide) c_9
                  have n_6 : (6 : Int) ≠ (p_6.1 : Int32).toInt := i32_ne (k := 6) (by decide) c_11
                  have n_11 : (11 : Int) ≠ (p_6.1 : Int32).toInt := i32_ne (k := 11) (by decide) c_13
                  refine ev_ts (off := 111) (t := 177) rfl rfl ?hsw rfl ?_
                  case hsw =>
                    by_cases hq : (p_6.1 : Int32).toInt < 3 ∨ 11 < (p_6.1 : Int32).toInt
                    · exact if_pos hq
                    · rw [if_neg hq]
                      have hw : (p_6.1 : Int32).toInt = 5 ∨ (p_6.1 : Int32).toInt = 7 ∨ (p_6.1 : Int32).toInt = 8 ∨ (p_6.1 : Int32).toInt = 9 ∨ (p_6.1 : Int32).toInt = 10 := by omega
                      rcases hw with hw | hw | hw | hw | hw <;> rw [hw] <;> rfl
                  refine ev_x (i := .aload_n 0) (len := 1) (p' := 178) (s' := [.ref 66]) rfl rfl (ld_a (vg_o (i := 2) (v := .int p_5.1) g_0 (by decide) (Or.inl rfl))) ?_
                  refine ev_x (i := .iload_n 1) (len := 1) (p' := 179) (s' := [.int l_1, .ref 66]) rfl rfl (ld_i (vg_o (i := 2) (v := .int p_5.1) g_1 (by decide) (Or.inl rfl))) ?_
                  refine ev_x (i := .iload_n 2) (len := 1) (p' := 180) (s' := [.int p_5.1, .int l_1, .ref 66]) rfl rfl (ld_i (vg_s (lv) 2 (.int p_5.1))) ?_
                  obtain ⟨p_18, G_18, H⟩ := F_bd H
                  refine ev_cv (d := d + 11) (As := [.int l_1, .int p_5.1]) (a := 66) (p' := 183) rfl rfl rfl ly_66 rfl rfl rfl rfl rfl (nb_s1 hnb rfl) rfl (F_204_ok (d := d + 0) (hg := (Or.inr rfl)) (hx := hx) (hr_66_2 := ((congrFun (congrFun e_6 66) 2).trans ((congrFun (congrFun e_5 66) 2).trans ((congrFun (congrFun e_3 66) 2).trans hr_66_2)))) (hr_66_10 := ((congrFun (congrFun e_6 66) 10).trans ((congrFun (congrFun e_5 66) 10).trans ((congrFun (congrFun e_3 66) 10).trans hr_66_10)))) G_18) ?_
                  refine ev_st (st' := []) rfl ?_
                  have e_18 := F_204_R G_18
                  refine ev_x (i := .iload_n 2) (len := 1) (p' := 184) (s' := [.int p_5.1]) rfl rfl (ld_i (vg_s (lv) 2 (.int p_5.1))) ?_
                  refine ev_x (i := .iconst 1) (len := 1) (p' := 185) (s' := [.int 1, .int p_5.1]) rfl rfl rfl ?_
                  refine ev_x (i := .iadd) (len := 1) (p' := 186) (s' := [.int (p_5.1 + 1)]) rfl rfl rfl ?_
                  refine ev_x (i := .istore_n 1) (len := 1) (p' := 187) (s' := []) (l' := vz_s1 (vz_s1 (lv) 2 (.int p_5.1)) 1 (.int (p_5.1 + 1))) rfl rfl rfl ?_
                  refine ev_x (i := .goto (-149)) (len := 3) (p' := 38) (s' := []) rfl rfl rfl ?_
                  exact ih _ _ _ _ (vg_o (i := 1) (v := .int (p_5.1 + 1)) (vg_o (i := 2) (v := .int p_5.1) g_0 (by decide) (Or.inl rfl)) (by decide) (Or.inl rfl)) (vg_s (vz_s1 (lv) 2 (.int p_5.1)) 1 (.int (p_5.1 + 1))) (nb_s1 (nb_s1 hnb rfl) rfl) ((congrFun (congrFun e_18 66) 2).trans ((congrFun (congrFun e_6 66) 2).trans ((congrFun (congrFun e_5 66) 2).trans ((congrFun (congrFun e_3 66) 2).trans hr_66_2)))) ((congrFun (congrFun e_18 66) 10).trans ((congrFun (congrFun e_6 66) 10).trans ((congrFun (congrFun e_5 66) 10).trans ((congrFun (congrFun e_3 66) 10).trans hr_66_10)))) H
      · refine ev_b0 (t := 190) (p' := 190) rfl rfl rfl (if_pos c_2) ?_
        exact J_160_190_ok (d := d) (Or.inr rfl) hx g_0 g_1 hnb hr_66_2 hr_66_10 H
/-- GameTextModel.items()V -/
def F_160 (N : Nat) (g : Nat) (x : Nat) (σ : st_S) : Option (st_S) :=
  (F_161 N g (σ)).bind fun p_1 =>
  L_160 N g x N 0 (st_i (st_i (st_i (st_i (p_1) 151 1 0) 153 1 0) 155 1 0) 66 16 0)
set_option maxRecDepth 100000 in
theorem F_160_R {N : Nat} {g : Nat} {x : Nat} {σ : st_S} {p : st_S} (H : F_160 N g x σ = some p) : gR p = gR σ := by
  unfold F_160 at H
  obtain ⟨p_1, G_1, H⟩ := F_bd H
  exact (((L_160_R _ _ _ _ H)).trans ((F_161_R G_1).trans rfl))
set_option maxHeartbeats 4000000 in
set_option maxRecDepth 100000 in
theorem F_160_ok {N d : Nat} {g : Nat} (hg : g = 79 ∨ g = 115) {x : Nat} (hx : x = 67 ∨ x = 69) {σ : st_S} {p : st_S} (hr_66_2 : gR σ 66 2 = x) (hr_66_10 : gR σ 66 10 = g) (H : F_160 N g x σ = some p) : vz_ev P0 (d + 12) 160 0 (lv_args 0 [.ref 66]) [] (hp σ) (.inl none, hp p) := by
  unfold F_160 at H
  rcases hg with rfl | rfl
  · refine ev_x (i := .aload_n 0) (len := 1) (p' := 1) (s' := [.ref 66]) rfl rfl rfl ?_
    refine ev_gr (p' := 4) (v := 79) rfl rfl rfl ly_66 rfl rfl hr_66_10 ?_
    obtain ⟨p_1, G_1, H⟩ := F_bd H
    refine ev_cv (d := d + 11) (As := []) (a := 79) (p' := 7) rfl rfl rfl ly_79 rfl rfl rfl rfl rfl rfl rfl (F_161_ok (d := d + 10) (hg := (Or.inl rfl))  G_1) ?_
    refine ev_st (st' := []) rfl ?_
    have e_1 := F_161_R G_1
    refine ev_x (i := .aload_n 0) (len := 1) (p' := 8) (s' := [.ref 66]) rfl rfl rfl ?_
    refine ev_gc (p' := 11) (v := 151) rfl rfl rfl ly_66 rfl rfl ?_
    refine ev_x (i := .iconst 0) (len := 1) (p' := 12) (s' := [.int 0, .ref 151]) rfl rfl rfl ?_
    refine ev_pi (p' := 15) rfl rfl rfl ly_151 rfl rfl rfl rfl ?_
    refine ev_x (i := .aload_n 0) (len := 1) (p' := 16) (s' := [.ref 66]) rfl rfl rfl ?_
    refine ev_gc (p' := 19) (v := 153) rfl rfl rfl ly_66 rfl rfl ?_
    refine ev_x (i := .iconst 0) (len := 1) (p' := 20) (s' := [.int 0, .ref 153]) rfl rfl rfl ?_
    refine ev_pi (p' := 23) rfl rfl rfl ly_153 rfl rfl rfl rfl ?_
    refine ev_x (i := .aload_n 0) (len := 1) (p' := 24) (s' := [.ref 66]) rfl rfl rfl ?_
    refine ev_gc (p' := 27) (v := 155) rfl rfl rfl ly_66 rfl rfl ?_
    refine ev_x (i := .iconst 0) (len := 1) (p' := 28) (s' := [.int 0, .ref 155]) rfl rfl rfl ?_
    refine ev_pi (p' := 31) rfl rfl rfl ly_155 rfl rfl rfl rfl ?_
    refine ev_x (i := .aload_n 0) (len := 1) (p' := 32) (s' := [.ref 66]) rfl rfl rfl ?_
    refine ev_x (i := .iconst 0) (len := 1) (p' := 33) (s' := [.int 0, .ref 66]) rfl rfl rfl ?_
    refine ev_pi (p' := 36) rfl rfl rfl ly_66 rfl rfl rfl rfl ?_
    refine ev_x (i := .iconst 0) (len := 1) (p' := 37) (s' := [.int 0]) rfl rfl rfl ?_
    refine ev_x (i := .istore_n 1) (len := 1) (p' := 38) (s' := []) (l' := [(1, .int 0), (0, .ref 66)]) rfl rfl rfl ?_
    exact (L_160_ok (d := d) (Or.inl rfl) hx N) _ _ _ _ rfl rfl rfl ((congrFun (congrFun e_1 66) 2).trans hr_66_2) ((congrFun (congrFun e_1 66) 10).trans hr_66_10) H
  · refine ev_x (i := .aload_n 0) (len := 1) (p' := 1) (s' := [.ref 66]) rfl rfl rfl ?_
    refine ev_gr (p' := 4) (v := 115) rfl rfl rfl ly_66 rfl rfl hr_66_10 ?_
    obtain ⟨p_1, G_1, H⟩ := F_bd H
    refine ev_cv (d := d + 11) (As := []) (a := 115) (p' := 7) rfl rfl rfl ly_115 rfl rfl rfl rfl rfl rfl rfl (F_161_ok (d := d + 10) (hg := (Or.inr rfl))  G_1) ?_
    refine ev_st (st' := []) rfl ?_
    have e_1 := F_161_R G_1
    refine ev_x (i := .aload_n 0) (len := 1) (p' := 8) (s' := [.ref 66]) rfl rfl rfl ?_
    refine ev_gc (p' := 11) (v := 151) rfl rfl rfl ly_66 rfl rfl ?_
    refine ev_x (i := .iconst 0) (len := 1) (p' := 12) (s' := [.int 0, .ref 151]) rfl rfl rfl ?_
    refine ev_pi (p' := 15) rfl rfl rfl ly_151 rfl rfl rfl rfl ?_
    refine ev_x (i := .aload_n 0) (len := 1) (p' := 16) (s' := [.ref 66]) rfl rfl rfl ?_
    refine ev_gc (p' := 19) (v := 153) rfl rfl rfl ly_66 rfl rfl ?_
    refine ev_x (i := .iconst 0) (len := 1) (p' := 20) (s' := [.int 0, .ref 153]) rfl rfl rfl ?_
    refine ev_pi (p' := 23) rfl rfl rfl ly_153 rfl rfl rfl rfl ?_
    refine ev_x (i := .aload_n 0) (len := 1) (p' := 24) (s' := [.ref 66]) rfl rfl rfl ?_
    refine ev_gc (p' := 27) (v := 155) rfl rfl rfl ly_66 rfl rfl ?_
    refine ev_x (i := .iconst 0) (len := 1) (p' := 28) (s' := [.int 0, .ref 155]) rfl rfl rfl ?_
    refine ev_pi (p' := 31) rfl rfl rfl ly_155 rfl rfl rfl rfl ?_
    refine ev_x (i := .aload_n 0) (len := 1) (p' := 32) (s' := [.ref 66]) rfl rfl rfl ?_
    refine ev_x (i := .iconst 0) (len := 1) (p' := 33) (s' := [.int 0, .ref 66]) rfl rfl rfl ?_
    refine ev_pi (p' := 36) rfl rfl rfl ly_66 rfl rfl rfl rfl ?_
    refine ev_x (i := .iconst 0) (len := 1) (p' := 37) (s' := [.int 0]) rfl rfl rfl ?_
    refine ev_x (i := .istore_n 1) (len := 1) (p' := 38) (s' := []) (l' := [(1, .int 0), (0, .ref 66)]) rfl rfl rfl ?_
    exact (L_160_ok (d := d) (Or.inr rfl) hx N) _ _ _ _ rfl rfl rfl ((congrFun (congrFun e_1 66) 2).trans hr_66_2) ((congrFun (congrFun e_1 66) 10).trans hr_66_10) H
