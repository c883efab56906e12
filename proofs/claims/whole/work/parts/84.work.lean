/-! methods as functions of the store. Written by wip/prog/dec2.py, gen_all.py -/
/-- GameTextModel.todo(II)V -/
def F_186 (N : Nat) (x_1 : Int32) (x_2 : Int32) (σ : st_S) : Option (st_S) :=
  (N_133 N 165 x_1 (σ)).bind fun p_1 =>
  (N_133 N 165 x_2 (p_1)).bind fun p_2 =>
  some (p_2)
set_option maxRecDepth 100000 in
theorem F_186_R {N : Nat} {x_1 : Int32} {x_2 : Int32} {σ : st_S} {p : st_S} (H : F_186 N x_1 x_2 σ = some p) : gR p = gR σ := by
  unfold F_186 at H
  obtain ⟨p_1, G_1, H⟩ := F_bd H
  obtain ⟨p_2, G_2, H⟩ := F_bd H
  obtain rfl := Option.some.inj H
  exact ((N_133_R G_2).trans ((N_133_R G_1).trans rfl))
set_option maxHeartbeats 4000000 in
set_option maxRecDepth 100000 in
theorem F_186_ok {N d : Nat} {x_1 : Int32} {x_2 : Int32} {σ : st_S} {p : st_S}  (H : F_186 N x_1 x_2 σ = some p) : vz_ev P0 (d + 2) 186 0 (lv_args 0 [.ref 66, .int x_1, .int x_2]) [] (hp σ) (.inl none, hp p) := by
  unfold F_186 at H
  refine ev_x (i := .aload_n 0) (len := 1) (p' := 1) (s' := [.ref 66]) rfl rfl rfl ?_
  refine ev_gc (p' := 4) (v := 165) rfl rfl rfl ly_66 rfl rfl ?_
  refine ev_x (i := .iload_n 1) (len := 1) (p' := 5) (s' := [.int x_1, .ref 165]) rfl rfl rfl ?_
  obtain ⟨p_1, G_1, H⟩ := F_bd H
  refine ev_cv (d := d + 1) (As := [.int x_1]) (a := 165) (p' := 8) rfl rfl rfl ly_165 rfl rfl rfl rfl rfl rfl rfl (N_133_ok (d := d + 0) nm_165 G_1) ?_
  refine ev_st (st' := []) rfl ?_
  have e_1 := N_133_R G_1
  refine ev_x (i := .aload_n 0) (len := 1) (p' := 9) (s' := [.ref 66]) rfl rfl rfl ?_
  refine ev_gc (p' := 12) (v := 165) rfl rfl rfl ly_66 rfl rfl ?_
  refine ev_x (i := .iload_n 2) (len := 1) (p' := 13) (s' := [.int x_2, .ref 165]) rfl rfl rfl ?_
  obtain ⟨p_2, G_2, H⟩ := F_bd H
  refine ev_cv (d := d + 1) (As := [.int x_2]) (a := 165) (p' := 16) rfl rfl rfl ly_165 rfl rfl rfl rfl rfl rfl rfl (N_133_ok (d := d + 0) nm_165 G_2) ?_
  refine ev_st (st' := []) rfl ?_
  have e_2 := N_133_R G_2
  obtain rfl := Option.some.inj H
  exact ev_vret rfl rfl rfl
/-- GameTextModel.push(JJ)V -/
def F_188 (N : Nat) (x_1 : Int64) (x_3 : Int64) (σ : st_S) : Option (st_S) :=
  if aB (gI σ 66 23) (gN σ 163) then
  if aB (gI σ 66 23) (gN σ 164) then
  some (st_i (st_E (st_E (σ) 163 (((gI σ 66 23) : Int32).toNatClampNeg) x_1) 164 (((gI σ 66 23) : Int32).toNatClampNeg) x_3) 66 23 ((gI σ 66 23) + 1))
  else none
  else none
set_option maxRecDepth 100000 in
theorem F_188_R {N : Nat} {x_1 : Int64} {x_3 : Int64} {σ : st_S} {p : st_S} (H : F_188 N x_1 x_3 σ = some p) : gR p = gR σ := by
  unfold F_188 at H
  obtain ⟨_, H⟩ := F_gd H
  obtain ⟨_, H⟩ := F_gd H
  obtain rfl := Option.some.inj H
  exact rfl
set_option maxHeartbeats 4000000 in
set_option maxRecDepth 100000 in
theorem F_188_ok {N d : Nat} {x_1 : Int64} {x_3 : Int64} {σ : st_S} {p : st_S}  (H : F_188 N x_1 x_3 σ = some p) : vz_ev P0 (d + 1) 188 0 (lv_args 0 [.ref 66, .long x_1, .long x_3]) [] (hp σ) (.inl none, hp p) := by
  unfold F_188 at H
  refine ev_x (i := .aload_n 0) (len := 1) (p' := 1) (s' := [.ref 66]) rfl rfl rfl ?_
  refine ev_gc (p' := 4) (v := 163) rfl rfl rfl ly_66 rfl rfl ?_
  refine ev_x (i := .aload_n 0) (len := 1) (p' := 5) (s' := [.ref 66, .ref 163]) rfl rfl rfl ?_
  refine ev_gi (p' := 8) (v := (gI σ 66 23)) rfl rfl rfl ly_66 rfl rfl rfl ?_
  refine ev_x (i := .lload_n 1) (len := 1) (p' := 9) (s' := [.long x_1, .int (gI σ 66 23), .ref 163]) rfl rfl rfl ?_
  obtain ⟨b_1, H⟩ := F_gd H
  refine ev_pL (j := ((gI σ 66 23) : Int32).toNatClampNeg) (p' := 10) rfl rfl ly_163 rfl (gd_in b_1) rfl ?_
  refine ev_x (i := .aload_n 0) (len := 1) (p' := 11) (s' := [.ref 66]) rfl rfl rfl ?_
  refine ev_gc (p' := 14) (v := 164) rfl rfl rfl ly_66 rfl rfl ?_
  refine ev_x (i := .aload_n 0) (len := 1) (p' := 15) (s' := [.ref 66, .ref 164]) rfl rfl rfl ?_
  refine ev_gi (p' := 18) (v := (gI σ 66 23)) rfl rfl rfl ly_66 rfl rfl rfl ?_
  refine ev_x (i := .lload_n 3) (len := 1) (p' := 19) (s' := [.long x_3, .int (gI σ 66 23), .ref 164]) rfl rfl rfl ?_
  obtain ⟨b_2, H⟩ := F_gd H
  refine ev_pL (j := ((gI σ 66 23) : Int32).toNatClampNeg) (p' := 20) rfl rfl ly_164 rfl (gd_in b_2) rfl ?_
  refine ev_x (i := .aload_n 0) (len := 1) (p' := 21) (s' := [.ref 66]) rfl rfl rfl ?_
  refine ev_x (i := .aload_n 0) (len := 1) (p' := 22) (s' := [.ref 66, .ref 66]) rfl rfl rfl ?_
  refine ev_gi (p' := 25) (v := (gI σ 66 23)) rfl rfl rfl ly_66 rfl rfl rfl ?_
  refine ev_x (i := .iconst 1) (len := 1) (p' := 26) (s' := [.int 1, .int (gI σ 66 23), .ref 66]) rfl rfl rfl ?_
  refine ev_x (i := .iadd) (len := 1) (p' := 27) (s' := [.int ((gI σ 66 23) + 1), .ref 66]) rfl rfl rfl ?_
  refine ev_pi (p' := 30) rfl rfl rfl ly_66 rfl rfl rfl rfl ?_
  obtain rfl := Option.some.inj H
  exact ev_vret rfl rfl rfl
/-- GameTextModel.pushTruth(Z)V -/
def F_189 (N : Nat) (x_1 : Int32) (σ : st_S) : Option (st_S) :=
  (F_188 N (if x_1 = 0 then 0 else 1 : Int64) 0 (σ)).bind fun p_2 =>
  some (p_2)
set_option maxRecDepth 100000 in
theorem F_189_R {N : Nat} {x_1 : Int32} {σ : st_S} {p : st_S} (H : F_189 N x_1 σ = some p) : gR p = gR σ := by
  unfold F_189 at H
  obtain ⟨p_2, G_2, H⟩ := F_bd H
  obtain rfl := Option.some.inj H
  exact ((F_188_R G_2).trans rfl)
set_option maxHeartbeats 4000000 in
set_option maxRecDepth 100000 in
theorem F_189_ok {N d : Nat} {x_1 : Int32} {σ : st_S} {p : st_S}  (H : F_189 N x_1 σ = some p) : vz_ev P0 (d + 2) 189 0 (lv_args 0 [.ref 66, .int x_1]) [] (hp σ) (.inl none, hp p) := by
  unfold F_189 at H
  refine ev_x (i := .aload_n 0) (len := 1) (p' := 1) (s' := [.ref 66]) rfl rfl rfl ?_
  refine ev_x (i := .iload_n 1) (len := 1) (p' := 2) (s' := [.int x_1, .ref 66]) rfl rfl rfl ?_
  refine F_jn (A := vz_ev P0 (d + 2) 189 10 [(0, .ref 66), (1, .int x_1)] [.long (if x_1 = 0 then 0 else 1 : Int64), .ref 66] (hp (σ)) (.inl none, hp p)) ?_ (fun J => ?_)
  · refine ev_x (i := .lconst 0) (len := 1) (p' := 11) (s' := [.long 0, .long (if x_1 = 0 then 0 else 1 : Int64), .ref 66]) rfl rfl rfl ?_
    obtain ⟨p_2, G_2, H⟩ := F_bd H
    refine ev_cv (d := d + 1) (As := [.long (if x_1 = 0 then 0 else 1 : Int64), .long 0]) (a := 66) (p' := 14) rfl rfl rfl ly_66 rfl rfl rfl rfl rfl rfl rfl (F_188_ok (d := d + 0)   G_2) ?_
    refine ev_st (st' := []) rfl ?_
    have e_2 := F_188_R G_2
    obtain rfl := Option.some.inj H
    exact ev_vret rfl rfl rfl
  · by_cases c_1 : x_1 = 0
    · refine ev_b0 (t := 9) (p' := 9) rfl rfl rfl (if_pos c_1) ?_
      refine ev_x (i := .lconst 0) (len := 1) (p' := 10) (s' := [.long 0, .ref 66]) rfl rfl rfl ?_
      exact ev_st (congrArg (fun z => Value.long z :: [.ref 66]) (by rw [if_pos c_1])) J
    · refine ev_b0 (t := 9) (p' := 5) rfl rfl rfl (if_neg c_1) ?_
      refine ev_x (i := .lconst 1) (len := 1) (p' := 6) (s' := [.long 1, .ref 66]) rfl rfl rfl ?_
      refine ev_x (i := .goto 4) (len := 3) (p' := 10) (s' := [.long 1, .ref 66]) rfl rfl rfl ?_
      exact ev_st (congrArg (fun z => Value.long z :: [.ref 66]) (by rw [if_neg c_1])) J
/-- GameTextModel.name(LGameTextModel$Game;I)V -/
def F_190 (N : Nat) (g : Nat) (x_2 : Int32) (σ : st_S) : Option (st_S) :=
  if x_2 < 100 then
    if aB x_2 (gN σ (g + 13)) then
    if (gE (σ) (g + 13) (x_2 : Int32).toNatClampNeg) = 0 then
      if aB x_2 (gN σ (g + 16)) then
      if aB x_2 (gN σ (g + 17)) then
      (F_188 N (gL (σ) (g + 16) (x_2 : Int32).toNatClampNeg) (gL (σ) (g + 17) (x_2 : Int32).toNatClampNeg) (σ)).bind fun p_6 =>
      some (p_6)
      else none
      else none
    else
      if aB x_2 (gN σ 168) then
      if (gE (σ) 168 (x_2 : Int32).toNatClampNeg) = 0 then
        (F_186 N 3 x_2 (σ)).bind fun p_9 =>
        if aB x_2 (gN p_9 (g + 15)) then
        (F_186 N 0 (gE (p_9) (g + 15) (x_2 : Int32).toNatClampNeg) (p_9)).bind fun p_11 =>
        some (p_11)
        else none
      else
        if aB x_2 (gN σ 169) then
        if aB x_2 (gN σ 170) then
        (F_188 N (gL (σ) 169 (x_2 : Int32).toNatClampNeg) (gL (σ) 170 (x_2 : Int32).toNatClampNeg) (σ)).bind fun p_14 =>
        some (p_14)
        else none
        else none
      else none
    else none
  else
    if aB (x_2 - 100) (gN σ 167) then
    if aB (x_2 - 100) (gN σ (g + 18)) then
    (F_188 N ((gE (σ) 167 ((x_2 - 100) : Int32).toNatClampNeg) : Int32).toInt64 (if (gE (σ) (g + 18) ((x_2 - 100) : Int32).toNatClampNeg) = 0 then 1 else 0 : Int64) (σ)).bind fun p_18 =>
    some (p_18)
    else none
    else none
set_option maxRecDepth 100000 in
theorem F_190_R {N : Nat} {g : Nat} {x_2 : Int32} {σ : st_S} {p : st_S} (H : F_190 N g x_2 σ = some p) : gR p = gR σ := by
  unfold F_190 at H
  refine F_if H (fun _ H => ?_) (fun _ H => ?_)
  · obtain ⟨_, H⟩ := F_gd H
    refine F_if H (fun _ H => ?_) (fun _ H => ?_)
    · obtain ⟨_, H⟩ := F_gd H
      obtain ⟨_, H⟩ := F_gd H
      obtain ⟨p_6, G_6, H⟩ := F_bd H
      obtain rfl := Option.some.inj H
      exact ((F_188_R G_6).trans rfl)
    · obtain ⟨_, H⟩ := F_gd H
      refine F_if H (fun _ H => ?_) (fun _ H => ?_)
      · obtain ⟨p_9, G_9, H⟩ := F_bd H
        obtain ⟨_, H⟩ := F_gd H
        obtain ⟨p_11, G_11, H⟩ := F_bd H
        obtain rfl := Option.some.inj H
        exact ((F_186_R G_11).trans ((F_186_R G_9).trans rfl))
      · obtain ⟨_, H⟩ := F_gd H
        obtain ⟨_, H⟩ := F_gd H
        obtain ⟨p_14, G_14, H⟩ := F_bd H
        obtain rfl := Option.some.inj H
        exact ((F_188_R G_14).trans rfl)
  · obtain ⟨_, H⟩ := F_gd H
    obtain ⟨_, H⟩ := F_gd H
    obtain ⟨p_18, G_18, H⟩ := F_bd H
    obtain rfl := Option.some.inj H
    exact ((F_188_R G_18).trans rfl)
set_option maxHeartbeats 4000000 in
set_option maxRecDepth 100000 in
theorem F_190_ok {N d : Nat} {g : Nat} (hg : g = 79 ∨ g = 115) {x_2 : Int32} {σ : st_S} {p : st_S}  (H : F_190 N g x_2 σ = some p) : vz_ev P0 (d + 3) 190 0 (lv_args 0 [.ref 66, .ref g, .int x_2]) [] (hp σ) (.inl none, hp p) := by
  unfold F_190 at H
  rcases hg with rfl | rfl
  · refine ev_x (i := .iload_n 2) (len := 1) (p' := 1) (s' := [.int x_2]) rfl rfl rfl ?_
    refine ev_x (i := .bipush 100) (len := 2) (p' := 3) (s' := [.int 100, .int x_2]) rfl rfl rfl ?_
    refine F_if H (fun c_1 H => ?_) (fun c_1 H => ?_)
    · refine ev_b2 (t := 39) (p' := 39) rfl rfl rfl (if_pos c_1) ?_
      refine ev_x (i := .aload_n 1) (len := 1) (p' := 40) (s' := [.ref 79]) rfl rfl rfl ?_
      refine ev_gc (p' := 43) (v := 92) rfl rfl rfl ly_79 rfl rfl ?_
      refine ev_x (i := .iload_n 2) (len := 1) (p' := 44) (s' := [.int x_2, .ref 92]) rfl rfl rfl ?_
      obtain ⟨b_2, H⟩ := F_gd H
      refine ev_gb (p' := 45) (v := (gE (σ) 92 (x_2 : Int32).toNatClampNeg)) rfl rfl ly_92 rfl (gd_in b_2) rfl ?_
      refine F_if H (fun c_3 H => ?_) (fun c_3 H => ?_)
      · refine ev_b0 (t := 67) (p' := 48) rfl rfl rfl (if_neg (fun q => q c_3)) ?_
        refine ev_x (i := .aload_n 0) (len := 1) (p' := 49) (s' := [.ref 66]) rfl rfl rfl ?_
        refine ev_x (i := .aload_n 1) (len := 1) (p' := 50) (s' := [.ref 79, .ref 66]) rfl rfl rfl ?_
        refine ev_gc (p' := 53) (v := 95) rfl rfl rfl ly_79 rfl rfl ?_
        refine ev_x (i := .iload_n 2) (len := 1) (p' := 54) (s' := [.int x_2, .ref 95, .ref 66]) rfl rfl rfl ?_
        obtain ⟨b_4, H⟩ := F_gd H
        refine ev_gL (p' := 55) (v := (gL (σ) 95 (x_2 : Int32).toNatClampNeg)) rfl rfl ly_95 rfl (gd_in b_4) rfl ?_
        refine ev_x (i := .aload_n 1) (len := 1) (p' := 56) (s' := [.ref 79, .long (gL (σ) 95 (x_2 : Int32).toNatClampNeg), .ref 66]) rfl rfl rfl ?_
        refine ev_gc (p' := 59) (v := 96) rfl rfl rfl ly_79 rfl rfl ?_
        refine ev_x (i := .iload_n 2) (len := 1) (p' := 60) (s' := [.int x_2, .ref 96, .long (gL (σ) 95 (x_2 : Int32).toNatClampNeg), .ref 66]) rfl rfl rfl ?_
        obtain ⟨b_5, H⟩ := F_gd H
        refine ev_gL (p' := 61) (v := (gL (σ) 96 (x_2 : Int32).toNatClampNeg)) rfl rfl ly_96 rfl (gd_in b_5) rfl ?_
        obtain ⟨p_6, G_6, H⟩ := F_bd H
        refine ev_cv (d := d + 2) (As := [.long (gL (σ) 95 (x_2 : Int32).toNatClampNeg), .long (gL (σ) 96 (x_2 : Int32).toNatClampNeg)]) (a := 66) (p' := 64) rfl rfl rfl ly_66 rfl rfl rfl rfl rfl rfl rfl (F_188_ok (d := d + 1)   G_6) ?_
        refine ev_st (st' := []) rfl ?_
        have e_6 := F_188_R G_6
        refine ev_x (i := .goto 48) (len := 3) (p' := 112) (s' := []) rfl rfl rfl ?_
        obtain rfl := Option.some.inj H
        exact ev_vret rfl rfl rfl
      · refine ev_b0 (t := 67) (p' := 67) rfl rfl rfl (if_pos c_3) ?_
        refine ev_x (i := .aload_n 0) (len := 1) (p' := 68) (s' := [.ref 66]) rfl rfl rfl ?_
        refine ev_gc (p' := 71) (v := 168) rfl rfl rfl ly_66 rfl rfl ?_
        refine ev_x (i := .iload_n 2) (len := 1) (p' := 72) (s' := [.int x_2, .ref 168]) rfl rfl rfl ?_
        obtain ⟨b_7, H⟩ := F_gd H
        refine ev_gb (p' := 73) (v := (gE (σ) 168 (x_2 : Int32).toNatClampNeg)) rfl rfl ly_168 rfl (gd_in b_7) rfl ?_
        refine F_if H (fun c_8 H => ?_) (fun c_8 H => ?_)
        · refine ev_b0 (t := 95) (p' := 95) rfl rfl rfl (if_pos c_8) ?_
          refine ev_x (i := .aload_n 0) (len := 1) (p' := 96) (s' := [.ref 66]) rfl rfl rfl ?_
          refine ev_x (i := .iconst 3) (len := 1) (p' := 97) (s' := [.int 3, .ref 66]) rfl rfl rfl ?_
          refine ev_x (i := .iload_n 2) (len := 1) (p' := 98) (s' := [.int x_2, .int 3, .ref 66]) rfl rfl rfl ?_
          obtain ⟨p_9, G_9, H⟩ := F_bd H
          refine ev_cv (d := d + 2) (As := [.int 3, .int x_2]) (a := 66) (p' := 101) rfl rfl rfl ly_66 rfl rfl rfl rfl rfl rfl rfl (F_186_ok (d := d + 0)   G_9) ?_
          refine ev_st (st' := []) rfl ?_
          have e_9 := F_186_R G_9
          refine ev_x (i := .aload_n 0) (len := 1) (p' := 102) (s' := [.ref 66]) rfl rfl rfl ?_
          refine ev_x (i := .iconst 0) (len := 1) (p' := 103) (s' := [.int 0, .ref 66]) rfl rfl rfl ?_
          refine ev_x (i := .aload_n 1) (len := 1) (p' := 104) (s' := [.ref 79, .int 0, .ref 66]) rfl rfl rfl ?_
          refine ev_gc (p' := 107) (v := 94) rfl rfl rfl ly_79 rfl rfl ?_
          refine ev_x (i := .iload_n 2) (len := 1) (p' := 108) (s' := [.int x_2, .ref 94, .int 0, .ref 66]) rfl rfl rfl ?_
          obtain ⟨b_10, H⟩ := F_gd H
          refine ev_ga (p' := 109) (v := (gE (p_9) 94 (x_2 : Int32).toNatClampNeg)) rfl rfl ly_94 rfl (gd_in b_10) rfl ?_
          obtain ⟨p_11, G_11, H⟩ := F_bd H
          refine ev_cv (d := d + 2) (As := [.int 0, .int (gE (p_9) 94 (x_2 : Int32).toNatClampNeg)]) (a := 66) (p' := 112) rfl rfl rfl ly_66 rfl rfl rfl rfl rfl rfl rfl (F_186_ok (d := d + 0)   G_11) ?_
          refine ev_st (st' := []) rfl ?_
          have e_11 := F_186_R G_11
          obtain rfl := Option.some.inj H
          exact ev_vret rfl rfl rfl
        · refine ev_b0 (t := 95) (p' := 76) rfl rfl rfl (if_neg c_8) ?_
          refine ev_x (i := .aload_n 0) (len := 1) (p' := 77) (s' := [.ref 66]) rfl rfl rfl ?_
          refine ev_x (i := .aload_n 0) (len := 1) (p' := 78) (s' := [.ref 66, .ref 66]) rfl rfl rfl ?_
          refine ev_gc (p' := 81) (v := 169) rfl rfl rfl ly_66 rfl rfl ?_
          refine ev_x (i := .iload_n 2) (len := 1) (p' := 82) (s' := [.int x_2, .ref 169, .ref 66]) rfl rfl rfl ?_
          obtain ⟨b_12, H⟩ := F_gd H
          refine ev_gL (p' := 83) (v := (gL (σ) 169 (x_2 : Int32).toNatClampNeg)) rfl rfl ly_169 rfl (gd_in b_12) rfl ?_
          refine ev_x (i := .aload_n 0) (len := 1) (p' := 84) (s' := [.ref 66, .long (gL (σ) 169 (x_2 : Int32).toNatClampNeg), .ref 66]) rfl rfl rfl ?_
          refine ev_gc (p' := 87) (v := 170) rfl rfl rfl ly_66 rfl rfl ?_
          refine ev_x (i := .iload_n 2) (len := 1) (p' := 88) (s' := [.int x_2, .ref 170, .long (gL (σ) 169 (x_2 : Int32).toNatClampNeg), .ref 66]) rfl rfl rfl ?_
          obtain ⟨b_13, H⟩ := F_gd H
          refine ev_gL (p' := 89) (v := (gL (σ) 170 (x_2 : Int32).toNatClampNeg)) rfl rfl ly_170 rfl (gd_in b_13) rfl ?_
          obtain ⟨p_14, G_14, H⟩ := F_bd H
          refine ev_cv (d := d + 2) (As := [.long (gL (σ) 169 (x_2 : Int32).toNatClampNeg), .long (gL (σ) 170 (x_2 : Int32).toNatClampNeg)]) (a := 66) (p' := 92) rfl rfl rfl ly_66 rfl rfl rfl rfl rfl rfl rfl (F_188_ok (d := d + 1)   G_14) ?_
          refine ev_st (st' := []) rfl ?_
          have e_14 := F_188_R G_14
          refine ev_x (i := .goto 20) (len := 3) (p' := 112) (s' := []) rfl rfl rfl ?_
          obtain rfl := Option.some.inj H
          exact ev_vret rfl rfl rfl
    · refine ev_b2 (t := 39) (p' := 6) rfl rfl rfl (if_neg c_1) ?_
      refine ev_x (i := .iload_n 2) (len := 1) (p' := 7) (s' := [.int x_2]) rfl rfl rfl ?_
      refine ev_x (i := .bipush 100) (len := 2) (p' := 9) (s' := [.int 100, .int x_2]) rfl rfl rfl ?_
      refine ev_x (i := .isub) (len := 1) (p' := 10) (s' := [.int (x_2 - 100)]) rfl rfl rfl ?_
      refine ev_x (i := .istore_n 3) (len := 1) (p' := 11) (s' := []) (l' := [(3, .int (x_2 - 100)), (0, .ref 66), (1, .ref 79), (2, .int x_2)]) rfl rfl rfl ?_
      refine ev_x (i := .aload_n 0) (len := 1) (p' := 12) (s' := [.ref 66]) rfl rfl rfl ?_
      refine ev_x (i := .aload_n 0) (len := 1) (p' := 13) (s' := [.ref 66, .ref 66]) rfl rfl rfl ?_
      refine ev_gc (p' := 16) (v := 167) rfl rfl rfl ly_66 rfl rfl ?_
      refine ev_x (i := .iload_n 3) (len := 1) (p' := 17) (s' := [.int (x_2 - 100), .ref 167, .ref 66]) rfl rfl rfl ?_
      obtain ⟨b_15, H⟩ := F_gd H
      refine ev_ga (p' := 18) (v := (gE (σ) 167 ((x_2 - 100) : Int32).toNatClampNeg)) rfl rfl ly_167 rfl (gd_in b_15) rfl ?_
      refine ev_x (i := .i2l) (len := 1) (p' := 19) (s' := [.long ((gE (σ) 167 ((x_2 - 100) : Int32).toNatClampNeg) : Int32).toInt64, .ref 66]) rfl rfl rfl ?_
      refine ev_x (i := .aload_n 1) (len := 1) (p' := 20) (s' := [.ref 79, .long ((gE (σ) 167 ((x_2 - 100) : Int32).toNatClampNeg) : Int32).toInt64, .ref 66]) rfl rfl rfl ?_
      refine ev_gc (p' := 23) (v := 97) rfl rfl rfl ly_79 rfl rfl ?_
      refine ev_x (i := .iload_n 3) (len := 1) (p' := 24) (s' := [.int (x_2 - 100), .ref 97, .long ((gE (σ) 167 ((x_2 - 100) : Int32).toNatClampNeg) : Int32).toInt64, .ref 66]) rfl rfl rfl ?_
      obtain ⟨b_16, H⟩ := F_gd H
      refine ev_gb (p' := 25) (v := (gE (σ) 97 ((x_2 - 100) : Int32).toNatClampNeg)) rfl rfl ly_97 rfl (gd_in b_16) rfl ?_
      refine F_jn (A := vz_ev P0 (d + 3) 190 33 [(3, .int (x_2 - 100)), (0, .ref 66), (1, .ref 79), (2, .int x_2)] [.long (if (gE (σ) 97 ((x_2 - 100) : Int32).toNatClampNeg) = 0 then 1 else 0 : Int64), .long ((gE (σ) 167 ((x_2 - 100) : Int32).toNatClampNeg) : Int32).toInt64, .ref 66] (hp (σ)) (.inl none, hp p)) ?_ (fun J => ?_)
      · obtain ⟨p_18, G_18, H⟩ := F_bd H
        refine ev_cv (d := d + 2) (As := [.long ((gE (σ) 167 ((x_2 - 100) : Int32).toNatClampNeg) : Int32).toInt64, .long (if (gE (σ) 97 ((x_2 - 100) : Int32).toNatClampNeg) = 0 then 1 else 0 : Int64)]) (a := 66) (p' := 36) rfl rfl rfl ly_66 rfl rfl rfl rfl rfl rfl rfl (F_188_ok (d := d + 1)   G_18) ?_
        refine ev_st (st' := []) rfl ?_
        have e_18 := F_188_R G_18
        refine ev_x (i := .goto 76) (len := 3) (p' := 112) (s' := []) rfl rfl rfl ?_
        obtain rfl := Option.some.inj H
        exact ev_vret rfl rfl rfl
      · by_cases c_17 : (gE (σ) 97 ((x_2 - 100) : Int32).toNatClampNeg) = 0
        · refine ev_b0 (t := 32) (p' := 32) rfl rfl rfl (if_pos c_17) ?_
          refine ev_x (i := .lconst 1) (len := 1) (p' := 33) (s' := [.long 1, .long ((gE (σ) 167 ((x_2 - 100) : Int32).toNatClampNeg) : Int32).toInt64, .ref 66]) rfl rfl rfl ?_
          exact ev_st (congrArg (fun z => Value.long z :: [.long ((gE (σ) 167 ((x_2 - 100) : Int32).toNatClampNeg) : Int32).toInt64, .ref 66]) (by rw [if_pos c_17])) J
        · refine ev_b0 (t := 32) (p' := 28) rfl rfl rfl (if_neg c_17) ?_
          refine ev_x (i := .lconst 0) (len := 1) (p' := 29) (s' := [.long 0, .long ((gE (σ) 167 ((x_2 - 100) : Int32).toNatClampNeg) : Int32).toInt64, .ref 66]) rfl rfl rfl ?_
          refine ev_x (i := .goto 4) (len := 3) (p' := 33) (s' := [.long 0, .long ((gE (σ) 167 ((x_2 - 100) : Int32).toNatClampNeg) : Int32).toInt64, .ref 66]) rfl rfl rfl ?_
          exact ev_st (congrArg (fun z => Value.long z :: [.long ((gE (σ) 167 ((x_2 - 100) : Int32).toNatClampNeg) : Int32).toInt64, .ref 66]) (by rw [if_neg c_17])) J
  · refine ev_x (i := .iload_n 2) (len := 1) (p' := 1) (s' := [.int x_2]) rfl rfl rfl ?_
    refine ev_x (i := .bipush 100) (len := 2) (p' := 3) (s' := [.int 100, .int x_2]) rfl rfl rfl ?_
    refine F_if H (fun c_1 H => ?_) (fun c_1 H => ?_)
    · refine ev_b2 (t := 39) (p' := 39) rfl rfl rfl (if_pos c_1) ?_
      refine ev_x (i := .aload_n 1) (len := 1) (p' := 40) (s' := [.ref 115]) rfl rfl rfl ?_
      refine ev_gc (p' := 43) (v := 128) rfl rfl rfl ly_115 rfl rfl ?_
      refine ev_x (i := .iload_n 2) (len := 1) (p' := 44) (s' := [.int x_2, .ref 128]) rfl rfl rfl ?_
      obtain ⟨b_2, H⟩ := F_gd H
      refine ev_gb (p' := 45) (v := (gE (σ) 128 (x_2 : Int32).toNatClampNeg)) rfl rfl ly_128 rfl (gd_in b_2) rfl ?_
      refine F_if H (fun c_3 H => ?_) (fun c_3 H => ?_)
      · refine ev_b0 (t := 67) (p' := 48) rfl rfl rfl (if_neg (fun q => q c_3)) ?_
        refine ev_x (i := .aload_n 0) (len := 1) (p' := 49) (s' := [.ref 66]) rfl rfl rfl ?_
        refine ev_x (i := .aload_n 1) (len := 1) (p' := 50) (s' := [.ref 115, .ref 66]) rfl rfl rfl ?_
        refine ev_gc (p' := 53) (v := 131) rfl rfl rfl ly_115 rfl rfl ?_
        refine ev_x (i := .iload_n 2) (len := 1) (p' := 54) (s' := [.int x_2, .ref 131, .ref 66]) rfl rfl rfl ?_
        obtain ⟨b_4, H⟩ := F_gd H
        refine ev_gL (p' := 55) (v := (gL (σ) 131 (x_2 : Int32).toNatClampNeg)) rfl rfl ly_131 rfl (gd_in b_4) rfl ?_
        refine ev_x (i := .aload_n 1) (len := 1) (p' := 56) (s' := [.ref 115, .long (gL (σ) 131 (x_2 : Int32).toNatClampNeg), .ref 66]) rfl rfl rfl ?_
        refine ev_gc (p' := 59) (v := 132) rfl rfl rfl ly_115 rfl rfl ?_
        refine ev_x (i := .iload_n 2) (len := 1) (p' := 60) (s' := [.int x_2, .ref 132, .long (gL (σ) 131 (x_2 : Int32).toNatClampNeg), .ref 66]) rfl rfl rfl ?_
        obtain ⟨b_5, H⟩ := F_gd H
        refine ev_gL (p' := 61) (v := (gL (σ) 132 (x_2 : Int32).toNatClampNeg)) rfl rfl ly_132 rfl (gd_in b_5) rfl ?_
        obtain ⟨p_6, G_6, H⟩ := F_bd H
        refine ev_cv (d := d + 2) (As := [.long (gL (σ) 131 (x_2 : Int32).toNatClampNeg), .long (gL (σ) 132 (x_2 : Int32).toNatClampNeg)]) (a := 66) (p' := 64) rfl rfl rfl ly_66 rfl rfl rfl rfl rfl rfl rfl (F_188_ok (d := d + 1)   G_6) ?_
        refine ev_st (st' := []) rfl ?_
        have e_6 := F_188_R G_6
        refine ev_x (i := .goto 48) (len := 3) (p' := 112) (s' := []) rfl rfl rfl ?_
        obtain rfl := Option.some.inj H
        exact ev_vret rfl rfl rfl
      · refine ev_b0 (t := 67) (p' := 67) rfl rfl rfl (if_pos c_3) ?_
        refine ev_x (i := .aload_n 0) (len := 1) (p' := 68) (s' := [.ref 66]) rfl rfl rfl ?_
        refine ev_gc (p' := 71) (v := 168) rfl rfl rfl ly_66 rfl rfl ?_
        refine ev_x (i := .iload_n 2) (len := 1) (p' := 72) (s' := [.int x_2, .ref 168]) rfl rfl rfl ?_
        obtain ⟨b_7, H⟩ := F_gd H
        refine ev_gb (p' := 73) (v := (gE (σ) 168 (x_2 : Int32).toNatClampNeg)) rfl rfl ly_168 rfl (gd_in b_7) rfl ?_
        refine F_if H (fun c_8 H => ?_) (fun c_8 H => ?_)
        · refine ev_b0 (t := 95) (p' := 95) rfl rfl rfl (if_pos c_8) ?_
          refine ev_x (i := .aload_n 0) (len := 1) (p' := 96) (s' := [.ref 66]) rfl rfl rfl ?_
          refine ev_x (i := .iconst 3) (len := 1) (p' := 97) (s' := [.int 3, .ref 66]) rfl rfl rfl ?_
          refine ev_x (i := .iload_n 2) (len := 1) (p' := 98) (s' := [.int x_2, .int 3, .ref 66]) rfl rfl rfl ?_
          obtain ⟨p_9, G_9, H⟩ := F_bd H
          refine ev_cv (d := d + 2) (As := [.int 3, .int x_2]) (a := 66) (p' := 101) rfl rfl rfl ly_66 rfl rfl rfl rfl rfl rfl rfl (F_186_ok (d := d + 0)   G_9) ?_
          refine ev_st (st' := []) rfl ?_
          have e_9 := F_186_R G_9
          refine ev_x (i := .aload_n 0) (len := 1) (p' := 102) (s' := [.ref 66]) rfl rfl rfl ?_
          refine ev_x (i := .iconst 0) (len := 1) (p' := 103) (s' := [.int 0, .ref 66]) rfl rfl rfl ?_
          refine ev_x (i := .aload_n 1) (len := 1) (p' := 104) (s' := [.ref 115, .int 0, .ref 66]) rfl rfl rfl ?_
          refine ev_gc (p' := 107) (v := 130) rfl rfl rfl ly_115 rfl rfl ?_
          refine ev_x (i := .iload_n 2) (len := 1) (p' := 108) (s' := [.int x_2, .ref 130, .int 0, .ref 66]) rfl rfl rfl ?_
          obtain ⟨b_10, H⟩ := F_gd H
          refine ev_ga (p' := 109) (v := (gE (p_9) 130 (x_2 : Int32).toNatClampNeg)) rfl rfl ly_130 rfl (gd_in b_10) rfl ?_
          obtain ⟨p_11, G_11, H⟩ := F_bd H
          refine ev_cv (d := d + 2) (As := [.int 0, .int (gE (p_9) 130 (x_2 : Int32).toNatClampNeg)]) (a := 66) (p' := 112) rfl rfl rfl ly_66 rfl rfl rfl rfl rfl rfl rfl (F_186_ok (d := d + 0)   G_11) ?_
          refine ev_st (st' := []) rfl ?_
          have e_11 := F_186_R G_11
          obtain rfl := Option.some.inj H
          exact ev_vret rfl rfl rfl
        · refine ev_b0 (t := 95) (p' := 76) rfl rfl rfl (if_neg c_8) ?_
          refine ev_x (i := .aload_n 0) (len := 1) (p' := 77) (s' := [.ref 66]) rfl rfl rfl ?_
          refine ev_x (i := .aload_n 0) (len := 1) (p' := 78) (s' := [.ref 66, .ref 66]) rfl rfl rfl ?_
          refine ev_gc (p' := 81) (v := 169) rfl rfl rfl ly_66 rfl rfl ?_
          refine ev_x (i := .iload_n 2) (len := 1) (p' := 82) (s' := [.int x_2, .ref 169, .ref 66]) rfl rfl rfl ?_
          obtain ⟨b_12, H⟩ := F_gd H
          refine ev_gL (p' := 83) (v := (gL (σ) 169 (x_2 : Int32).toNatClampNeg)) rfl rfl ly_169 rfl (gd_in b_12) rfl ?_
          refine ev_x (i := .aload_n 0) (len := 1) (p' := 84) (s' := [.ref 66, .long (gL (σ) 169 (x_2 : Int32).toNatClampNeg), .ref 66]) rfl rfl rfl ?_
          refine ev_gc (p' := 87) (v := 170) rfl rfl rfl ly_66 rfl rfl ?_
          refine ev_x (i := .iload_n 2) (len := 1) (p' := 88) (s' := [.int x_2, .ref 170, .long (gL (σ) 169 (x_2 : Int32).toNatClampNeg), .ref 66]) rfl rfl rfl ?_
          obtain ⟨b_13, H⟩ := F_gd H
          refine ev_gL (p' := 89) (v := (gL (σ) 170 (x_2 : Int32).toNatClampNeg)) rfl rfl ly_170 rfl (gd_in b_13) rfl ?_
          obtain ⟨p_14, G_14, H⟩ := F_bd H
          refine ev_cv (d := d + 2) (As := [.long (gL (σ) 169 (x_2 : Int32).toNatClampNeg), .long (gL (σ) 170 (x_2 : Int32).toNatClampNeg)]) (a := 66) (p' := 92) rfl rfl rfl ly_66 rfl rfl rfl rfl rfl rfl rfl (F_188_ok (d := d + 1)   G_14) ?_
          refine ev_st (st' := []) rfl ?_
          have e_14 := F_188_R G_14
          refine ev_x (i := .goto 20) (len := 3) (p' := 112) (s' := []) rfl rfl rfl ?_
          obtain rfl := Option.some.inj H
          exact ev_vret rfl rfl rfl
    · refine ev_b2 (t := 39) (p' := 6) rfl rfl rfl (if_neg c_1) ?_
      refine ev_x (i := .iload_n 2) (len := 1) (p' := 7) (s' := [.int x_2]) rfl rfl rfl ?_
      refine ev_x (i := .bipush 100) (len := 2) (p' := 9) (s' := [.int 100, .int x_2]) rfl rfl rfl ?_
      refine ev_x (i := .isub) (len := 1) (p' := 10) (s' := [.int (x_2 - 100)]) rfl rfl rfl ?_
      refine ev_x (i := .istore_n 3) (len := 1) (p' := 11) (s' := []) (l' := [(3, .int (x_2 - 100)), (0, .ref 66), (1, .ref 115), (2, .int x_2)]) rfl rfl rfl ?_
      refine ev_x (i := .aload_n 0) (len := 1) (p' := 12) (s' := [.ref 66]) rfl rfl rfl ?_
      refine ev_x (i := .aload_n 0) (len := 1) (p' := 13) (s' := [.ref 66, .ref 66]) rfl rfl rfl ?_
      refine ev_gc (p' := 16) (v := 167) rfl rfl rfl ly_66 rfl rfl ?_
      refine ev_x (i := .iload_n 3) (len := 1) (p' := 17) (s' := [.int (x_2 - 100), .ref 167, .ref 66]) rfl rfl rfl ?_
      obtain ⟨b_15, H⟩ := F_gd H
      refine ev_ga (p' := 18) (v := (gE (σ) 167 ((x_2 - 100) : Int32).toNatClampNeg)) rfl rfl ly_167 rfl (gd_in b_15) rfl ?_
      refine ev_x (i := .i2l) (len := 1) (p' := 19) (s' := [.long ((gE (σ) 167 ((x_2 - 100) : Int32).toNatClampNeg) : Int32).toInt64, .ref 66]) rfl rfl rfl ?_
      refine ev_x (i := .aload_n 1) (len := 1) (p' := 20) (s' := [.ref 115, .long ((gE (σ) 167 ((x_2 - 100) : Int32).toNatClampNeg) : Int32).toInt64, .ref 66]) rfl rfl rfl ?_
      refine ev_gc (p' := 23) (v := 133) rfl rfl rfl ly_115 rfl rfl ?_
      refine ev_x (i := .iload_n 3) (len := 1) (p' := 24) (s' := [.int (x_2 - 100), .ref 133, .long ((gE (σ) 167 ((x_2 - 100) : Int32).toNatClampNeg) : Int32).toInt64, .ref 66]) rfl rfl rfl ?_
      obtain ⟨b_16, H⟩ := F_gd H
      refine ev_gb (p' := 25) (v := (gE (σ) 133 ((x_2 - 100) : Int32).toNatClampNeg)) rfl rfl ly_133 rfl (gd_in b_16) rfl ?_
      refine F_jn (A := vz_ev P0 (d + 3) 190 33 [(3, .int (x_2 - 100)), (0, .ref 66), (1, .ref 115), (2, .int x_2)] [.long (if (gE (σ) 133 ((x_2 - 100) : Int32).toNatClampNeg) = 0 then 1 else 0 : Int64), .long ((gE (σ) 167 ((x_2 - 100) : Int32).toNatClampNeg) : Int32).toInt64, .ref 66] (hp (σ)) (.inl none, hp p)) ?_ (fun J => ?_)
      · obtain ⟨p_18, G_18, H⟩ := F_bd H
        refine ev_cv (d := d + 2) (As := [.long ((gE (σ) 167 ((x_2 - 100) : Int32).toNatClampNeg) : Int32).toInt64, .long (if (gE (σ) 133 ((x_2 - 100) : Int32).toNatClampNeg) = 0 then 1 else 0 : Int64)]) (a := 66) (p' := 36) rfl rfl rfl ly_66 rfl rfl rfl rfl rfl rfl rfl (F_188_ok (d := d + 1)   G_18) ?_
        refine ev_st (st' := []) rfl ?_
        have e_18 := F_188_R G_18
        refine ev_x (i := .goto 76) (len := 3) (p' := 112) (s' := []) rfl rfl rfl ?_
        obtain rfl := Option.some.inj H
        exact ev_vret rfl rfl rfl
      · by_cases c_17 : (gE (σ) 133 ((x_2 - 100) : Int32).toNatClampNeg) = 0
        · refine ev_b0 (t := 32) (p' := 32) rfl rfl rfl (if_pos c_17) ?_
          refine ev_x (i := .lconst 1) (len := 1) (p' := 33) (s' := [.long 1, .long ((gE (σ) 167 ((x_2 - 100) : Int32).toNatClampNeg) : Int32).toInt64, .ref 66]) rfl rfl rfl ?_
          exact ev_st (congrArg (fun z => Value.long z :: [.long ((gE (σ) 167 ((x_2 - 100) : Int32).toNatClampNeg) : Int32).toInt64, .ref 66]) (by rw [if_pos c_17])) J
        · refine ev_b0 (t := 32) (p' := 28) rfl rfl rfl (if_neg c_17) ?_
          refine ev_x (i := .lconst 0) (len := 1) (p' := 29) (s' := [.long 0, .long ((gE (σ) 167 ((x_2 - 100) : Int32).toNatClampNeg) : Int32).toInt64, .ref 66]) rfl rfl rfl ?_
          refine ev_x (i := .goto 4) (len := 3) (p' := 33) (s' := [.long 0, .long ((gE (σ) 167 ((x_2 - 100) : Int32).toNatClampNeg) : Int32).toInt64, .ref 66]) rfl rfl rfl ?_
          exact ev_st (congrArg (fun z => Value.long z :: [.long ((gE (σ) 167 ((x_2 - 100) : Int32).toNatClampNeg) : Int32).toInt64, .ref 66]) (by rw [if_neg c_17])) J
/-- GameTextModel.turnTodo(I)V, its loops -/
def L_191 (N : Nat) : Nat → Int32 → Int32 → st_S → Option (st_S)
  | 0, _, _, _ => none
  | k + 1, l_2, l_3, σ =>
      if l_3 ≤ l_2 then
        some (σ)
      else
        (N_139 N 165 (l_2 + 1) (σ)).bind fun p_2 =>
        (N_139 N 165 (l_3 + 1) (p_2.2)).bind fun p_3 =>
        if aB (l_2 + 1) (gN p_3.2 166) then
        if aB (l_3 + 1) (gN p_3.2 166) then
        L_191 N k (l_2 + 2) (l_3 - 2) (st_e (st_e (p_3.2) 166 (((l_2 + 1) : Int32).toNatClampNeg) p_3.1) 166 (((l_3 + 1) : Int32).toNatClampNeg) p_2.1)
        else none
        else none
set_option maxRecDepth 100000 in
theorem L_191_R {N : Nat} : ∀ (k : Nat) (l_2 : Int32) (l_3 : Int32) (σ : st_S) (p : st_S), L_191 N k l_2 l_3 σ = some p → gR p = gR σ := by
  intro k
  induction k with
  | zero => intro l_2 l_3 σ p H; unfold L_191 at H; cases H
  | succ k ih =>
    intro l_2 l_3 σ p H
    unfold L_191 at H
    refine F_if H (fun _ H => ?_) (fun _ H => ?_)
    · obtain rfl := Option.some.inj H
      exact rfl
    · obtain ⟨p_2, G_2, H⟩ := F_bd H
      obtain ⟨p_3, G_3, H⟩ := F_bd H
      obtain ⟨_, H⟩ := F_gd H
      obtain ⟨_, H⟩ := F_gd H
      exact (((ih _ _ _ _ H)).trans ((N_139_R G_3).trans ((N_139_R G_2).trans rfl)))
set_option maxHeartbeats 4000000 in
set_option maxRecDepth 100000 in
theorem L_191_ok {N d : Nat} : ∀ k : Nat, ∀ (l_2 : Int32) (l_3 : Int32) (σ : st_S) (lv : vz_L) (p : st_S), vz_g lv 0 = some (.ref 66) → vz_g lv 2 = some (.int l_2) → vz_g lv 3 = some (.int l_3) → vz_nbL (vz_gr P0) lv = true → L_191 N k l_2 l_3 σ = some p → vz_ev P0 (d + 2) 191 12 lv [] (hp σ) (.inl none, hp p) := by
  intro k
  induction k with
  | zero => intro l_2 l_3 σ lv p g_0 g_2 g_3 hnb H; unfold L_191 at H; cases H
  | succ k ih =>
    intro l_2 l_3 σ lv p g_0 g_2 g_3 hnb H
    unfold L_191 at H
    refine ev_x (i := .iload_n 2) (len := 1) (p' := 13) (s' := [.int l_2]) rfl rfl (ld_i g_2) ?_
    refine ev_x (i := .iload_n 3) (len := 1) (p' := 14) (s' := [.int l_3, .int l_2]) rfl rfl (ld_i g_3) ?_
    refine F_if H (fun c_1 H => ?_) (fun c_1 H => ?_)
    · refine ev_b2 (t := 74) (p' := 74) rfl rfl rfl (if_pos c_1) ?_
      obtain rfl := Option.some.inj H
      exact ev_vret rfl rfl rfl
    · refine ev_b2 (t := 74) (p' := 17) rfl rfl rfl (if_neg c_1) ?_
      refine ev_x (i := .aload_n 0) (len := 1) (p' := 18) (s' := [.ref 66]) rfl rfl (ld_a g_0) ?_
      refine ev_gc (p' := 21) (v := 165) rfl rfl rfl ly_66 rfl rfl ?_
      refine ev_x (i := .iload_n 2) (len := 1) (p' := 22) (s' := [.int l_2, .ref 165]) rfl rfl (ld_i g_2) ?_
      refine ev_x (i := .iconst 1) (len := 1) (p' := 23) (s' := [.int 1, .int l_2, .ref 165]) rfl rfl rfl ?_
      refine ev_x (i := .iadd) (len := 1) (p' := 24) (s' := [.int (l_2 + 1), .ref 165]) rfl rfl rfl ?_
      obtain ⟨p_2, G_2, H⟩ := F_bd H
      refine ev_cv (d := d + 1) (As := [.int (l_2 + 1)]) (a := 165) (p' := 27) rfl rfl rfl ly_165 rfl rfl rfl rfl rfl hnb rfl (N_139_ok (d := d + 0) nm_165 G_2) ?_
      refine ev_st (st' := [.int p_2.1]) rfl ?_
      have e_2 := N_139_R G_2
      refine ev_x (i := .istore 4) (len := 2) (p' := 29) (s' := []) (l' := vz_s1 (lv) 4 (.int p_2.1)) rfl rfl rfl ?_
      refine ev_x (i := .aload_n 0) (len := 1) (p' := 30) (s' := [.ref 66]) rfl rfl (ld_a (vg_o (i := 4) (v := .int p_2.1) g_0 (by decide) (Or.inl rfl))) ?_
      refine ev_gc (p' := 33) (v := 165) rfl rfl rfl ly_66 rfl rfl ?_
      refine ev_gc (p' := 36) (v := 166) rfl rfl rfl ly_165 rfl rfl ?_
      refine ev_x (i := .iload_n 2) (len := 1) (p' := 37) (s' := [.int l_2, .ref 166]) rfl rfl (ld_i (vg_o (i := 4) (v := .int p_2.1) g_2 (by decide) (Or.inl rfl))) ?_
      refine ev_x (i := .iconst 1) (len := 1) (p' := 38) (s' := [.int 1, .int l_2, .ref 166]) rfl rfl rfl ?_
      refine ev_x (i := .iadd) (len := 1) (p' := 39) (s' := [.int (l_2 + 1), .ref 166]) rfl rfl rfl ?_
      refine ev_x (i := .aload_n 0) (len := 1) (p' := 40) (s' := [.ref 66, .int (l_2 + 1), .ref 166]) rfl rfl (ld_a (vg_o (i := 4) (v := .int p_2.1) g_0 (by decide) (Or.inl rfl))) ?_
      refine ev_gc (p' := 43) (v := 165) rfl rfl rfl ly_66 rfl rfl ?_
      refine ev_x (i := .iload_n 3) (len := 1) (p' := 44) (s' := [.int l_3, .ref 165, .int (l_2 + 1), .ref 166]) rfl rfl (ld_i (vg_o (i := 4) (v := .int p_2.1) g_3 (by decide) (Or.inl rfl))) ?_
      refine ev_x (i := .iconst 1) (len := 1) (p' := 45) (s' := [.int 1, .int l_3, .ref 165, .int (l_2 + 1), .ref 166]) rfl rfl rfl ?_
      refine ev_x (i := .iadd) (len := 1) (p' := 46) (s' := [.int (l_3 + 1), .ref 165, .int (l_2 + 1), .ref 166]) rfl rfl rfl ?_
      obtain ⟨p_3, G_3, H⟩ := F_bd H
      refine ev_cv (d := d + 1) (As := [.int (l_3 + 1)]) (a := 165) (p' := 49) rfl rfl rfl ly_165 rfl rfl rfl rfl rfl (nb_s1 hnb rfl) rfl (N_139_ok (d := d + 0) nm_165 G_3) ?_
      refine ev_st (st' := [.int p_3.1, .int (l_2 + 1), .ref 166]) rfl ?_
      have e_3 := N_139_R G_3
      obtain ⟨b_4, H⟩ := F_gd H
      refine ev_pa (j := ((l_2 + 1) : Int32).toNatClampNeg) (p' := 50) rfl rfl ly_166 rfl (gd_in b_4) rfl ?_
      refine ev_x (i := .aload_n 0) (len := 1) (p' := 51) (s' := [.ref 66]) rfl rfl (ld_a (vg_o (i := 4) (v := .int p_2.1) g_0 (by decide) (Or.inl rfl))) ?_
      refine ev_gc (p' := 54) (v := 165) rfl rfl rfl ly_66 rfl rfl ?_
      refine ev_gc (p' := 57) (v := 166) rfl rfl rfl ly_165 rfl rfl ?_
      refine ev_x (i := .iload_n 3) (len := 1) (p' := 58) (s' := [.int l_3, .ref 166]) rfl rfl (ld_i (vg_o (i := 4) (v := .int p_2.1) g_3 (by decide) (Or.inl rfl))) ?_
      refine ev_x (i := .iconst 1) (len := 1) (p' := 59) (s' := [.int 1, .int l_3, .ref 166]) rfl rfl rfl ?_
      refine ev_x (i := .iadd) (len := 1) (p' := 60) (s' := [.int (l_3 + 1), .ref 166]) rfl rfl rfl ?_
      refine ev_x (i := .iload 4) (len := 2) (p' := 62) (s' := [.int p_2.1, .int (l_3 + 1), .ref 166]) rfl rfl (ld_i (vg_s (lv) 4 (.int p_2.1))) ?_
      obtain ⟨b_5, H⟩ := F_gd H
      refine ev_pa (j := ((l_3 + 1) : Int32).toNatClampNeg) (p' := 63) rfl rfl ly_166 rfl (gd_in b_5) rfl ?_
      refine ev_x (i := .iload_n 2) (len := 1) (p' := 64) (s' := [.int l_2]) rfl rfl (ld_i (vg_o (i := 4) (v := .int p_2.1) g_2 (by decide) (Or.inl rfl))) ?_
      refine ev_x (i := .iconst 2) (len := 1) (p' := 65) (s' := [.int 2, .int l_2]) rfl rfl rfl ?_
      refine ev_x (i := .iadd) (len := 1) (p' := 66) (s' := [.int (l_2 + 2)]) rfl rfl rfl ?_
      refine ev_x (i := .istore_n 2) (len := 1) (p' := 67) (s' := []) (l' := vz_s1 (vz_s1 (lv) 4 (.int p_2.1)) 2 (.int (l_2 + 2))) rfl rfl rfl ?_
      refine ev_x (i := .iload_n 3) (len := 1) (p' := 68) (s' := [.int l_3]) rfl rfl (ld_i (vg_o (i := 2) (v := .int (l_2 + 2)) (vg_o (i := 4) (v := .int p_2.1) g_3 (by decide) (Or.inl rfl)) (by decide) (Or.inl rfl))) ?_
      refine ev_x (i := .iconst 2) (len := 1) (p' := 69) (s' := [.int 2, .int l_3]) rfl rfl rfl ?_
      refine ev_x (i := .isub) (len := 1) (p' := 70) (s' := [.int (l_3 - 2)]) rfl rfl rfl ?_
      refine ev_x (i := .istore_n 3) (len := 1) (p' := 71) (s' := []) (l' := vz_s1 (vz_s1 (vz_s1 (lv) 4 (.int p_2.1)) 2 (.int (l_2 + 2))) 3 (.int (l_3 - 2))) rfl rfl rfl ?_
      refine ev_x (i := .goto (-59)) (len := 3) (p' := 12) (s' := []) rfl rfl rfl ?_
      exact ih _ _ _ _ _ (vg_o (i := 3) (v := .int (l_3 - 2)) (vg_o (i := 2) (v := .int (l_2 + 2)) (vg_o (i := 4) (v := .int p_2.1) g_0 (by decide) (Or.inl rfl)) (by decide) (Or.inl rfl)) (by decide) (Or.inl rfl)) (vg_o (i := 3) (v := .int (l_3 - 2)) (vg_s (vz_s1 (lv) 4 (.int p_2.1)) 2 (.int (l_2 + 2))) (by decide) (Or.inl rfl)) (vg_s (vz_s1 (vz_s1 (lv) 4 (.int p_2.1)) 2 (.int (l_2 + 2))) 3 (.int (l_3 - 2))) (nb_s1 (nb_s1 (nb_s1 hnb rfl) rfl) rfl)  H
/-- GameTextModel.turnTodo(I)V -/
def F_191 (N : Nat) (x_1 : Int32) (σ : st_S) : Option (st_S) :=
  L_191 N N x_1 ((gI σ 165 1) - 2) (σ)
set_option maxRecDepth 100000 in
theorem F_191_R {N : Nat} {x_1 : Int32} {σ : st_S} {p : st_S} (H : F_191 N x_1 σ = some p) : gR p = gR σ := by
  unfold F_191 at H
  exact (((L_191_R _ _ _ _ _ H)).trans rfl)
set_option maxHeartbeats 4000000 in
set_option maxRecDepth 100000 in
theorem F_191_ok {N d : Nat} {x_1 : Int32} {σ : st_S} {p : st_S}  (H : F_191 N x_1 σ = some p) : vz_ev P0 (d + 2) 191 0 (lv_args 0 [.ref 66, .int x_1]) [] (hp σ) (.inl none, hp p) := by
  unfold F_191 at H
  refine ev_x (i := .iload_n 1) (len := 1) (p' := 1) (s' := [.int x_1]) rfl rfl rfl ?_
  refine ev_x (i := .istore_n 2) (len := 1) (p' := 2) (s' := []) (l' := [(2, .int x_1), (0, .ref 66), (1, .int x_1)]) rfl rfl rfl ?_
  refine ev_x (i := .aload_n 0) (len := 1) (p' := 3) (s' := [.ref 66]) rfl rfl rfl ?_
  refine ev_gc (p' := 6) (v := 165) rfl rfl rfl ly_66 rfl rfl ?_
  refine ev_gi (p' := 9) (v := (gI σ 165 1)) rfl rfl rfl ly_165 rfl rfl rfl ?_
  refine ev_x (i := .iconst 2) (len := 1) (p' := 10) (s' := [.int 2, .int (gI σ 165 1)]) rfl rfl rfl ?_
  refine ev_x (i := .isub) (len := 1) (p' := 11) (s' := [.int ((gI σ 165 1) - 2)]) rfl rfl rfl ?_
  refine ev_x (i := .istore_n 3) (len := 1) (p' := 12) (s' := []) (l' := [(3, .int ((gI σ 165 1) - 2)), (2, .int x_1), (0, .ref 66), (1, .int x_1)]) rfl rfl rfl ?_
  exact (L_191_ok (d := d) N) _ _ _ _ _ rfl rfl rfl rfl  H
/-- GameTextModel.begin(LGameTextModel$Game;I)V, its loops -/
def L_187 (N : Nat) (g : Nat) : Nat → Int32 → Int32 → st_S → Option (st_S)
  | 0, _, _, _ => none
  | k + 1, l_5, l_6, σ =>
      if l_6 < 0 then
        (F_191 N l_5 (σ)).bind fun p_24 =>
        some (p_24)
      else
        (F_186 N 0 l_6 (σ)).bind fun p_25 =>
        (N_139 N (g + 11) l_6 (p_25)).bind fun p_26 =>
        L_187 N g k l_5 p_26.1 (p_26.2)
set_option maxRecDepth 100000 in
theorem L_187_R {N : Nat} {g : Nat} : ∀ (k : Nat) (l_5 : Int32) (l_6 : Int32) (σ : st_S) (p : st_S), L_187 N g k l_5 l_6 σ = some p → gR p = gR σ := by
  intro k
  induction k with
  | zero => intro l_5 l_6 σ p H; unfold L_187 at H; cases H
  | succ k ih =>
    intro l_5 l_6 σ p H
    unfold L_187 at H
    refine F_if H (fun _ H => ?_) (fun _ H => ?_)
    · obtain ⟨p_24, G_24, H⟩ := F_bd H
      obtain rfl := Option.some.inj H
      exact ((F_191_R G_24).trans rfl)
    · obtain ⟨p_25, G_25, H⟩ := F_bd H
      obtain ⟨p_26, G_26, H⟩ := F_bd H
      exact (((ih _ _ _ _ H)).trans ((N_139_R G_26).trans ((F_186_R G_25).trans rfl)))
set_option maxHeartbeats 4000000 in
set_option maxRecDepth 100000 in
theorem L_187_ok {N d : Nat} {g : Nat} (hg : g = 79 ∨ g = 115) : ∀ k : Nat, ∀ (l_5 : Int32) (l_6 : Int32) (σ : st_S) (lv : vz_L) (p : st_S), vz_g lv 0 = some (.ref 66) → vz_g lv 1 = some (.ref g) → vz_g lv 5 = some (.int l_5) → vz_g lv 6 = some (.int l_6) → vz_nbL (vz_gr P0) lv = true → L_187 N g k l_5 l_6 σ = some p → vz_ev P0 (d + 4) 187 166 lv [] (hp σ) (.inl none, hp p) := by
  rcases hg with rfl | rfl
  · intro k
    induction k with
    | zero => intro l_5 l_6 σ lv p g_0 g_1 g_5 g_6 hnb H; unfold L_187 at H; cases H
    | succ k ih =>
      intro l_5 l_6 σ lv p g_0 g_1 g_5 g_6 hnb H
      unfold L_187 at H
      refine ev_x (i := .iload 6) (len := 2) (p' := 168) (s' := [.int l_6]) rfl rfl (ld_i g_6) ?_
      refine F_if H (fun c_23 H => ?_) (fun c_23 H => ?_)
      · refine ev_b0 (t := 192) (p' := 192) rfl rfl rfl (if_pos c_23) ?_
        refine ev_x (i := .aload_n 0) (len := 1) (p' := 193) (s' := [.ref 66]) rfl rfl (ld_a g_0) ?_
        refine ev_x (i := .iload 5) (len := 2) (p' := 195) (s' := [.int l_5, .ref 66]) rfl rfl (ld_i g_5) ?_
        obtain ⟨p_24, G_24, H⟩ := F_bd H
        refine ev_cv (d := d + 3) (As := [.int l_5]) (a := 66) (p' := 198) rfl rfl rfl ly_66 rfl rfl rfl rfl rfl hnb rfl (F_191_ok (d := d + 1)   G_24) ?_
        refine ev_st (st' := []) rfl ?_
        have e_24 := F_191_R G_24
        obtain rfl := Option.some.inj H
        exact ev_vret rfl rfl rfl
      · refine ev_b0 (t := 192) (p' := 171) rfl rfl rfl (if_neg c_23) ?_
        refine ev_x (i := .aload_n 0) (len := 1) (p' := 172) (s' := [.ref 66]) rfl rfl (ld_a g_0) ?_
        refine ev_x (i := .iconst 0) (len := 1) (p' := 173) (s' := [.int 0, .ref 66]) rfl rfl rfl ?_
        refine ev_x (i := .iload 6) (len := 2) (p' := 175) (s' := [.int l_6, .int 0, .ref 66]) rfl rfl (ld_i g_6) ?_
        obtain ⟨p_25, G_25, H⟩ := F_bd H
        refine ev_cv (d := d + 3) (As := [.int 0, .int l_6]) (a := 66) (p' := 178) rfl rfl rfl ly_66 rfl rfl rfl rfl rfl hnb rfl (F_186_ok (d := d + 1)   G_25) ?_
        refine ev_st (st' := []) rfl ?_
        have e_25 := F_186_R G_25
        refine ev_x (i := .aload_n 1) (len := 1) (p' := 179) (s' := [.ref 79]) rfl rfl (ld_a g_1) ?_
        refine ev_gc (p' := 182) (v := 90) rfl rfl rfl ly_79 rfl rfl ?_
        refine ev_x (i := .iload 6) (len := 2) (p' := 184) (s' := [.int l_6, .ref 90]) rfl rfl (ld_i g_6) ?_
        obtain ⟨p_26, G_26, H⟩ := F_bd H
        refine ev_cv (d := d + 3) (As := [.int l_6]) (a := 90) (p' := 187) rfl rfl rfl ly_90 rfl rfl rfl rfl rfl hnb rfl (N_139_ok (d := d + 2) nm_90 G_26) ?_
        refine ev_st (st' := [.int p_26.1]) rfl ?_
        have e_26 := N_139_R G_26
        refine ev_x (i := .istore 6) (len := 2) (p' := 189) (s' := []) (l' := vz_s1 (lv) 6 (.int p_26.1)) rfl rfl rfl ?_
        refine ev_x (i := .goto (-23)) (len := 3) (p' := 166) (s' := []) rfl rfl rfl ?_
        exact ih _ _ _ _ _ (vg_o (i := 6) (v := .int p_26.1) g_0 (by decide) (Or.inl rfl)) (vg_o (i := 6) (v := .int p_26.1) g_1 (by decide) (Or.inl rfl)) (vg_o (i := 6) (v := .int p_26.1) g_5 (by decide) (Or.inl rfl)) (vg_s (lv) 6 (.int p_26.1)) (nb_s1 hnb rfl)  H
  · intro k
    induction k with
    | zero => intro l_5 l_6 σ lv p g_0 g_1 g_5 g_6 hnb H; unfold L_187 at H; cases H
    | succ k ih =>
      intro l_5 l_6 σ lv p g_0 g_1 g_5 g_6 hnb H
      unfold L_187 at H
      refine ev_x (i := .iload 6) (len := 2) (p' := 168) (s' := [.int l_6]) rfl rfl (ld_i g_6) ?_
      refine F_if H (fun c_23 H => ?_) (fun c_23 H => ?_)
      · refine ev_b0 (t := 192) (p' := 192) rfl rfl rfl (if_pos c_23) ?_
        refine ev_x (i := .aload_n 0) (len := 1) (p' := 193) (s' := [.ref 66]) rfl rfl (ld_a g_0) ?_
        refine ev_x (i := .iload 5) (len := 2) (p' := 195) (s' := [.int l_5, .ref 66]) rfl rfl (ld_i g_5) ?_
        obtain ⟨p_24, G_24, H⟩ := F_bd H
        refine ev_cv (d := d + 3) (As := [.int l_5]) (a := 66) (p' := 198) rfl rfl rfl ly_66 rfl rfl rfl rfl rfl hnb rfl (F_191_ok (d := d + 1)   G_24) ?_
        refine ev_st (st' := []) rfl ?_
        have e_24 := F_191_R G_24
        obtain rfl := Option.some.inj H
        exact ev_vret rfl rfl rfl
      · refine ev_b0 (t := 192) (p' := 171) rfl rfl rfl (if_neg c_23) ?_
        refine ev_x (i := .aload_n 0) (len := 1) (p' := 172) (s' := [.ref 66]) rfl rfl (ld_a g_0) ?_
        refine ev_x (i := .iconst 0) (len := 1) (p' := 173) (s' := [.int 0, .ref 66]) rfl rfl rfl ?_
        refine ev_x (i := .iload 6) (len := 2) (p' := 175) (s' := [.int l_6, .int 0, .ref 66]) rfl rfl (ld_i g_6) ?_
        obtain ⟨p_25, G_25, H⟩ := F_bd H
        refine ev_cv (d := d + 3) (As := [.int 0, .int l_6]) (a := 66) (p' := 178) rfl rfl rfl ly_66 rfl rfl rfl rfl rfl hnb rfl (F_186_ok (d := d + 1)   G_25) ?_
        refine ev_st (st' := []) rfl ?_
        have e_25 := F_186_R G_25
        refine ev_x (i := .aload_n 1) (len := 1) (p' := 179) (s' := [.ref 115]) rfl rfl (ld_a g_1) ?_
        refine ev_gc (p' := 182) (v := 126) rfl rfl rfl ly_115 rfl rfl ?_
        refine ev_x (i := .iload 6) (len := 2) (p' := 184) (s' := [.int l_6, .ref 126]) rfl rfl (ld_i g_6) ?_
        obtain ⟨p_26, G_26, H⟩ := F_bd H
        refine ev_cv (d := d + 3) (As := [.int l_6]) (a := 126) (p' := 187) rfl rfl rfl ly_126 rfl rfl rfl rfl rfl hnb rfl (N_139_ok (d := d + 2) nm_126 G_26) ?_
        refine ev_st (st' := [.int p_26.1]) rfl ?_
        have e_26 := N_139_R G_26
        refine ev_x (i := .istore 6) (len := 2) (p' := 189) (s' := []) (l' := vz_s1 (lv) 6 (.int p_26.1)) rfl rfl rfl ?_
        refine ev_x (i := .goto (-23)) (len := 3) (p' := 166) (s' := []) rfl rfl rfl ?_
        exact ih _ _ _ _ _ (vg_o (i := 6) (v := .int p_26.1) g_0 (by decide) (Or.inl rfl)) (vg_o (i := 6) (v := .int p_26.1) g_1 (by decide) (Or.inl rfl)) (vg_o (i := 6) (v := .int p_26.1) g_5 (by decide) (Or.inl rfl)) (vg_s (lv) 6 (.int p_26.1)) (nb_s1 hnb rfl)  H
/-- GameTextModel.begin(LGameTextModel$Game;I)V -/
def F_187 (N : Nat) (g : Nat) (x_2 : Int32) (σ : st_S) : Option (st_S) :=
  (N_139 N (g + 1) x_2 (σ)).bind fun p_1 =>
  (N_139 N (g + 9) x_2 (p_1.2)).bind fun p_2 =>
  if p_1.1 = 1 then
    (N_139 N (g + 7) x_2 (p_2.2)).bind fun p_4 =>
    (F_190 N g p_4.1 (p_4.2)).bind fun p_5 =>
    some (p_5)
  else
  if p_1.1 = 2 then
    (N_139 N (g + 7) x_2 (p_2.2)).bind fun p_7 =>
    (F_188 N (p_7.1 : Int32).toInt64 1 (p_7.2)).bind fun p_8 =>
    some (p_8)
  else
  if p_1.1 = 12 then
      (F_189 N 1 (p_2.2)).bind fun p_10 =>
      some (p_10)
  else
  if p_1.1 = 13 then
      (F_189 N 0 (p_2.2)).bind fun p_12 =>
      some (p_12)
  else
  if p_1.1 = 29 then
    (F_186 N 2 x_2 (p_2.2)).bind fun p_14 =>
    (F_186 N 0 p_2.1 (p_14)).bind fun p_15 =>
    some (p_15)
  else
  if p_1.1 = 30 then
    (F_186 N 2 x_2 (p_2.2)).bind fun p_17 =>
    (F_186 N 0 p_2.1 (p_17)).bind fun p_18 =>
    some (p_18)
  else
  if p_1.1 = 32 then
    (F_186 N 2 x_2 (p_2.2)).bind fun p_20 =>
    (F_186 N 0 p_2.1 (p_20)).bind fun p_21 =>
    some (p_21)
  else
    (F_186 N 1 x_2 (p_2.2)).bind fun p_22 =>
    L_187 N g N (gI p_22 165 1) p_2.1 (p_22)
set_option maxRecDepth 100000 in
theorem F_187_R {N : Nat} {g : Nat} {x_2 : Int32} {σ : st_S} {p : st_S} (H : F_187 N g x_2 σ = some p) : gR p = gR σ := by
  unfold F_187 at H
  obtain ⟨p_1, G_1, H⟩ := F_bd H
  obtain ⟨p_2, G_2, H⟩ := F_bd H
  refine F_if H (fun _ H => ?_) (fun _ H => ?_)
  · obtain ⟨p_4, G_4, H⟩ := F_bd H
    obtain ⟨p_5, G_5, H⟩ := F_bd H
    obtain rfl := Option.some.inj H
    exact ((F_190_R G_5).trans ((N_139_R G_4).trans ((N_139_R G_2).trans ((N_139_R G_1).trans rfl))))
  · refine F_if H (fun _ H => ?_) (fun _ H => ?_)
    · obtain ⟨p_7, G_7, H⟩ := F_bd H
      obtain ⟨p_8, G_8, H⟩ := F_bd H
      obtain rfl := Option.some.inj H
      exact ((F_188_R G_8).trans ((N_139_R G_7).trans ((N_139_R G_2).trans ((N_139_R G_1).trans rfl))))
    · refine F_if H (fun _ H => ?_) (fun _ H => ?_)
      · obtain ⟨p_10, G_10, H⟩ := F_bd H
        obtain rfl := Option.some.inj H
        exact ((F_189_R G_10).trans ((N_139_R G_2).trans ((N_139_R G_1).trans rfl)))
      · refine F_if H (fun _ H => ?_) (fun _ H => ?_)
        · obtain ⟨p_12, G_12, H⟩ := F_bd H
          obtain rfl := Option.some.inj H
          exact ((F_189_R G_12).trans ((N_139_R G_2).trans ((N_139_R G_1).trans rfl)))
        · refine F_if H (fun _ H => ?_) (fun _ H => ?_)
          · obtain ⟨p_14, G_14, H⟩ := F_bd H
            obtain ⟨p_15, G_15, H⟩ := F_bd H
            obtain rfl := Option.some.inj H
            exact ((F_186_R G_15).trans ((F_186_R G_14).trans ((N_139_R G_2).trans ((N_139_R G_1).trans rfl))))
          · refine F_if H (fun _ H => ?_) (fun _ H => ?_)
            · obtain ⟨p_17, G_17, H⟩ := F_bd H
              obtain ⟨p_18, G_18, H⟩ := F_bd H
              obtain rfl := Option.some.inj H
              exact ((F_186_R G_18).trans ((F_186_R G_17).trans ((N_139_R G_2).trans ((N_139_R G_1).trans rfl))))
            · refine F_if H (fun _ H => ?_) (fun _ H => ?_)
              · obtain ⟨p_20, G_20, H⟩ := F_bd H
                obtain ⟨p_21, G_21, H⟩ := F_bd H
                obtain rfl := Option.some.inj H
                exact ((F_186_R G_21).trans ((F_186_R G_20).trans ((N_139_R G_2).trans ((N_139_R G_1).trans rfl))))
              · obtain ⟨p_22, G_22, H⟩ := F_bd H
                exact (((L_187_R _ _ _ _ _ H)).trans ((F_186_R G_22).trans ((N_139_R G_2).trans ((N_139_R G_1).trans rfl))))
set_option maxHeartbeats 4000000 in
set_option maxRecDepth 100000 in
theorem F_187_ok {N d : Nat} {g : Nat} (hg : g = 79 ∨ g = 115) {x_2 : Int32} {σ : st_S} {p : st_S}  (H : F_187 N g x_2 σ = some p) : vz_ev P0 (d + 4) 187 0 (lv_args 0 [.ref 66, .ref g, .int x_2]) [] (hp σ) (.inl none, hp p) := by
  unfold F_187 at H
  rcases hg with rfl | rfl
  · refine ev_x (i := .aload_n 1) (len := 1) (p' := 1) (s' := [.ref 79]) rfl rfl rfl ?_
    refine ev_gc (p' := 4) (v := 80) rfl rfl rfl ly_79 rfl rfl ?_
    refine ev_x (i := .iload_n 2) (len := 1) (p' := 5) (s' := [.int x_2, .ref 80]) rfl rfl rfl ?_
    obtain ⟨p_1, G_1, H⟩ := F_bd H
    refine ev_cv (d := d + 3) (As := [.int x_2]) (a := 80) (p' := 8) rfl rfl rfl ly_80 rfl rfl rfl rfl rfl rfl rfl (N_139_ok (d := d + 2) nm_80 G_1) ?_
    refine ev_st (st' := [.int p_1.1]) rfl ?_
    have e_1 := N_139_R G_1
    refine ev_x (i := .istore_n 3) (len := 1) (p' := 9) (s' := []) (l' := [(3, .int p_1.1), (0, .ref 66), (1, .ref 79), (2, .int x_2)]) rfl rfl rfl ?_
    refine ev_x (i := .aload_n 1) (len := 1) (p' := 10) (s' := [.ref 79]) rfl rfl rfl ?_
    refine ev_gc (p' := 13) (v := 88) rfl rfl rfl ly_79 rfl rfl ?_
    refine ev_x (i := .iload_n 2) (len := 1) (p' := 14) (s' := [.int x_2, .ref 88]) rfl rfl rfl ?_
    obtain ⟨p_2, G_2, H⟩ := F_bd H
    refine ev_cv (d := d + 3) (As := [.int x_2]) (a := 88) (p' := 17) rfl rfl rfl ly_88 rfl rfl rfl rfl rfl rfl rfl (N_139_ok (d := d + 2) nm_88 G_2) ?_
    refine ev_st (st' := [.int p_2.1]) rfl ?_
    have e_2 := N_139_R G_2
    refine ev_x (i := .istore 4) (len := 2) (p' := 19) (s' := []) (l' := [(4, .int p_2.1), (3, .int p_1.1), (0, .ref 66), (1, .ref 79), (2, .int x_2)]) rfl rfl rfl ?_
    refine ev_x (i := .iload_n 3) (len := 1) (p' := 20) (s' := [.int p_1.1]) rfl rfl rfl ?_
    refine F_if H (fun c_3 H => ?_) (fun c_3 H => ?_)
    · refine ev_st (st' := [.int 1]) (congrArg (fun z => Value.int z :: []) c_3) ?_
      refine ev_ls (t := 119) rfl rfl rfl (by decide) ?_
      refine ev_x (i := .aload_n 0) (len := 1) (p' := 120) (s' := [.ref 66]) rfl rfl rfl ?_
      refine ev_x (i := .aload_n 1) (len := 1) (p' := 121) (s' := [.ref 79, .ref 66]) rfl rfl rfl ?_
      refine ev_x (i := .aload_n 1) (len := 1) (p' := 122) (s' := [.ref 79, .ref 79, .ref 66]) rfl rfl rfl ?_
      refine ev_gc (p' := 125) (v := 86) rfl rfl rfl ly_79 rfl rfl ?_
      refine ev_x (i := .iload_n 2) (len := 1) (p' := 126) (s' := [.int x_2, .ref 86, .ref 79, .ref 66]) rfl rfl rfl ?_
      obtain ⟨p_4, G_4, H⟩ := F_bd H
      refine ev_cv (d := d + 3) (As := [.int x_2]) (a := 86) (p' := 129) rfl rfl rfl ly_86 rfl rfl rfl rfl rfl rfl rfl (N_139_ok (d := d + 2) nm_86 G_4) ?_
      refine ev_st (st' := [.int p_4.1, .ref 79, .ref 66]) rfl ?_
      have e_4 := N_139_R G_4
      obtain ⟨p_5, G_5, H⟩ := F_bd H
      refine ev_cv (d := d + 3) (As := [.ref 79, .int p_4.1]) (a := 66) (p' := 132) rfl rfl rfl ly_66 rfl rfl rfl rfl rfl rfl rfl (F_190_ok (d := d + 0) (hg := (Or.inl rfl))  G_5) ?_
      refine ev_st (st' := []) rfl ?_
      have e_5 := F_190_R G_5
      obtain rfl := Option.some.inj H
      exact ev_vret rfl rfl rfl
    · refine F_if H (fun c_6 H => ?_) (fun c_6 H => ?_)
      · refine ev_st (st' := [.int 2]) (congrArg (fun z => Value.int z :: []) c_6) ?_
        refine ev_ls (t := 88) rfl rfl rfl (by decide) ?_
        refine ev_x (i := .aload_n 0) (len := 1) (p' := 89) (s' := [.ref 66]) rfl rfl rfl ?_
        refine ev_x (i := .aload_n 1) (len := 1) (p' := 90) (s' := [.ref 79, .ref 66]) rfl rfl rfl ?_
        refine ev_gc (p' := 93) (v := 86) rfl rfl rfl ly_79 rfl rfl ?_
        refine ev_x (i := .iload_n 2) (len := 1) (p' := 94) (s' := [.int x_2, .ref 86, .ref 66]) rfl rfl rfl ?_
        obtain ⟨p_7, G_7, H⟩ := F_bd H
        refine ev_cv (d := d + 3) (As := [.int x_2]) (a := 86) (p' := 97) rfl rfl rfl ly_86 rfl rfl rfl rfl rfl rfl rfl (N_139_ok (d := d + 2) nm_86 G_7) ?_
        refine ev_st (st' := [.int p_7.1, .ref 66]) rfl ?_
        have e_7 := N_139_R G_7
        refine ev_x (i := .i2l) (len := 1) (p' := 98) (s' := [.long (p_7.1 : Int32).toInt64, .ref 66]) rfl rfl rfl ?_
        refine ev_x (i := .lconst 1) (len := 1) (p' := 99) (s' := [.long 1, .long (p_7.1 : Int32).toInt64, .ref 66]) rfl rfl rfl ?_
        obtain ⟨p_8, G_8, H⟩ := F_bd H
        refine ev_cv (d := d + 3) (As := [.long (p_7.1 : Int32).toInt64, .long 1]) (a := 66) (p' := 102) rfl rfl rfl ly_66 rfl rfl rfl rfl rfl rfl rfl (F_188_ok (d := d + 2)   G_8) ?_
        refine ev_st (st' := []) rfl ?_
        have e_8 := F_188_R G_8
        obtain rfl := Option.some.inj H
        exact ev_vret rfl rfl rfl
      · refine F_if H (fun c_9 H => ?_) (fun c_9 H => ?_)
        · refine ev_st (st' := [.int 12]) (congrArg (fun z => Value.int z :: []) c_9) ?_
          refine ev_ls (t := 103) rfl rfl rfl (by decide) ?_
          refine ev_x (i := .aload_n 0) (len := 1) (p' := 104) (s' := [.ref 66]) rfl rfl rfl ?_
          refine ev_x (i := .iload_n 3) (len := 1) (p' := 105) (s' := [.int p_1.1, .ref 66]) rfl rfl rfl ?_
          refine ev_x (i := .bipush 12) (len := 2) (p' := 107) (s' := [.int 12, .int p_1.1, .ref 66]) rfl rfl rfl ?_
          refine ev_b2 (t := 114) (p' := 110) rfl rfl rfl (if_neg (fun q => q c_9)) ?_
          refine ev_x (i := .iconst 1) (len := 1) (p' := 111) (s' := [.int 1, .ref 66]) rfl rfl rfl ?_
          refine ev_x (i := .goto 4) (len := 3) (p' := 115) (s' := [.int 1, .ref 66]) rfl rfl rfl ?_
          obtain ⟨p_10, G_10, H⟩ := F_bd H
          refine ev_cv (d := d + 3) (As := [.int 1]) (a := 66) (p' := 118) rfl rfl rfl ly_66 rfl rfl rfl rfl rfl rfl rfl (F_189_ok (d := d + 1)   G_10) ?_
          refine ev_st (st' := []) rfl ?_
          have e_10 := F_189_R G_10
          obtain rfl := Option.some.inj H
          exact ev_vret rfl rfl rfl
        · refine F_if H (fun c_11 H => ?_) (fun c_11 H => ?_)
          · refine ev_st (st' := [.int 13]) (congrArg (fun z => Value.int z :: []) c_11) ?_
            refine ev_ls (t := 103) rfl rfl rfl (by decide) ?_
            refine ev_x (i := .aload_n 0) (len := 1) (p' := 104) (s' := [.ref 66]) rfl rfl rfl ?_
            refine ev_x (i := .iload_n 3) (len := 1) (p' := 105) (s' := [.int p_1.1, .ref 66]) rfl rfl rfl ?_
            refine ev_x (i := .bipush 12) (len := 2) (p' := 107) (s' := [.int 12, .int p_1.1, .ref 66]) rfl rfl rfl ?_
            refine ev_b2 (t := 114) (p' := 114) rfl rfl rfl (if_pos c_9) ?_
            refine ev_x (i := .iconst 0) (len := 1) (p' := 115) (s' := [.int 0, .ref 66]) rfl rfl rfl ?_
            obtain ⟨p_12, G_12, H⟩ := F_bd H
            refine ev_cv (d := d + 3) (As := [.int 0]) (a := 66) (p' := 118) rfl rfl rfl ly_66 rfl rfl rfl rfl rfl rfl rfl (F_189_ok (d := d + 1)   G_12) ?_
            refine ev_st (st' := []) rfl ?_
            have e_12 := F_189_R G_12
            obtain rfl := Option.some.inj H
            exact ev_vret rfl rfl rfl
          · refine F_if H (fun c_13 H => ?_) (fun c_13 H => ?_)
            · refine ev_st (st' := [.int 29]) (congrArg (fun z => Value.int z :: []) c_13) ?_
              refine ev_ls (t := 133) rfl rfl rfl (by decide) ?_
              refine ev_x (i := .aload_n 0) (len := 1) (p' := 134) (s' := [.ref 66]) rfl rfl rfl ?_
              refine ev_x (i := .iconst 2) (len := 1) (p' := 135) (s' := [.int 2, .ref 66]) rfl rfl rfl ?_
              refine ev_x (i := .iload_n 2) (len := 1) (p' := 136) (s' := [.int x_2, .int 2, .ref 66]) rfl rfl rfl ?_
              obtain ⟨p_14, G_14, H⟩ := F_bd H
              refine ev_cv (d := d + 3) (As := [.int 2, .int x_2]) (a := 66) (p' := 139) rfl rfl rfl ly_66 rfl rfl rfl rfl rfl rfl rfl (F_186_ok (d := d + 1)   G_14) ?_
              refine ev_st (st' := []) rfl ?_
              have e_14 := F_186_R G_14
              refine ev_x (i := .aload_n 0) (len := 1) (p' := 140) (s' := [.ref 66]) rfl rfl rfl ?_
              refine ev_x (i := .iconst 0) (len := 1) (p' := 141) (s' := [.int 0, .ref 66]) rfl rfl rfl ?_
              refine ev_x (i := .iload 4) (len := 2) (p' := 143) (s' := [.int p_2.1, .int 0, .ref 66]) rfl rfl rfl ?_
              obtain ⟨p_15, G_15, H⟩ := F_bd H
              refine ev_cv (d := d + 3) (As := [.int 0, .int p_2.1]) (a := 66) (p' := 146) rfl rfl rfl ly_66 rfl rfl rfl rfl rfl rfl rfl (F_186_ok (d := d + 1)   G_15) ?_
              refine ev_st (st' := []) rfl ?_
              have e_15 := F_186_R G_15
              obtain rfl := Option.some.inj H
              exact ev_vret rfl rfl rfl
            · refine F_if H (fun c_16 H => ?_) (fun c_16 H => ?_)
              · refine ev_st (st' := [.int 30]) (congrArg (fun z => Value.int z :: []) c_16) ?_
                refine ev_ls (t := 133) rfl rfl rfl (by decide) ?_
                refine ev_x (i := .aload_n 0) (len := 1) (p' := 134) (s' := [.ref 66]) rfl rfl rfl ?_
                refine ev_x (i := .iconst 2) (len := 1) (p' := 135) (s' := [.int 2, .ref 66]) rfl rfl rfl ?_
                refine ev_x (i := .iload_n 2) (len := 1) (p' := 136) (s' := [.int x_2, .int 2, .ref 66]) rfl rfl rfl ?_
                obtain ⟨p_17, G_17, H⟩ := F_bd H
                refine ev_cv (d := d + 3) (As := [.int 2, .int x_2]) (a := 66) (p' := 139) rfl rfl rfl ly_66 rfl rfl rfl rfl rfl rfl rfl (F_186_ok (d := d + 1)   G_17) ?_
                refine ev_st (st' := []) rfl ?_
                have e_17 := F_186_R G_17
                refine ev_x (i := .aload_n 0) (len := 1) (p' := 140) (s' := [.ref 66]) rfl rfl rfl ?_
                refine ev_x (i := .iconst 0) (len := 1) (p' := 141) (s' := [.int 0, .ref 66]) rfl rfl rfl ?_
                refine ev_x (i := .iload 4) (len := 2) (p' := 143) (s' := [.int p_2.1, .int 0, .ref 66]) rfl rfl rfl ?_
                obtain ⟨p_18, G_18, H⟩ := F_bd H
                refine ev_cv (d := d + 3) (As := [.int 0, .int p_2.1]) (a := 66) (p' := 146) rfl rfl rfl ly_66 rfl rfl rfl rfl rfl rfl rfl (F_186_ok (d := d + 1)   G_18) ?_
                refine ev_st (st' := []) rfl ?_
                have e_18 := F_186_R G_18
                obtain rfl := Option.some.inj H
                exact ev_vret rfl rfl rfl
              · refine F_if H (fun c_19 H => ?_) (fun c_19 H => ?_)
                · refine ev_st (st' := [.int 32]) (congrArg (fun z => Value.int z :: []) c_19) ?_
                  refine ev_ls (t := 133) rfl rfl rfl (by decide) ?_
                  refine ev_x (i := .aload_n 0) (len := 1) (p' := 134) (s' := [.ref 66]) rfl rfl rfl ?_
                  refine ev_x (i := .iconst 2) (len := 1) (p' := 135) (s' := [.int 2, .ref 66]) rfl rfl rfl ?_
                  refine ev_x (i := .iload_n 2) (len := 1) (p' := 136) (s' := [.int x_2, .int 2, .ref 66]) rfl rfl rfl ?_
                  obtain ⟨p_20, G_20, H⟩ := F_bd H
                  refine ev_cv (d := d + 3) (As := [.int 2, .int x_2]) (a := 66) (p' := 139) rfl rfl rfl ly_66 rfl rfl rfl rfl rfl rfl rfl (F_186_ok (d := d + 1)   G_20) ?_
                  refine ev_st (st' := []) rfl ?_
                  have e_20 := F_186_R G_20
                  refine ev_x (i := .aload_n 0) (len := 1) (p' := 140) (s' := [.ref 66]) rfl rfl rfl ?_
                  refine ev_x (i := .iconst 0) (len := 1) (p' := 141) (s' := [.int 0, .ref 66]) rfl rfl rfl ?_
                  refine ev_x (i := .iload 4) (len := 2) (p' := 143) (s' := [.int p_2.1, .int 0, .ref 66]) rfl rfl rfl ?_
                  obtain ⟨p_21, G_21, H⟩ := F_bd H
                  refine ev_cv (d := d + 3) (As := [.int 0, .int p_2.1]) (a := 66) (p' := 146) rfl rfl rfl ly_66 rfl rfl rfl rfl rfl rfl rfl (F_186_ok (d := d + 1)   G_21) ?_
                  refine ev_st (st' := []) rfl ?_
                  have e_21 := F_186_R G_21
                  obtain rfl := Option.some.inj H
                  exact ev_vret rfl rfl rfl
                · refine ev_ls (t := 147) rfl rfl rfl (ls_go ((ls_ne (i32_ne (k := 1) (by decide) c_3)).trans ((ls_ne (i32_ne (k := 2) (by decide) c_6)).trans ((ls_ne (i32_ne (k := 12) (by decide) c_9)).trans ((ls_ne (i32_ne (k := 13) (by decide) c_11)).trans ((ls_ne (i32_ne (k := 29) (by decide) c_13)).trans ((ls_ne (i32_ne (k := 30) (by decide) c_16)).trans ((ls_ne (i32_ne (k := 32) (by decide) c_19)).trans rfl))))))) rfl) ?_
                  refine ev_x (i := .aload_n 0) (len := 1) (p' := 148) (s' := [.ref 66]) rfl rfl rfl ?_
                  refine ev_x (i := .iconst 1) (len := 1) (p' := 149) (s' := [.int 1, .ref 66]) rfl rfl rfl ?_
                  refine ev_x (i := .iload_n 2) (len := 1) (p' := 150) (s' := [.int x_2, .int 1, .ref 66]) rfl rfl rfl ?_
                  obtain ⟨p_22, G_22, H⟩ := F_bd H
                  refine ev_cv (d := d + 3) (As := [.int 1, .int x_2]) (a := 66) (p' := 153) rfl rfl rfl ly_66 rfl rfl rfl rfl rfl rfl rfl (F_186_ok (d := d + 1)   G_22) ?_
                  refine ev_st (st' := []) rfl ?_
                  have e_22 := F_186_R G_22
                  refine ev_x (i := .aload_n 0) (len := 1) (p' := 154) (s' := [.ref 66]) rfl rfl rfl ?_
                  refine ev_gc (p' := 157) (v := 165) rfl rfl rfl ly_66 rfl rfl ?_
                  refine ev_gi (p' := 160) (v := (gI p_22 165 1)) rfl rfl rfl ly_165 rfl rfl rfl ?_
                  refine ev_x (i := .istore 5) (len := 2) (p' := 162) (s' := []) (l' := [(5, .int (gI p_22 165 1)), (4, .int p_2.1), (3, .int p_1.1), (0, .ref 66), (1, .ref 79), (2, .int x_2)]) rfl rfl rfl ?_
                  refine ev_x (i := .iload 4) (len := 2) (p' := 164) (s' := [.int p_2.1]) rfl rfl rfl ?_
                  refine ev_x (i := .istore 6) (len := 2) (p' := 166) (s' := []) (l' := [(6, .int p_2.1), (5, .int (gI p_22 165 1)), (4, .int p_2.1), (3, .int p_1.1), (0, .ref 66), (1, .ref 79), (2, .int x_2)]) rfl rfl rfl ?_
                  exact (L_187_ok (d := d) (Or.inl rfl) N) _ _ _ _ _ rfl rfl rfl rfl rfl  H
  · refine ev_x (i := .aload_n 1) (len := 1) (p' := 1) (s' := [.ref 115]) rfl rfl rfl ?_
    refine ev_gc (p' := 4) (v := 116) rfl rfl rfl ly_115 rfl rfl ?_
    refine ev_x (i := .iload_n 2) (len := 1) (p' := 5) (s' := [.int x_2, .ref 116]) rfl rfl rfl ?_
    obtain ⟨p_1, G_1, H⟩ := F_bd H
    refine ev_cv (d := d + 3) (As := [.int x_2]) (a := 116) (p' := 8) rfl rfl rfl ly_116 rfl rfl rfl rfl rfl rfl rfl (N_139_ok (d := d + 2) nm_116 G_1) ?_
    refine ev_st (st' := [.int p_1.1]) rfl ?_
    have e_1 := N_139_R G_1
    refine ev_x (i := .istore_n 3) (len := 1) (p' := 9) (s' := []) (l' := [(3, .int p_1.1), (0, .ref 66), (1, .ref 115), (2, .int x_2)]) rfl rfl rfl ?_
    refine ev_x (i := .aload_n 1) (len := 1) (p' := 10) (s' := [.ref 115]) rfl rfl rfl ?_
    refine ev_gc (p' := 13) (v := 124) rfl rfl rfl ly_115 rfl rfl ?_
    refine ev_x (i := .iload_n 2) (len := 1) (p' := 14) (s' := [.int x_2, .ref 124]) rfl rfl rfl ?_
    obtain ⟨p_2, G_2, H⟩ := F_bd H
    refine ev_cv (d := d + 3) (As := [.int x_2]) (a := 124) (p' := 17) rfl rfl rfl ly_124 rfl rfl rfl rfl rfl rfl rfl (N_139_ok (d := d + 2) nm_124 G_2) ?_
    refine ev_st (st' := [.int p_2.1]) rfl ?_
    have e_2 := N_139_R G_2
    refine ev_x (i := .istore 4) (len := 2) (p' := 19) (s' := []) (l' := [(4, .int p_2.1), (3, .int p_1.1), (0, .ref 66), (1, .ref 115), (2, .int x_2)]) rfl rfl rfl ?_
    refine ev_x (i := .iload_n 3) (len := 1) (p' := 20) (s' := [.int p_1.1]) rfl rfl rfl ?_
    refine F_if H (fun c_3 H => ?_) (fun c_3 H => ?_)
    · refine ev_st (st' := [.int 1]) (congrArg (fun z => Value.int z :: []) c_3) ?_
      refine ev_ls (t := 119) rfl rfl rfl (by decide) ?_
      refine ev_x (i := .aload_n 0) (len := 1) (p' := 120) (s' := [.ref 66]) rfl rfl rfl ?_
      refine ev_x (i := .aload_n 1) (len := 1) (p' := 121) (s' := [.ref 115, .ref 66]) rfl rfl rfl ?_
      refine ev_x (i := .aload_n 1) (len := 1) (p' := 122) (s' := [.ref 115, .ref 115, .ref 66]) rfl rfl rfl ?_
      refine ev_gc (p' := 125) (v := 122) rfl rfl rfl ly_115 rfl rfl ?_
      refine ev_x (i := .iload_n 2) (len := 1) (p' := 126) (s' := [.int x_2, .ref 122, .ref 115, .ref 66]) rfl rfl rfl ?_
      obtain ⟨p_4, G_4, H⟩ := F_bd H
      refine ev_cv (d := d + 3) (As := [.int x_2]) (a := 122) (p' := 129) rfl rfl rfl ly_122 rfl rfl rfl rfl rfl rfl rfl (N_139_ok (d := d + 2) nm_122 G_4) ?_
      refine ev_st (st' := [.int p_4.1, .ref 115, .ref 66]) rfl ?_
      have e_4 := N_139_R G_4
      obtain ⟨p_5, G_5, H⟩ := F_bd H
      refine ev_cv (d := d + 3) (As := [.ref 115, .int p_4.1]) (a := 66) (p' := 132) rfl rfl rfl ly_66 rfl rfl rfl rfl rfl rfl rfl (F_190_ok (d := d + 0) (hg := (Or.inr rfl))  G_5) ?_
      refine ev_st (st' := []) rfl ?_
      have e_5 := F_190_R G_5
      obtain rfl := Option.some.inj H
      exact ev_vret rfl rfl rfl
    · refine F_if H (fun c_6 H => ?_) (fun c_6 H => ?_)
      · refine ev_st (st' := [.int 2]) (congrArg (fun z => Value.int z :: []) c_6) ?_
        refine ev_ls (t := 88) rfl rfl rfl (by decide) ?_
        refine ev_x (i := .aload_n 0) (len := 1) (p' := 89) (s' := [.ref 66]) rfl rfl rfl ?_
        refine ev_x (i := .aload_n 1) (len := 1) (p' := 90) (s' := [.ref 115, .ref 66]) rfl rfl rfl ?_
        refine ev_gc (p' := 93) (v := 122) rfl rfl rfl ly_115 rfl rfl ?_
        refine ev_x (i := .iload_n 2) (len := 1) (p' := 94) (s' := [.int x_2, .ref 122, .ref 66]) rfl rfl rfl ?_
        obtain ⟨p_7, G_7, H⟩ := F_bd H
        refine ev_cv (d := d + 3) (As := [.int x_2]) (a := 122) (p' := 97) rfl rfl rfl ly_122 rfl rfl rfl rfl rfl rfl rfl (N_139_ok (d := d + 2) nm_122 G_7) ?_
        refine ev_st (st' := [.int p_7.1, .ref 66]) rfl ?_
        have e_7 := N_139_R G_7
        refine ev_x (i := .i2l) (len := 1) (p' := 98) (s' := [.long (p_7.1 : Int32).toInt64, .ref 66]) rfl rfl rfl ?_
        refine ev_x (i := .lconst 1) (len := 1) (p' := 99) (s' := [.long 1, .long (p_7.1 : Int32).toInt64, .ref 66]) rfl rfl rfl ?_
        obtain ⟨p_8, G_8, H⟩ := F_bd H
        refine ev_cv (d := d + 3) (As := [.long (p_7.1 : Int32).toInt64, .long 1]) (a := 66) (p' := 102) rfl rfl rfl ly_66 rfl rfl rfl rfl rfl rfl rfl (F_188_ok (d := d + 2)   G_8) ?_
        refine ev_st (st' := []) rfl ?_
        have e_8 := F_188_R G_8
        obtain rfl := Option.some.inj H
        exact ev_vret rfl rfl rfl
      · refine F_if H (fun c_9 H => ?_) (fun c_9 H => ?_)
        · refine ev_st (st' := [.int 12]) (congrArg (fun z => Value.int z :: []) c_9) ?_
          refine ev_ls (t := 103) rfl rfl rfl (by decide) ?_
          refine ev_x (i := .aload_n 0) (len := 1) (p' := 104) (s' := [.ref 66]) rfl rfl rfl ?_
          refine ev_x (i := .iload_n 3) (len := 1) (p' := 105) (s' := [.int p_1.1, .ref 66]) rfl rfl rfl ?_
          refine ev_x (i := .bipush 12) (len := 2) (p' := 107) (s' := [.int 12, .int p_1.1, .ref 66]) rfl rfl rfl ?_
          refine ev_b2 (t := 114) (p' := 110) rfl rfl rfl (if_neg (fun q => q c_9)) ?_
          refine ev_x (i := .iconst 1) (len := 1) (p' := 111) (s' := [.int 1, .ref 66]) rfl rfl rfl ?_
          refine ev_x (i := .goto 4) (len := 3) (p' := 115) (s' := [.int 1, .ref 66]) rfl rfl rfl ?_
          obtain ⟨p_10, G_10, H⟩ := F_bd H
          refine ev_cv (d := d + 3) (As := [.int 1]) (a := 66) (p' := 118) rfl rfl rfl ly_66 rfl rfl rfl rfl rfl rfl rfl (F_189_ok (d := d + 1)   G_10) ?_
          refine ev_st (st' := []) rfl ?_
          have e_10 := F_189_R G_10
          obtain rfl := Option.some.inj H
          exact ev_vret rfl rfl rfl
        · refine F_if H (fun c_11 H => ?_) (fun c_11 H => ?_)
          · refine ev_st (st' := [.int 13]) (congrArg (fun z => Value.int z :: []) c_11) ?_
            refine ev_ls (t := 103) rfl rfl rfl (by decide) ?_
            refine ev_x (i := .aload_n 0) (len := 1) (p' := 104) (s' := [.ref 66]) rfl rfl rfl ?_
            refine ev_x (i := .iload_n 3) (len := 1) (p' := 105) (s' := [.int p_1.1, .ref 66]) rfl rfl rfl ?_
            refine ev_x (i := .bipush 12) (len := 2) (p' := 107) (s' := [.int 12, .int p_1.1, .ref 66]) rfl rfl rfl ?_
            refine ev_b2 (t := 114) (p' := 114) rfl rfl rfl (if_pos c_9) ?_
            refine ev_x (i := .iconst 0) (len := 1) (p' := 115) (s' := [.int 0, .ref 66]) rfl rfl rfl ?_
            obtain ⟨p_12, G_12, H⟩ := F_bd H
            refine ev_cv (d := d + 3) (As := [.int 0]) (a := 66) (p' := 118) rfl rfl rfl ly_66 rfl rfl rfl rfl rfl rfl rfl (F_189_ok (d := d + 1)   G_12) ?_
            refine ev_st (st' := []) rfl ?_
            have e_12 := F_189_R G_12
            obtain rfl := Option.some.inj H
            exact ev_vret rfl rfl rfl
          · refine F_if H (fun c_13 H => ?_) (fun c_13 H => ?_)
            · refine ev_st (st' := [.int 29]) (congrArg (fun z => Value.int z :: []) c_13) ?_
              refine ev_ls (t := 133) rfl rfl rfl (by decide) ?_
              refine ev_x (i := .aload_n 0) (len := 1) (p' := 134) (s' := [.ref 66]) rfl rfl rfl ?_
              refine ev_x (i := .iconst 2) (len := 1) (p' := 135) (s' := [.int 2, .ref 66]) rfl rfl rfl ?_
              refine ev_x (i := .iload_n 2) (len := 1) (p' := 136) (s' := [.int x_2, .int 2, .ref 66]) rfl rfl rfl ?_
              obtain ⟨p_14, G_14, H⟩ := F_bd H
              refine ev_cv (d := d + 3) (As := [.int 2, .int x_2]) (a := 66) (p' := 139) rfl rfl rfl ly_66 rfl rfl rfl rfl rfl rfl rfl (F_186_ok (d := d + 1)   G_14) ?_
              refine ev_st (st' := []) rfl ?_
              have e_14 := F_186_R G_14
              refine ev_x (i := .aload_n 0) (len := 1) (p' := 140) (s' := [.ref 66]) rfl rfl rfl ?_
              refine ev_x (i := .iconst 0) (len := 1) (p' := 141) (s' := [.int 0, .ref 66]) rfl rfl rfl ?_
              refine ev_x (i := .iload 4) (len := 2) (p' := 143) (s' := [.int p_2.1, .int 0, .ref 66]) rfl rfl rfl ?_
              obtain ⟨p_15, G_15, H⟩ := F_bd H
              refine ev_cv (d := d + 3) (As := [.int 0, .int p_2.1]) (a := 66) (p' := 146) rfl rfl rfl ly_66 rfl rfl rfl rfl rfl rfl rfl (F_186_ok (d := d + 1)   G_15) ?_
              refine ev_st (st' := []) rfl ?_
              have e_15 := F_186_R G_15
              obtain rfl := Option.some.inj H
              exact ev_vret rfl rfl rfl
            · refine F_if H (fun c_16 H => ?_) (fun c_16 H => ?_)
              · refine ev_st (st' := [.int 30]) (congrArg (fun z => Value.int z :: []) c_16) ?_
                refine ev_ls (t := 133) rfl rfl rfl (by decide) ?_
                refine ev_x (i := .aload_n 0) (len := 1) (p' := 134) (s' := [.ref 66]) rfl rfl rfl ?_
                refine ev_x (i := .iconst 2) (len := 1) (p' := 135) (s' := [.int 2, .ref 66]) rfl rfl rfl ?_
                refine ev_x (i := .iload_n 2) (len := 1) (p' := 136) (s' := [.int x_2, .int 2, .ref 66]) rfl rfl rfl ?_
                obtain ⟨p_17, G_17, H⟩ := F_bd H
                refine ev_cv (d := d + 3) (As := [.int 2, .int x_2]) (a := 66) (p' := 139) rfl rfl rfl ly_66 rfl rfl rfl rfl rfl rfl rfl (F_186_ok (d := d + 1)   G_17) ?_
                refine ev_st (st' := []) rfl ?_
                have e_17 := F_186_R G_17
                refine ev_x (i := .aload_n 0) (len := 1) (p' := 140) (s' := [.ref 66]) rfl rfl rfl ?_
                refine ev_x (i := .iconst 0) (len := 1) (p' := 141) (s' := [.int 0, .ref 66]) rfl rfl rfl ?_
                refine ev_x (i := .iload 4) (len := 2) (p' := 143) (s' := [.int p_2.1, .int 0, .ref 66]) rfl rfl rfl ?_
                obtain ⟨p_18, G_18, H⟩ := F_bd H
                refine ev_cv (d := d + 3) (As := [.int 0, .int p_2.1]) (a := 66) (p' := 146) rfl rfl rfl ly_66 rfl rfl rfl rfl rfl rfl rfl (F_186_ok (d := d + 1)   G_18) ?_
                refine ev_st (st' := []) rfl ?_
                have e_18 := F_186_R G_18
                obtain rfl := Option.some.inj H
                exact ev_vret rfl rfl rfl
              · refine F_if H (fun c_19 H => ?_) (fun c_19 H => ?_)
                · refine ev_st (st' := [.int 32]) (congrArg (fun z => Value.int z :: []) c_19) ?_
                  refine ev_ls (t := 133) rfl rfl rfl (by decide) ?_
                  refine ev_x (i := .aload_n 0) (len := 1) (p' := 134) (s' := [.ref 66]) rfl rfl rfl ?_
                  refine ev_x (i := .iconst 2) (len := 1) (p' := 135) (s' := [.int 2, .ref 66]) rfl rfl rfl ?_
                  refine ev_x (i := .iload_n 2) (len := 1) (p' := 136) (s' := [.int x_2, .int 2, .ref 66]) rfl rfl rfl ?_
                  obtain ⟨p_20, G_20, H⟩ := F_bd H
                  refine ev_cv (d := d + 3) (As := [.int 2, .int x_2]) (a := 66) (p' := 139) rfl rfl rfl ly_66 rfl rfl rfl rfl rfl rfl rfl (F_186_ok (d := d + 1)   G_20) ?_
                  refine ev_st (st' := []) rfl ?_
                  have e_20 := F_186_R G_20
                  refine ev_x (i := .aload_n 0) (len := 1) (p' := 140) (s' := [.ref 66]) rfl rfl rfl ?_
                  refine ev_x (i := .iconst 0) (len := 1) (p' := 141) (s' := [.int 0, .ref 66]) rfl rfl rfl ?_
                  refine ev_x (i := .iload 4) (len := 2) (p' := 143) (s' := [.int p_2.1, .int 0, .ref 66]) rfl rfl rfl ?_
                  obtain ⟨p_21, G_21, H⟩ := F_bd H
                  refine ev_cv (d := d + 3) (As := [.int 0, .int p_2.1]) (a := 66) (p' := 146) rfl rfl rfl ly_66 rfl rfl rfl rfl rfl rfl rfl (F_186_ok (d := d + 1)   G_21) ?_
                  refine ev_st (st' := []) rfl ?_
                  have e_21 := F_186_R G_21
                  obtain rfl := Option.some.inj H
                  exact ev_vret rfl rfl rfl
                · refine ev_ls (t := 147) rfl rfl rfl (ls_go ((ls_ne (i32_ne (k := 1) (by decide) c_3)).trans ((ls_ne (i32_ne (k := 2) (by decide) c_6)).trans ((ls_ne (i32_ne (k := 12) (by decide) c_9)).trans ((ls_ne (i32_ne (k := 13) (by decide) c_11)).trans ((ls_ne (i32_ne (k := 29) (by decide) c_13)).trans ((ls_ne (i32_ne (k := 30) (by decide) c_16)).trans ((ls_ne (i32_ne (k := 32) (by decide) c_19)).trans rfl))))))) rfl) ?_
                  refine ev_x (i := .aload_n 0) (len := 1) (p' := 148) (s' := [.ref 66]) rfl rfl rfl ?_
                  refine ev_x (i := .iconst 1) (len := 1) (p' := 149) (s' := [.int 1, .ref 66]) rfl rfl rfl ?_
                  refine ev_x (i := .iload_n 2) (len := 1) (p' := 150) (s' := [.int x_2, .int 1, .ref 66]) rfl rfl rfl ?_
                  obtain ⟨p_22, G_22, H⟩ := F_bd H
                  refine ev_cv (d := d + 3) (As := [.int 1, .int x_2]) (a := 66) (p' := 153) rfl rfl rfl ly_66 rfl rfl rfl rfl rfl rfl rfl (F_186_ok (d := d + 1)   G_22) ?_
                  refine ev_st (st' := []) rfl ?_
                  have e_22 := F_186_R G_22
                  refine ev_x (i := .aload_n 0) (len := 1) (p' := 154) (s' := [.ref 66]) rfl rfl rfl ?_
                  refine ev_gc (p' := 157) (v := 165) rfl rfl rfl ly_66 rfl rfl ?_
                  refine ev_gi (p' := 160) (v := (gI p_22 165 1)) rfl rfl rfl ly_165 rfl rfl rfl ?_
                  refine ev_x (i := .istore 5) (len := 2) (p' := 162) (s' := []) (l' := [(5, .int (gI p_22 165 1)), (4, .int p_2.1), (3, .int p_1.1), (0, .ref 66), (1, .ref 115), (2, .int x_2)]) rfl rfl rfl ?_
                  refine ev_x (i := .iload 4) (len := 2) (p' := 164) (s' := [.int p_2.1]) rfl rfl rfl ?_
                  refine ev_x (i := .istore 6) (len := 2) (p' := 166) (s' := []) (l' := [(6, .int p_2.1), (5, .int (gI p_22 165 1)), (4, .int p_2.1), (3, .int p_1.1), (0, .ref 66), (1, .ref 115), (2, .int x_2)]) rfl rfl rfl ?_
                  exact (L_187_ok (d := d) (Or.inr rfl) N) _ _ _ _ _ rfl rfl rfl rfl rfl  H
/-- GameTextModel.best(ZII)V, its loops -/
def L_193 (N : Nat) : Nat → Int32 → Int32 → Int32 → Int32 → Int32 → st_S → Option (st_S)
  | 0, _, _, _, _, _, _ => none
  | k + 1, l_1, l_2, l_3, l_4, l_5, σ =>
      if (l_2 + l_3) ≤ l_5 then
        if aB l_4 (gN σ 163) then
        if aB l_4 (gN σ 164) then
        (F_188 N (gL (σ) 163 (l_4 : Int32).toNatClampNeg) (gL (σ) 164 (l_4 : Int32).toNatClampNeg) (σ)).bind fun p_4 =>
        some (p_4)
        else none
        else none
      else
        if aB l_5 (gN σ 163) then
        if aB l_4 (gN σ 164) then
        if aB l_4 (gN σ 163) then
        if aB l_5 (gN σ 164) then
        if l_1 = 0 then
            L_193 N k l_1 l_2 l_3 (if (lg_cmp (((gL (σ) 163 (l_5 : Int32).toNatClampNeg) * (gL (σ) 164 (l_4 : Int32).toNatClampNeg)) - ((gL (σ) 163 (l_4 : Int32).toNatClampNeg) * (gL (σ) 164 (l_5 : Int32).toNatClampNeg))) 0) ≤ 0 then l_4 else l_5 : Int32) (l_5 + 1) (σ)
        else
          if (lg_cmp (((gL (σ) 163 (l_5 : Int32).toNatClampNeg) * (gL (σ) 164 (l_4 : Int32).toNatClampNeg)) - ((gL (σ) 163 (l_4 : Int32).toNatClampNeg) * (gL (σ) 164 (l_5 : Int32).toNatClampNeg))) 0) < 0 then
            L_193 N k l_1 l_2 l_3 l_5 (l_5 + 1) (σ)
          else
              L_193 N k l_1 l_2 l_3 l_4 (l_5 + 1) (σ)
        else none
        else none
        else none
        else none
set_option maxRecDepth 100000 in
theorem L_193_R {N : Nat} : ∀ (k : Nat) (l_1 : Int32) (l_2 : Int32) (l_3 : Int32) (l_4 : Int32) (l_5 : Int32) (σ : st_S) (p : st_S), L_193 N k l_1 l_2 l_3 l_4 l_5 σ = some p → gR p = gR σ := by
  intro k
  induction k with
  | zero => intro l_1 l_2 l_3 l_4 l_5 σ p H; unfold L_193 at H; cases H
  | succ k ih =>
    intro l_1 l_2 l_3 l_4 l_5 σ p H
    unfold L_193 at H
    refine F_if H (fun _ H => ?_) (fun _ H => ?_)
    · obtain ⟨_, H⟩ := F_gd H
      obtain ⟨_, H⟩ := F_gd H
      obtain ⟨p_4, G_4, H⟩ := F_bd H
      obtain rfl := Option.some.inj H
      exact ((F_188_R G_4).trans rfl)
    · obtain ⟨_, H⟩ := F_gd H
      obtain ⟨_, H⟩ := F_gd H
      obtain ⟨_, H⟩ := F_gd H
      obtain ⟨_, H⟩ := F_gd H
      refine F_if H (fun _ H => ?_) (fun _ H => ?_)
      · exact (((ih _ _ _ _ _ _ _ H)).trans rfl)
      · refine F_if H (fun _ H => ?_) (fun _ H => ?_)
        · exact (((ih _ _ _ _ _ _ _ H)).trans rfl)
        · exact (((ih _ _ _ _ _ _ _ H)).trans rfl)
set_option maxHeartbeats 4000000 in
set_option maxRecDepth 100000 in
theorem L_193_ok {N d : Nat} : ∀ k : Nat, ∀ (l_1 : Int32) (l_2 : Int32) (l_3 : Int32) (l_4 : Int32) (l_5 : Int32) (σ : st_S) (lv : vz_L) (p : st_S), vz_g lv 0 = some (.ref 66) → vz_g lv 1 = some (.int l_1) → vz_g lv 2 = some (.int l_2) → vz_g lv 3 = some (.int l_3) → vz_g lv 4 = some (.int l_4) → vz_g lv 5 = some (.int l_5) → vz_nbL (vz_gr P0) lv = true → L_193 N k l_1 l_2 l_3 l_4 l_5 σ = some p → vz_ev P0 (d + 2) 193 8 lv [] (hp σ) (.inl none, hp p) := by
  intro k
  induction k with
  | zero => intro l_1 l_2 l_3 l_4 l_5 σ lv p g_0 g_1 g_2 g_3 g_4 g_5 hnb H; unfold L_193 at H; cases H
  | succ k ih =>
    intro l_1 l_2 l_3 l_4 l_5 σ lv p g_0 g_1 g_2 g_3 g_4 g_5 hnb H
    unfold L_193 at H
    refine ev_x (i := .iload 5) (len := 2) (p' := 10) (s' := [.int l_5]) rfl rfl (ld_i g_5) ?_
    refine ev_x (i := .iload_n 2) (len := 1) (p' := 11) (s' := [.int l_2, .int l_5]) rfl rfl (ld_i g_2) ?_
    refine ev_x (i := .iload_n 3) (len := 1) (p' := 12) (s' := [.int l_3, .int l_2, .int l_5]) rfl rfl (ld_i g_3) ?_
    refine ev_x (i := .iadd) (len := 1) (p' := 13) (s' := [.int (l_2 + l_3), .int l_5]) rfl rfl rfl ?_
    refine F_if H (fun c_1 H => ?_) (fun c_1 H => ?_)
    · refine ev_b2 (t := 86) (p' := 86) rfl rfl rfl (if_pos c_1) ?_
      refine ev_x (i := .aload_n 0) (len := 1) (p' := 87) (s' := [.ref 66]) rfl rfl (ld_a g_0) ?_
      refine ev_x (i := .aload_n 0) (len := 1) (p' := 88) (s' := [.ref 66, .ref 66]) rfl rfl (ld_a g_0) ?_
      refine ev_gc (p' := 91) (v := 163) rfl rfl rfl ly_66 rfl rfl ?_
      refine ev_x (i := .iload 4) (len := 2) (p' := 93) (s' := [.int l_4, .ref 163, .ref 66]) rfl rfl (ld_i g_4) ?_
      obtain ⟨b_2, H⟩ := F_gd H
      refine ev_gL (p' := 94) (v := (gL (σ) 163 (l_4 : Int32).toNatClampNeg)) rfl rfl ly_163 rfl (gd_in b_2) rfl ?_
      refine ev_x (i := .aload_n 0) (len := 1) (p' := 95) (s' := [.ref 66, .long (gL (σ) 163 (l_4 : Int32).toNatClampNeg), .ref 66]) rfl rfl (ld_a g_0) ?_
      refine ev_gc (p' := 98) (v := 164) rfl rfl rfl ly_66 rfl rfl ?_
      refine ev_x (i := .iload 4) (len := 2) (p' := 100) (s' := [.int l_4, .ref 164, .long (gL (σ) 163 (l_4 : Int32).toNatClampNeg), .ref 66]) rfl rfl (ld_i g_4) ?_
      obtain ⟨b_3, H⟩ := F_gd H
      refine ev_gL (p' := 101) (v := (gL (σ) 164 (l_4 : Int32).toNatClampNeg)) rfl rfl ly_164 rfl (gd_in b_3) rfl ?_
      obtain ⟨p_4, G_4, H⟩ := F_bd H
      refine ev_cv (d := d + 1) (As := [.long (gL (σ) 163 (l_4 : Int32).toNatClampNeg), .long (gL (σ) 164 (l_4 : Int32).toNatClampNeg)]) (a := 66) (p' := 104) rfl rfl rfl ly_66 rfl rfl rfl rfl rfl hnb rfl (F_188_ok (d := d + 0)   G_4) ?_
      refine ev_st (st' := []) rfl ?_
      have e_4 := F_188_R G_4
      obtain rfl := Option.some.inj H
      exact ev_vret rfl rfl rfl
    · refine ev_b2 (t := 86) (p' := 16) rfl rfl rfl (if_neg c_1) ?_
      refine ev_x (i := .aload_n 0) (len := 1) (p' := 17) (s' := [.ref 66]) rfl rfl (ld_a g_0) ?_
      refine ev_gc (p' := 20) (v := 163) rfl rfl rfl ly_66 rfl rfl ?_
      refine ev_x (i := .iload 5) (len := 2) (p' := 22) (s' := [.int l_5, .ref 163]) rfl rfl (ld_i g_5) ?_
      obtain ⟨b_5, H⟩ := F_gd H
      refine ev_gL (p' := 23) (v := (gL (σ) 163 (l_5 : Int32).toNatClampNeg)) rfl rfl ly_163 rfl (gd_in b_5) rfl ?_
      refine ev_x (i := .aload_n 0) (len := 1) (p' := 24) (s' := [.ref 66, .long (gL (σ) 163 (l_5 : Int32).toNatClampNeg)]) rfl rfl (ld_a g_0) ?_
      refine ev_gc (p' := 27) (v := 164) rfl rfl rfl ly_66 rfl rfl ?_
      refine ev_x (i := .iload 4) (len := 2) (p' := 29) (s' := [.int l_4, .ref 164, .long (gL (σ) 163 (l_5 : Int32).toNatClampNeg)]) rfl rfl (ld_i g_4) ?_
      obtain ⟨b_6, H⟩ := F_gd H
      refine ev_gL (p' := 30) (v := (gL (σ) 164 (l_4 : Int32).toNatClampNeg)) rfl rfl ly_164 rfl (gd_in b_6) rfl ?_
      refine ev_x (i := .lmul) (len := 1) (p' := 31) (s' := [.long ((gL (σ) 163 (l_5 : Int32).toNatClampNeg) * (gL (σ) 164 (l_4 : Int32).toNatClampNeg))]) rfl rfl rfl ?_
      refine ev_x (i := .aload_n 0) (len := 1) (p' := 32) (s' := [.ref 66, .long ((gL (σ) 163 (l_5 : Int32).toNatClampNeg) * (gL (σ) 164 (l_4 : Int32).toNatClampNeg))]) rfl rfl (ld_a g_0) ?_
      refine ev_gc (p' := 35) (v := 163) rfl rfl rfl ly_66 rfl rfl ?_
      refine ev_x (i := .iload 4) (len := 2) (p' := 37) (s' := [.int l_4, .ref 163, .long ((gL (σ) 163 (l_5 : Int32).toNatClampNeg) * (gL (σ) 164 (l_4 : Int32).toNatClampNeg))]) rfl rfl (ld_i g_4) ?_
      obtain ⟨b_7, H⟩ := F_gd H
      refine ev_gL (p' := 38) (v := (gL (σ) 163 (l_4 : Int32).toNatClampNeg)) rfl rfl ly_163 rfl (gd_in b_7) rfl ?_
      refine ev_x (i := .aload_n 0) (len := 1) (p' := 39) (s' := [.ref 66, .long (gL (σ) 163 (l_4 : Int32).toNatClampNeg), .long ((gL (σ) 163 (l_5 : Int32).toNatClampNeg) * (gL (σ) 164 (l_4 : Int32).toNatClampNeg))]) rfl rfl (ld_a g_0) ?_
      refine ev_gc (p' := 42) (v := 164) rfl rfl rfl ly_66 rfl rfl ?_
      refine ev_x (i := .iload 5) (len := 2) (p' := 44) (s' := [.int l_5, .ref 164, .long (gL (σ) 163 (l_4 : Int32).toNatClampNeg), .long ((gL (σ) 163 (l_5 : Int32).toNatClampNeg) * (gL (σ) 164 (l_4 : Int32).toNatClampNeg))]) rfl rfl (ld_i g_5) ?_
      obtain ⟨b_8, H⟩ := F_gd H
      refine ev_gL (p' := 45) (v := (gL (σ) 164 (l_5 : Int32).toNatClampNeg)) rfl rfl ly_164 rfl (gd_in b_8) rfl ?_
      refine ev_x (i := .lmul) (len := 1) (p' := 46) (s' := [.long ((gL (σ) 163 (l_4 : Int32).toNatClampNeg) * (gL (σ) 164 (l_5 : Int32).toNatClampNeg)), .long ((gL (σ) 163 (l_5 : Int32).toNatClampNeg) * (gL (σ) 164 (l_4 : Int32).toNatClampNeg))]) rfl rfl rfl ?_
      refine ev_x (i := .lsub) (len := 1) (p' := 47) (s' := [.long (((gL (σ) 163 (l_5 : Int32).toNatClampNeg) * (gL (σ) 164 (l_4 : Int32).toNatClampNeg)) - ((gL (σ) 163 (l_4 : Int32).toNatClampNeg) * (gL (σ) 164 (l_5 : Int32).toNatClampNeg)))]) rfl rfl rfl ?_
      refine ev_x (i := .lstore 6) (len := 2) (p' := 49) (s' := []) (l' := vz_s2 (lv) 6 (.long (((gL (σ) 163 (l_5 : Int32).toNatClampNeg) * (gL (σ) 164 (l_4 : Int32).toNatClampNeg)) - ((gL (σ) 163 (l_4 : Int32).toNatClampNeg) * (gL (σ) 164 (l_5 : Int32).toNatClampNeg))))) rfl rfl rfl ?_
      refine ev_x (i := .iload_n 1) (len := 1) (p' := 50) (s' := [.int l_1]) rfl rfl (ld_i (vg_o2 (i := 6) (v := .long (((gL (σ) 163 (l_5 : Int32).toNatClampNeg) * (gL (σ) 164 (l_4 : Int32).toNatClampNeg)) - ((gL (σ) 163 (l_4 : Int32).toNatClampNeg) * (gL (σ) 164 (l_5 : Int32).toNatClampNeg)))) g_1 (by decide) (by decide) (Or.inl rfl))) ?_
      refine F_if H (fun c_9 H => ?_) (fun c_9 H => ?_)
      · refine ev_b0 (t := 60) (p' := 60) rfl rfl rfl (if_pos c_9) ?_
        refine ev_x (i := .iload_n 1) (len := 1) (p' := 61) (s' := [.int l_1]) rfl rfl (ld_i (vg_o2 (i := 6) (v := .long (((gL (σ) 163 (l_5 : Int32).toNatClampNeg) * (gL (σ) 164 (l_4 : Int32).toNatClampNeg)) - ((gL (σ) 163 (l_4 : Int32).toNatClampNeg) * (gL (σ) 164 (l_5 : Int32).toNatClampNeg)))) g_1 (by decide) (by decide) (Or.inl rfl))) ?_
        refine ev_b0 (t := 76) (p' := 64) rfl rfl rfl (if_neg (fun q => q c_9)) ?_
        refine ev_x (i := .lload 6) (len := 2) (p' := 66) (s' := [.long (((gL (σ) 163 (l_5 : Int32).toNatClampNeg) * (gL (σ) 164 (l_4 : Int32).toNatClampNeg)) - ((gL (σ) 163 (l_4 : Int32).toNatClampNeg) * (gL (σ) 164 (l_5 : Int32).toNatClampNeg)))]) rfl rfl (ld_l (vg_s2 (lv) 6 (.long (((gL (σ) 163 (l_5 : Int32).toNatClampNeg) * (gL (σ) 164 (l_4 : Int32).toNatClampNeg)) - ((gL (σ) 163 (l_4 : Int32).toNatClampNeg) * (gL (σ) 164 (l_5 : Int32).toNatClampNeg)))))) ?_
        refine ev_x (i := .lconst 0) (len := 1) (p' := 67) (s' := [.long 0, .long (((gL (σ) 163 (l_5 : Int32).toNatClampNeg) * (gL (σ) 164 (l_4 : Int32).toNatClampNeg)) - ((gL (σ) 163 (l_4 : Int32).toNatClampNeg) * (gL (σ) 164 (l_5 : Int32).toNatClampNeg)))]) rfl rfl rfl ?_
        refine ev_x (i := .lcmp) (len := 1) (p' := 68) (s' := [.int (lg_cmp (((gL (σ) 163 (l_5 : Int32).toNatClampNeg) * (gL (σ) 164 (l_4 : Int32).toNatClampNeg)) - ((gL (σ) 163 (l_4 : Int32).toNatClampNeg) * (gL (σ) 164 (l_5 : Int32).toNatClampNeg))) 0)]) rfl rfl rfl ?_
        refine F_jn (A := vz_ev P0 (d + 2) 193 78 (vz_s2 (lv) 6 (.long (((gL (σ) 163 (l_5 : Int32).toNatClampNeg) * (gL (σ) 164 (l_4 : Int32).toNatClampNeg)) - ((gL (σ) 163 (l_4 : Int32).toNatClampNeg) * (gL (σ) 164 (l_5 : Int32).toNatClampNeg))))) [.int (if (lg_cmp (((gL (σ) 163 (l_5 : Int32).toNatClampNeg) * (gL (σ) 164 (l_4 : Int32).toNatClampNeg)) - ((gL (σ) 163 (l_4 : Int32).toNatClampNeg) * (gL (σ) 164 (l_5 : Int32).toNatClampNeg))) 0) ≤ 0 then l_4 else l_5 : Int32)] (hp (σ)) (.inl none, hp p)) ?_ (fun J => ?_)
        · refine ev_x (i := .istore 4) (len := 2) (p' := 80) (s' := []) (l' := vz_s1 (vz_s2 (lv) 6 (.long (((gL (σ) 163 (l_5 : Int32).toNatClampNeg) * (gL (σ) 164 (l_4 : Int32).toNatClampNeg)) - ((gL (σ) 163 (l_4 : Int32).toNatClampNeg) * (gL (σ) 164 (l_5 : Int32).toNatClampNeg))))) 4 (.int (if (lg_cmp (((gL (σ) 163 (l_5 : Int32).toNatClampNeg) * (gL (σ) 164 (l_4 : Int32).toNatClampNeg)) - ((gL (σ) 163 (l_4 : Int32).toNatClampNeg) * (gL (σ) 164 (l_5 : Int32).toNatClampNeg))) 0) ≤ 0 then l_4 else l_5 : Int32))) rfl rfl rfl ?_
          refine ev_x (i := .iinc 5 1) (len := 3) (p' := 83) (s' := []) (l' := vz_s1 (vz_s1 (vz_s2 (lv) 6 (.long (((gL (σ) 163 (l_5 : Int32).toNatClampNeg) * (gL (σ) 164 (l_4 : Int32).toNatClampNeg)) - ((gL (σ) 163 (l_4 : Int32).toNatClampNeg) * (gL (σ) 164 (l_5 : Int32).toNatClampNeg))))) 4 (.int (if (lg_cmp (((gL (σ) 163 (l_5 : Int32).toNatClampNeg) * (gL (σ) 164 (l_4 : Int32).toNatClampNeg)) - ((gL (σ) 163 (l_4 : Int32).toNatClampNeg) * (gL (σ) 164 (l_5 : Int32).toNatClampNeg))) 0) ≤ 0 then l_4 else l_5 : Int32))) 5 (.int (l_5 + 1))) rfl rfl (ld_inc (vg_o (i := 4) (v := .int (if (lg_cmp (((gL (σ) 163 (l_5 : Int32).toNatClampNeg) * (gL (σ) 164 (l_4 : Int32).toNatClampNeg)) - ((gL (σ) 163 (l_4 : Int32).toNatClampNeg) * (gL (σ) 164 (l_5 : Int32).toNatClampNeg))) 0) ≤ 0 then l_4 else l_5 : Int32)) (vg_o2 (i := 6) (v := .long (((gL (σ) 163 (l_5 : Int32).toNatClampNeg) * (gL (σ) 164 (l_4 : Int32).toNatClampNeg)) - ((gL (σ) 163 (l_4 : Int32).toNatClampNeg) * (gL (σ) 164 (l_5 : Int32).toNatClampNeg)))) g_5 (by decide) (by decide) (Or.inl rfl)) (by decide) (Or.inl rfl)) rfl) ?_
          refine ev_x (i := .goto (-75)) (len := 3) (p' := 8) (s' := []) rfl rfl rfl ?_
          exact ih _ _ _ _ _ _ _ _ (vg_o (i := 5) (v := .int (l_5 + 1)) (vg_o (i := 4) (v := .int (if (lg_cmp (((gL (σ) 163 (l_5 : Int32).toNatClampNeg) * (gL (σ) 164 (l_4 : Int32).toNatClampNeg)) - ((gL (σ) 163 (l_4 : Int32).toNatClampNeg) * (gL (σ) 164 (l_5 : Int32).toNatClampNeg))) 0) ≤ 0 then l_4 else l_5 : Int32)) (vg_o2 (i := 6) (v := .long (((gL (σ) 163 (l_5 : Int32).toNatClampNeg) * (gL (σ) 164 (l_4 : Int32).toNatClampNeg)) - ((gL (σ) 163 (l_4 : Int32).toNatClampNeg) * (gL (σ) 164 (l_5 : Int32).toNatClampNeg)))) g_0 (by decide) (by decide) (Or.inl rfl)) (by decide) (Or.inl rfl)) (by decide) (Or.inl rfl)) (vg_o (i := 5) (v := .int (l_5 + 1)) (vg_o (i := 4) (v := .int (if (lg_cmp (((gL (σ) 163 (l_5 : Int32).toNatClampNeg) * (gL (σ) 164 (l_4 : Int32).toNatClampNeg)) - ((gL (σ) 163 (l_4 : Int32).toNatClampNeg) * (gL (σ) 164 (l_5 : Int32).toNatClampNeg))) 0) ≤ 0 then l_4 else l_5 : Int32)) (vg_o2 (i := 6) (v := .long (((gL (σ) 163 (l_5 : Int32).toNatClampNeg) * (gL (σ) 164 (l_4 : Int32).toNatClampNeg)) - ((gL (σ) 163 (l_4 : Int32).toNatClampNeg) * (gL (σ) 164 (l_5 : Int32).toNatClampNeg)))) g_1 (by decide) (by decide) (Or.inl rfl)) (by decide) (Or.inl rfl)) (by decide) (Or.inl rfl)) (vg_o (i := 5) (v := .int (l_5 + 1)) (vg_o (i := 4) (v := .int (if (lg_cmp (((gL (σ) 163 (l_5 : Int32).toNatClampNeg) * (gL (σ) 164 (l_4 : Int32).toNatClampNeg)) - ((gL (σ) 163 (l_4 : Int32).toNatClampNeg) * (gL (σ) 164 (l_5 : Int32).toNatClampNeg))) 0) ≤ 0 then l_4 else l_5 : Int32)) (vg_o2 (i := 6) (v := .long (((gL (σ) 163 (l_5 : Int32).toNatClampNeg) * (gL (σ) 164 (l_4 : Int32).toNatClampNeg)) - ((gL (σ) 163 (l_4 : Int32).toNatClampNeg) * (gL (σ) 164 (l_5 : Int32).toNatClampNeg)))) g_2 (by decide) (by decide) (Or.inl rfl)) (by decide) (Or.inl rfl)) (by decide) (Or.inl rfl)) (vg_o (i := 5) (v := .int (l_5 + 1)) (vg_o (i := 4) (v := .int (if (lg_cmp (((gL (σ) 163 (l_5 : Int32).toNatClampNeg) * (gL (σ) 164 (l_4 : Int32).toNatClampNeg)) - ((gL (σ) 163 (l_4 : Int32).toNatClampNeg) * (gL (σ) 164 (l_5 : Int32).toNatClampNeg))) 0) ≤ 0 then l_4 else l_5 : Int32)) (vg_o2 (i := 6) (v := .long (((gL (σ) 163 (l_5 : Int32).toNatClampNeg) * (gL (σ) 164 (l_4 : Int32).toNatClampNeg)) - ((gL (σ) 163 (l_4 : Int32).toNatClampNeg) * (gL (σ) 164 (l_5 : Int32).toNatClampNeg)))) g_3 (by decide) (by decide) (Or.inl rfl)) (by decide) (Or.inl rfl)) (by decide) (Or.inl rfl)) (vg_o (i := 5) (v := .int (l_5 + 1)) (vg_s (vz_s2 (lv) 6 (.long (((gL (σ) 163 (l_5 : Int32).toNatClampNeg) * (gL (σ) 164 (l_4 : Int32).toNatClampNeg)) - ((gL (σ) 163 (l_4 : Int32).toNatClampNeg) * (gL (σ) 164 (l_5 : Int32).toNatClampNeg))))) 4 (.int (if (lg_cmp (((gL (σ) 163 (l_5 : Int32).toNatClampNeg) * (gL (σ) 164 (l_4 : Int32).toNatClampNeg)) - ((gL (σ) 163 (l_4 : Int32).toNatClampNeg) * (gL (σ) 164 (l_5 : Int32).toNatClampNeg))) 0) ≤ 0 then l_4 else l_5 : Int32))) (by decide) (Or.inl rfl)) (vg_s (vz_s1 (vz_s2 (lv) 6 (.long (((gL (σ) 163 (l_5 : Int32).toNatClampNeg) * (gL (σ) 164 (l_4 : Int32).toNatClampNeg)) - ((gL (σ) 163 (l_4 : Int32).toNatClampNeg) * (gL (σ) 164 (l_5 : Int32).toNatClampNeg))))) 4 (.int (if (lg_cmp (((gL (σ) 163 (l_5 : Int32).toNatClampNeg) * (gL (σ) 164 (l_4 : Int32).toNatClampNeg)) - ((gL (σ) 163 (l_4 : Int32).toNatClampNeg) * (gL (σ) 164 (l_5 : Int32).toNatClampNeg))) 0) ≤ 0 then l_4 else l_5 : Int32))) 5 (.int (l_5 + 1))) (nb_s1 (nb_s1 (nb_s2 hnb rfl) rfl) rfl)  H
        · by_cases c_10 : (lg_cmp (((gL (σ) 163 (l_5 : Int32).toNatClampNeg) * (gL (σ) 164 (l_4 : Int32).toNatClampNeg)) - ((gL (σ) 163 (l_4 : Int32).toNatClampNeg) * (gL (σ) 164 (l_5 : Int32).toNatClampNeg))) 0) ≤ 0
          · refine ev_b0 (t := 76) (p' := 76) rfl rfl rfl (if_pos c_10) ?_
            refine ev_x (i := .iload 4) (len := 2) (p' := 78) (s' := [.int l_4]) rfl rfl (ld_i (vg_o2 (i := 6) (v := .long (((gL (σ) 163 (l_5 : Int32).toNatClampNeg) * (gL (σ) 164 (l_4 : Int32).toNatClampNeg)) - ((gL (σ) 163 (l_4 : Int32).toNatClampNeg) * (gL (σ) 164 (l_5 : Int32).toNatClampNeg)))) g_4 (by decide) (by decide) (Or.inl rfl))) ?_
            exact ev_st (congrArg (fun z => Value.int z :: []) (by rw [if_pos c_10])) J
          · refine ev_b0 (t := 76) (p' := 71) rfl rfl rfl (if_neg c_10) ?_
            refine ev_x (i := .iload 5) (len := 2) (p' := 73) (s' := [.int l_5]) rfl rfl (ld_i (vg_o2 (i := 6) (v := .long (((gL (σ) 163 (l_5 : Int32).toNatClampNeg) * (gL (σ) 164 (l_4 : Int32).toNatClampNeg)) - ((gL (σ) 163 (l_4 : Int32).toNatClampNeg) * (gL (σ) 164 (l_5 : Int32).toNatClampNeg)))) g_5 (by decide) (by decide) (Or.inl rfl))) ?_
            refine ev_x (i := .goto 5) (len := 3) (p' := 78) (s' := [.int l_5]) rfl rfl rfl ?_
            exact ev_st (congrArg (fun z => Value.int z :: []) (by rw [if_neg c_10])) J
      · refine ev_b0 (t := 60) (p' := 53) rfl rfl rfl (if_neg c_9) ?_
        refine ev_x (i := .lload 6) (len := 2) (p' := 55) (s' := [.long (((gL (σ) 163 (l_5 : Int32).toNatClampNeg) * (gL (σ) 164 (l_4 : Int32).toNatClampNeg)) - ((gL (σ) 163 (l_4 : Int32).toNatClampNeg) * (gL (σ) 164 (l_5 : Int32).toNatClampNeg)))]) rfl rfl (ld_l (vg_s2 (lv) 6 (.long (((gL (σ) 163 (l_5 : Int32).toNatClampNeg) * (gL (σ) 164 (l_4 : Int32).toNatClampNeg)) - ((gL (σ) 163 (l_4 : Int32).toNatClampNeg) * (gL (σ) 164 (l_5 : Int32).toNatClampNeg)))))) ?_
        refine ev_x (i := .lconst 0) (len := 1) (p' := 56) (s' := [.long 0, .long (((gL (σ) 163 (l_5 : Int32).toNatClampNeg) * (gL (σ) 164 (l_4 : Int32).toNatClampNeg)) - ((gL (σ) 163 (l_4 : Int32).toNatClampNeg) * (gL (σ) 164 (l_5 : Int32).toNatClampNeg)))]) rfl rfl rfl ?_
        refine ev_x (i := .lcmp) (len := 1) (p' := 57) (s' := [.int (lg_cmp (((gL (σ) 163 (l_5 : Int32).toNatClampNeg) * (gL (σ) 164 (l_4 : Int32).toNatClampNeg)) - ((gL (σ) 163 (l_4 : Int32).toNatClampNeg) * (gL (σ) 164 (l_5 : Int32).toNatClampNeg))) 0)]) rfl rfl rfl ?_
        refine F_if H (fun c_11 H => ?_) (fun c_11 H => ?_)
        · refine ev_b0 (t := 71) (p' := 71) rfl rfl rfl (if_pos c_11) ?_
          refine ev_x (i := .iload 5) (len := 2) (p' := 73) (s' := [.int l_5]) rfl rfl (ld_i (vg_o2 (i := 6) (v := .long (((gL (σ) 163 (l_5 : Int32).toNatClampNeg) * (gL (σ) 164 (l_4 : Int32).toNatClampNeg)) - ((gL (σ) 163 (l_4 : Int32).toNatClampNeg) * (gL (σ) 164 (l_5 : Int32).toNatClampNeg)))) g_5 (by decide) (by decide) (Or.inl rfl))) ?_
          refine ev_x (i := .goto 5) (len := 3) (p' := 78) (s' := [.int l_5]) rfl rfl rfl ?_
          refine ev_x (i := .istore 4) (len := 2) (p' := 80) (s' := []) (l' := vz_s1 (vz_s2 (lv) 6 (.long (((gL (σ) 163 (l_5 : Int32).toNatClampNeg) * (gL (σ) 164 (l_4 : Int32).toNatClampNeg)) - ((gL (σ) 163 (l_4 : Int32).toNatClampNeg) * (gL (σ) 164 (l_5 : Int32).toNatClampNeg))))) 4 (.int l_5)) rfl rfl rfl ?_
          refine ev_x (i := .iinc 5 1) (len := 3) (p' := 83) (s' := []) (l' := vz_s1 (vz_s1 (vz_s2 (lv) 6 (.long (((gL (σ) 163 (l_5 : Int32).toNatClampNeg) * (gL (σ) 164 (l_4 : Int32).toNatClampNeg)) - ((gL (σ) 163 (l_4 : Int32).toNatClampNeg) * (gL (σ) 164 (l_5 : Int32).toNatClampNeg))))) 4 (.int l_5)) 5 (.int (l_5 + 1))) rfl rfl (ld_inc (vg_o (i := 4) (v := .int l_5) (vg_o2 (i := 6) (v := .long (((gL (σ) 163 (l_5 : Int32).toNatClampNeg) * (gL (σ) 164 (l_4 : Int32).toNatClampNeg)) - ((gL (σ) 163 (l_4 : Int32).toNatClampNeg) * (gL (σ) 164 (l_5 : Int32).toNatClampNeg)))) g_5 (by decide) (by decide) (Or.inl rfl)) (by decide) (Or.inl rfl)) rfl) ?_
          refine ev_x (i := .goto (-75)) (len := 3) (p' := 8) (s' := []) rfl rfl rfl ?_
          exact ih _ _ _ _ _ _ _ _ (vg_o (i := 5) (v := .int (l_5 + 1)) (vg_o (i := 4) (v := .int l_5) (vg_o2 (i := 6) (v := .long (((gL (σ) 163 (l_5 : Int32).toNatClampNeg) * (gL (σ) 164 (l_4 : Int32).toNatClampNeg)) - ((gL (σ) 163 (l_4 : Int32).toNatClampNeg) * (gL (σ) 164 (l_5 : Int32).toNatClampNeg)))) g_0 (by decide) (by decide) (Or.inl rfl)) (by decide) (Or.inl rfl)) (by decide) (Or.inl rfl)) (vg_o (i := 5) (v := .int (l_5 + 1)) (vg_o (i := 4) (v := .int l_5) (vg_o2 (i := 6) (v := .long (((gL (σ) 163 (l_5 : Int32).toNatClampNeg) * (gL (σ) 164 (l_4 : Int32).toNatClampNeg)) - ((gL (σ) 163 (l_4 : Int32).toNatClampNeg) * (gL (σ) 164 (l_5 : Int32).toNatClampNeg)))) g_1 (by decide) (by decide) (Or.inl rfl)) (by decide) (Or.inl rfl)) (by decide) (Or.inl rfl)) (vg_o (i := 5) (v := .int (l_5 + 1)) (vg_o (i := 4) (v := .int l_5) (vg_o2 (i := 6) (v := .long (((gL (σ) 163 (l_5 : Int32).toNatClampNeg) * (gL (σ) 164 (l_4 : Int32).toNatClampNeg)) - ((gL (σ) 163 (l_4 : Int32).toNatClampNeg) * (gL (σ) 164 (l_5 : Int32).toNatClampNeg)))) g_2 (by decide) (by decide) (Or.inl rfl)) (by decide) (Or.inl rfl)) (by decide) (Or.inl rfl)) (vg_o (i := 5) (v := .int (l_5 + 1)) (vg_o (i := 4) (v := .int l_5) (vg_o2 (i := 6) (v := .long (((gL (σ) 163 (l_5 : Int32).toNatClampNeg) * (gL (σ) 164 (l_4 : Int32).toNatClampNeg)) - ((gL (σ) 163 (l_4 : Int32).toNatClampNeg) * (gL (σ) 164 (l_5 : Int32).toNatClampNeg)))) g_3 (by decide) (by decide) (Or.inl rfl)) (by decide) (Or.inl rfl)) (by decide) (Or.inl rfl)) (vg_o (i := 5) (v := .int (l_5 + 1)) (vg_s (vz_s2 (lv) 6 (.long (((gL (σ) 163 (l_5 : Int32).toNatClampNeg) * (gL (σ) 164 (l_4 : Int32).toNatClampNeg)) - ((gL (σ) 163 (l_4 : Int32).toNatClampNeg) * (gL (σ) 164 (l_5 : Int32).toNatClampNeg))))) 4 (.int l_5)) (by decide) (Or.inl rfl)) (vg_s (vz_s1 (vz_s2 (lv) 6 (.long (((gL (σ) 163 (l_5 : Int32).toNatClampNeg) * (gL (σ) 164 (l_4 : Int32).toNatClampNeg)) - ((gL (σ) 163 (l_4 : Int32).toNatClampNeg) * (gL (σ) 164 (l_5 : Int32).toNatClampNeg))))) 4 (.int l_5)) 5 (.int (l_5 + 1))) (nb_s1 (nb_s1 (nb_s2 hnb rfl) rfl) rfl)  H
        · refine ev_b0 (t := 71) (p' := 60) rfl rfl rfl (if_neg c_11) ?_
          refine ev_x (i := .iload_n 1) (len := 1) (p' := 61) (s' := [.int l_1]) rfl rfl (ld_i (vg_o2 (i := 6) (v := .long (((gL (σ) 163 (l_5 : Int32).toNatClampNeg) * (gL (σ) 164 (l_4 : Int32).toNatClampNeg)) - ((gL (σ) 163 (l_4 : Int32).toNatClampNeg) * (gL (σ) 164 (l_5 : Int32).toNatClampNeg)))) g_1 (by decide) (by decide) (Or.inl rfl))) ?_
          refine ev_b0 (t := 76) (p' := 76) rfl rfl rfl (if_pos c_9) ?_
          refine ev_x (i := .iload 4) (len := 2) (p' := 78) (s' := [.int l_4]) rfl rfl (ld_i (vg_o2 (i := 6) (v := .long (((gL (σ) 163 (l_5 : Int32).toNatClampNeg) * (gL (σ) 164 (l_4 : Int32).toNatClampNeg)) - ((gL (σ) 163 (l_4 : Int32).toNatClampNeg) * (gL (σ) 164 (l_5 : Int32).toNatClampNeg)))) g_4 (by decide) (by decide) (Or.inl rfl))) ?_
          refine ev_x (i := .istore 4) (len := 2) (p' := 80) (s' := []) (l' := vz_s1 (vz_s2 (lv) 6 (.long (((gL (σ) 163 (l_5 : Int32).toNatClampNeg) * (gL (σ) 164 (l_4 : Int32).toNatClampNeg)) - ((gL (σ) 163 (l_4 : Int32).toNatClampNeg) * (gL (σ) 164 (l_5 : Int32).toNatClampNeg))))) 4 (.int l_4)) rfl rfl rfl ?_
          refine ev_x (i := .iinc 5 1) (len := 3) (p' := 83) (s' := []) (l' := vz_s1 (vz_s1 (vz_s2 (lv) 6 (.long (((gL (σ) 163 (l_5 : Int32).toNatClampNeg) * (gL (σ) 164 (l_4 : Int32).toNatClampNeg)) - ((gL (σ) 163 (l_4 : Int32).toNatClampNeg) * (gL (σ) 164 (l_5 : Int32).toNatClampNeg))))) 4 (.int l_4)) 5 (.int (l_5 + 1))) rfl rfl (ld_inc (vg_o (i := 4) (v := .int l_4) (vg_o2 (i := 6) (v := .long (((gL (σ) 163 (l_5 : Int32).toNatClampNeg) * (gL (σ) 164 (l_4 : Int32).toNatClampNeg)) - ((gL (σ) 163 (l_4 : Int32).toNatClampNeg) * (gL (σ) 164 (l_5 : Int32).toNatClampNeg)))) g_5 (by decide) (by decide) (Or.inl rfl)) (by decide) (Or.inl rfl)) rfl) ?_
          refine ev_x (i := .goto (-75)) (len := 3) (p' := 8) (s' := []) rfl rfl rfl ?_
          exact ih _ _ _ _ _ _ _ _ (vg_o (i := 5) (v := .int (l_5 + 1)) (vg_o (i := 4) (v := .int l_4) (vg_o2 (i := 6) (v := .long (((gL (σ) 163 (l_5 : Int32).toNatClampNeg) * (gL (σ) 164 (l_4 : Int32).toNatClampNeg)) - ((gL (σ) 163 (l_4 : Int32).toNatClampNeg) * (gL (σ) 164 (l_5 : Int32).toNatClampNeg)))) g_0 (by decide) (by decide) (Or.inl rfl)) (by decide) (Or.inl rfl)) (by decide) (Or.inl rfl)) (vg_o (i := 5) (v := .int (l_5 + 1)) (vg_o (i := 4) (v := .int l_4) (vg_o2 (i := 6) (v := .long (((gL (σ) 163 (l_5 : Int32).toNatClampNeg) * (gL (σ) 164 (l_4 : Int32).toNatClampNeg)) - ((gL (σ) 163 (l_4 : Int32).toNatClampNeg) * (gL (σ) 164 (l_5 : Int32).toNatClampNeg)))) g_1 (by decide) (by decide) (Or.inl rfl)) (by decide) (Or.inl rfl)) (by decide) (Or.inl rfl)) (vg_o (i := 5) (v := .int (l_5 + 1)) (vg_o (i := 4) (v := .int l_4) (vg_o2 (i := 6) (v := .long (((gL (σ) 163 (l_5 : Int32).toNatClampNeg) * (gL (σ) 164 (l_4 : Int32).toNatClampNeg)) - ((gL (σ) 163 (l_4 : Int32).toNatClampNeg) * (gL (σ) 164 (l_5 : Int32).toNatClampNeg)))) g_2 (by decide) (by decide) (Or.inl rfl)) (by decide) (Or.inl rfl)) (by decide) (Or.inl rfl)) (vg_o (i := 5) (v := .int (l_5 + 1)) (vg_o (i := 4) (v := .int l_4) (vg_o2 (i := 6) (v := .long (((gL (σ) 163 (l_5 : Int32).toNatClampNeg) * (gL (σ) 164 (l_4 : Int32).toNatClampNeg)) - ((gL (σ) 163 (l_4 : Int32).toNatClampNeg) * (gL (σ) 164 (l_5 : Int32).toNatClampNeg)))) g_3 (by decide) (by decide) (Or.inl rfl)) (by decide) (Or.inl rfl)) (by decide) (Or.inl rfl)) (vg_o (i := 5) (v := .int (l_5 + 1)) (vg_s (vz_s2 (lv) 6 (.long (((gL (σ) 163 (l_5 : Int32).toNatClampNeg) * (gL (σ) 164 (l_4 : Int32).toNatClampNeg)) - ((gL (σ) 163 (l_4 : Int32).toNatClampNeg) * (gL (σ) 164 (l_5 : Int32).toNatClampNeg))))) 4 (.int l_4)) (by decide) (Or.inl rfl)) (vg_s (vz_s1 (vz_s2 (lv) 6 (.long (((gL (σ) 163 (l_5 : Int32).toNatClampNeg) * (gL (σ) 164 (l_4 : Int32).toNatClampNeg)) - ((gL (σ) 163 (l_4 : Int32).toNatClampNeg) * (gL (σ) 164 (l_5 : Int32).toNatClampNeg))))) 4 (.int l_4)) 5 (.int (l_5 + 1))) (nb_s1 (nb_s1 (nb_s2 hnb rfl) rfl) rfl)  H
/-- GameTextModel.best(ZII)V -/
def F_193 (N : Nat) (x_1 : Int32) (x_2 : Int32) (x_3 : Int32) (σ : st_S) : Option (st_S) :=
  L_193 N N x_1 x_2 x_3 x_2 (x_2 + 1) (σ)
set_option maxRecDepth 100000 in
theorem F_193_R {N : Nat} {x_1 : Int32} {x_2 : Int32} {x_3 : Int32} {σ : st_S} {p : st_S} (H : F_193 N x_1 x_2 x_3 σ = some p) : gR p = gR σ := by
  unfold F_193 at H
  exact (((L_193_R _ _ _ _ _ _ _ _ H)).trans rfl)
set_option maxHeartbeats 4000000 in
set_option maxRecDepth 100000 in
theorem F_193_ok {N d : Nat} {x_1 : Int32} {x_2 : Int32} {x_3 : Int32} {σ : st_S} {p : st_S}  (H : F_193 N x_1 x_2 x_3 σ = some p) : vz_ev P0 (d + 2) 193 0 (lv_args 0 [.ref 66, .int x_1, .int x_2, .int x_3]) [] (hp σ) (.inl none, hp p) := by
  unfold F_193 at H
  refine ev_x (i := .iload_n 2) (len := 1) (p' := 1) (s' := [.int x_2]) rfl rfl rfl ?_
  refine ev_x (i := .istore 4) (len := 2) (p' := 3) (s' := []) (l' := [(4, .int x_2), (0, .ref 66), (1, .int x_1), (2, .int x_2), (3, .int x_3)]) rfl rfl rfl ?_
  refine ev_x (i := .iload_n 2) (len := 1) (p' := 4) (s' := [.int x_2]) rfl rfl rfl ?_
  refine ev_x (i := .iconst 1) (len := 1) (p' := 5) (s' := [.int 1, .int x_2]) rfl rfl rfl ?_
  refine ev_x (i := .iadd) (len := 1) (p' := 6) (s' := [.int (x_2 + 1)]) rfl rfl rfl ?_
  refine ev_x (i := .istore 5) (len := 2) (p' := 8) (s' := []) (l' := [(5, .int (x_2 + 1)), (4, .int x_2), (0, .ref 66), (1, .int x_1), (2, .int x_2), (3, .int x_3)]) rfl rfl rfl ?_
  exact (L_193_ok (d := d) N) _ _ _ _ _ _ _ _ rfl rfl rfl rfl rfl rfl rfl  H
/-- GameTextModel.divisor(JJ)J, its loops -/
def L_196 (N : Nat) : Nat → Int64 → Int64 → st_S → Option (Int64 × st_S)
  | 0, _, _, _ => none
  | k + 1, l_4, l_6, σ =>
      if (lg_cmp l_6 0) ≤ 0 then
        some (l_4, σ)
      else
        if ¬ (l_6 : Int64) = 0 then
        L_196 N k l_6 (l_4 - l_4 / l_6 * l_6) (σ)
        else none
set_option maxRecDepth 100000 in
theorem L_196_R {N : Nat} : ∀ (k : Nat) (l_4 : Int64) (l_6 : Int64) (σ : st_S) (p : Int64 × st_S), L_196 N k l_4 l_6 σ = some p → gR p.2 = gR σ := by
  intro k
  induction k with
  | zero => intro l_4 l_6 σ p H; unfold L_196 at H; cases H
  | succ k ih =>
    intro l_4 l_6 σ p H
    unfold L_196 at H
    refine F_if H (fun _ H => ?_) (fun _ H => ?_)
    · obtain rfl := Option.some.inj H
      exact rfl
    · obtain ⟨_, H⟩ := F_gd H
      exact (((ih _ _ _ _ H)).trans rfl)
set_option maxHeartbeats 4000000 in
set_option maxRecDepth 100000 in
theorem L_196_ok {N d : Nat} : ∀ k : Nat, ∀ (l_4 : Int64) (l_6 : Int64) (σ : st_S) (lv : vz_L) (p : Int64 × st_S), vz_g lv 4 = some (.long l_4) → vz_g lv 6 = some (.long l_6) → vz_nbL (vz_gr P0) lv = true → L_196 N k l_4 l_6 σ = some p → vz_ev P0 (d + 1) 196 17 lv [] (hp σ) (.inl (some (.long p.1)), hp p.2) := by
  intro k
  induction k with
  | zero => intro l_4 l_6 σ lv p g_4 g_6 hnb H; unfold L_196 at H; cases H
  | succ k ih =>
    intro l_4 l_6 σ lv p g_4 g_6 hnb H
    unfold L_196 at H
    refine ev_x (i := .lload 6) (len := 2) (p' := 19) (s' := [.long l_6]) rfl rfl (ld_l g_6) ?_
    refine ev_x (i := .lconst 0) (len := 1) (p' := 20) (s' := [.long 0, .long l_6]) rfl rfl rfl ?_
    refine ev_x (i := .lcmp) (len := 1) (p' := 21) (s' := [.int (lg_cmp l_6 0)]) rfl rfl rfl ?_
    refine F_if H (fun c_2 H => ?_) (fun c_2 H => ?_)
    · refine ev_b0 (t := 42) (p' := 42) rfl rfl rfl (if_pos c_2) ?_
      refine ev_x (i := .lload 4) (len := 2) (p' := 44) (s' := [.long l_4]) rfl rfl (ld_l g_4) ?_
      obtain rfl := Option.some.inj H
      exact ev_lret rfl rfl rfl rfl
    · refine ev_b0 (t := 42) (p' := 24) rfl rfl rfl (if_neg c_2) ?_
      refine ev_x (i := .lload 4) (len := 2) (p' := 26) (s' := [.long l_4]) rfl rfl (ld_l g_4) ?_
      refine ev_x (i := .lload 6) (len := 2) (p' := 28) (s' := [.long l_6, .long l_4]) rfl rfl (ld_l g_6) ?_
      obtain ⟨b_3, H⟩ := F_gd H
      refine ev_lrem (p' := 29) rfl rfl b_3 rfl ?_
      refine ev_x (i := .lstore 8) (len := 2) (p' := 31) (s' := []) (l' := vz_s2 (lv) 8 (.long (l_4 - l_4 / l_6 * l_6))) rfl rfl rfl ?_
      refine ev_x (i := .lload 6) (len := 2) (p' := 33) (s' := [.long l_6]) rfl rfl (ld_l (vg_o2 (i := 8) (v := .long (l_4 - l_4 / l_6 * l_6)) g_6 (by decide) (by decide) (Or.inr (by decide)))) ?_
      refine ev_x (i := .lstore 4) (len := 2) (p' := 35) (s' := []) (l' := vz_s2 (vz_s2 (lv) 8 (.long (l_4 - l_4 / l_6 * l_6))) 4 (.long l_6)) rfl rfl rfl ?_
      refine ev_x (i := .lload 8) (len := 2) (p' := 37) (s' := [.long (l_4 - l_4 / l_6 * l_6)]) rfl rfl (ld_l (vg_o2 (i := 4) (v := .long l_6) (vg_s2 (lv) 8 (.long (l_4 - l_4 / l_6 * l_6))) (by decide) (by decide) (Or.inr (by decide)))) ?_
      refine ev_x (i := .lstore 6) (len := 2) (p' := 39) (s' := []) (l' := vz_s2 (vz_s2 (vz_s2 (lv) 8 (.long (l_4 - l_4 / l_6 * l_6))) 4 (.long l_6)) 6 (.long (l_4 - l_4 / l_6 * l_6))) rfl rfl rfl ?_
      refine ev_x (i := .goto (-22)) (len := 3) (p' := 17) (s' := []) rfl rfl rfl ?_
      exact ih _ _ _ _ _ (vg_o2 (i := 6) (v := .long (l_4 - l_4 / l_6 * l_6)) (vg_s2 (vz_s2 (lv) 8 (.long (l_4 - l_4 / l_6 * l_6))) 4 (.long l_6)) (by decide) (by decide) (Or.inr (by decide))) (vg_s2 (vz_s2 (vz_s2 (lv) 8 (.long (l_4 - l_4 / l_6 * l_6))) 4 (.long l_6)) 6 (.long (l_4 - l_4 / l_6 * l_6))) (nb_s2 (nb_s2 (nb_s2 hnb rfl) rfl) rfl)  H
/-- GameTextModel.divisor(JJ)J -/
def F_196 (N : Nat) (x_0 : Int64) (x_2 : Int64) (σ : st_S) : Option (Int64 × st_S) :=
  L_196 N N (if 0 ≤ (lg_cmp x_0 0) then x_0 else (-x_0) : Int64) x_2 (σ)
set_option maxRecDepth 100000 in
theorem F_196_R {N : Nat} {x_0 : Int64} {x_2 : Int64} {σ : st_S} {p : Int64 × st_S} (H : F_196 N x_0 x_2 σ = some p) : gR p.2 = gR σ := by
  unfold F_196 at H
  exact (((L_196_R _ _ _ _ _ H)).trans rfl)
set_option maxHeartbeats 4000000 in
set_option maxRecDepth 100000 in
theorem F_196_ok {N d : Nat} {x_0 : Int64} {x_2 : Int64} {σ : st_S} {p : Int64 × st_S}  (H : F_196 N x_0 x_2 σ = some p) : vz_ev P0 (d + 1) 196 0 (lv_args 0 [.long x_0, .long x_2]) [] (hp σ) (.inl (some (.long p.1)), hp p.2) := by
  unfold F_196 at H
  refine ev_x (i := .lload_n 0) (len := 1) (p' := 1) (s' := [.long x_0]) rfl rfl rfl ?_
  refine ev_x (i := .lconst 0) (len := 1) (p' := 2) (s' := [.long 0, .long x_0]) rfl rfl rfl ?_
  refine ev_x (i := .lcmp) (len := 1) (p' := 3) (s' := [.int (lg_cmp x_0 0)]) rfl rfl rfl ?_
  refine F_jn (A := vz_ev P0 (d + 1) 196 12 [(0, .long x_0), (2, .long x_2)] [.long (if 0 ≤ (lg_cmp x_0 0) then x_0 else (-x_0) : Int64)] (hp (σ)) (.inl (some (.long p.1)), hp p.2)) ?_ (fun J => ?_)
  · refine ev_x (i := .lstore 4) (len := 2) (p' := 14) (s' := []) (l' := [(4, .long (if 0 ≤ (lg_cmp x_0 0) then x_0 else (-x_0) : Int64)), (0, .long x_0), (2, .long x_2)]) rfl rfl rfl ?_
    refine ev_x (i := .lload_n 2) (len := 1) (p' := 15) (s' := [.long x_2]) rfl rfl rfl ?_
    refine ev_x (i := .lstore 6) (len := 2) (p' := 17) (s' := []) (l' := [(6, .long x_2), (4, .long (if 0 ≤ (lg_cmp x_0 0) then x_0 else (-x_0) : Int64)), (0, .long x_0), (2, .long x_2)]) rfl rfl rfl ?_
    exact (L_196_ok (d := d) N) _ _ _ _ _ rfl rfl rfl  H
  · by_cases c_1 : 0 ≤ (lg_cmp x_0 0)
    · refine ev_b0 (t := 11) (p' := 11) rfl rfl rfl (if_pos c_1) ?_
      refine ev_x (i := .lload_n 0) (len := 1) (p' := 12) (s' := [.long x_0]) rfl rfl rfl ?_
      exact ev_st (congrArg (fun z => Value.long z :: []) (by rw [if_pos c_1])) J
    · refine ev_b0 (t := 11) (p' := 6) rfl rfl rfl (if_neg c_1) ?_
      refine ev_x (i := .lload_n 0) (len := 1) (p' := 7) (s' := [.long x_0]) rfl rfl rfl ?_
      refine ev_x (i := .lneg) (len := 1) (p' := 8) (s' := [.long (-x_0)]) rfl rfl rfl ?_
      refine ev_x (i := .goto 4) (len := 3) (p' := 12) (s' := [.long (-x_0)]) rfl rfl rfl ?_
      exact ev_st (congrArg (fun z => Value.long z :: []) (by rw [if_neg c_1])) J
/-- GameTextModel.pushFraction(JJI)V, from 46 -/
def J_195_46 (N : Nat) (l_5 : Int32) (l_8 : Int64) (l_10 : Int64) (σ : st_S) : Option (st_S) :=
  (F_165 N 6 l_5 (σ)).bind fun p_7 =>
  (F_188 N l_8 l_10 (p_7)).bind fun p_8 =>
  some (p_8)
set_option maxRecDepth 100000 in
theorem J_195_46_R {N : Nat} {l_5 : Int32} {l_8 : Int64} {l_10 : Int64} {σ : st_S} {p : st_S} (H : J_195_46 N l_5 l_8 l_10 σ = some p) : gR p = gR σ := by
  unfold J_195_46 at H
  obtain ⟨p_7, G_7, H⟩ := F_bd H
  obtain ⟨p_8, G_8, H⟩ := F_bd H
  obtain rfl := Option.some.inj H
  exact ((F_188_R G_8).trans ((F_165_R G_7).trans rfl))
set_option maxHeartbeats 4000000 in
set_option maxRecDepth 100000 in
theorem J_195_46_ok {N d : Nat} {l_5 : Int32} {l_8 : Int64} {l_10 : Int64} {σ : st_S} {lv : vz_L} {p : st_S} (g_0 : vz_g lv 0 = some (.ref 66)) (g_5 : vz_g lv 5 = some (.int l_5)) (g_8 : vz_g lv 8 = some (.long l_8)) (g_10 : vz_g lv 10 = some (.long l_10)) (hnb : vz_nbL (vz_gr P0) lv = true)  (H : J_195_46 N l_5 l_8 l_10 σ = some p) : vz_ev P0 (d + 2) 195 46 lv [] (hp σ) (.inl none, hp p) := by
  unfold J_195_46 at H
  refine ev_x (i := .aload_n 0) (len := 1) (p' := 47) (s' := [.ref 66]) rfl rfl (ld_a g_0) ?_
  refine ev_x (i := .bipush 6) (len := 2) (p' := 49) (s' := [.int 6, .ref 66]) rfl rfl rfl ?_
  refine ev_x (i := .iload 5) (len := 2) (p' := 51) (s' := [.int l_5, .int 6, .ref 66]) rfl rfl (ld_i g_5) ?_
  obtain ⟨p_7, G_7, H⟩ := F_bd H
  refine ev_cv (d := d + 1) (As := [.int 6, .int l_5]) (a := 66) (p' := 54) rfl rfl rfl ly_66 rfl rfl rfl rfl rfl hnb rfl (F_165_ok (d := d + 0)   G_7) ?_
  refine ev_st (st' := []) rfl ?_
  have e_7 := F_165_R G_7
  refine ev_x (i := .aload_n 0) (len := 1) (p' := 55) (s' := [.ref 66]) rfl rfl (ld_a g_0) ?_
  refine ev_x (i := .lload 8) (len := 2) (p' := 57) (s' := [.long l_8, .ref 66]) rfl rfl (ld_l g_8) ?_
  refine ev_x (i := .lload 10) (len := 2) (p' := 59) (s' := [.long l_10, .long l_8, .ref 66]) rfl rfl (ld_l g_10) ?_
  obtain ⟨p_8, G_8, H⟩ := F_bd H
  refine ev_cv (d := d + 1) (As := [.long l_8, .long l_10]) (a := 66) (p' := 62) rfl rfl rfl ly_66 rfl rfl rfl rfl rfl hnb rfl (F_188_ok (d := d + 0)   G_8) ?_
  refine ev_st (st' := []) rfl ?_
  have e_8 := F_188_R G_8
  obtain rfl := Option.some.inj H
  exact ev_vret rfl rfl rfl
/-- GameTextModel.pushFraction(JJI)V -/
def F_195 (N : Nat) (x_1 : Int64) (x_3 : Int64) (x_5 : Int32) (σ : st_S) : Option (st_S) :=
  (F_196 N x_1 x_3 (σ)).bind fun p_1 =>
  if ¬ (p_1.1 : Int64) = 0 then
  if 0 ≤ (lg_cmp (x_1 / p_1.1) 1000000000) then
    J_195_46 N x_5 (x_1 / p_1.1) (x_3 / p_1.1) (p_1.2)
  else
    if (lg_cmp (x_1 / p_1.1) (-1000000000)) ≤ 0 then
      J_195_46 N x_5 (x_1 / p_1.1) (x_3 / p_1.1) (p_1.2)
    else
      if (lg_cmp (x_3 / p_1.1) 1000000000) < 0 then
        (F_188 N (x_1 / p_1.1) (x_3 / p_1.1) (p_1.2)).bind fun p_6 =>
        some (p_6)
      else
        J_195_46 N x_5 (x_1 / p_1.1) (x_3 / p_1.1) (p_1.2)
  else none
set_option maxRecDepth 100000 in
theorem F_195_R {N : Nat} {x_1 : Int64} {x_3 : Int64} {x_5 : Int32} {σ : st_S} {p : st_S} (H : F_195 N x_1 x_3 x_5 σ = some p) : gR p = gR σ := by
  unfold F_195 at H
  obtain ⟨p_1, G_1, H⟩ := F_bd H
  obtain ⟨_, H⟩ := F_gd H
  refine F_if H (fun _ H => ?_) (fun _ H => ?_)
  · exact (((J_195_46_R H)).trans ((F_196_R G_1).trans rfl))
  · refine F_if H (fun _ H => ?_) (fun _ H => ?_)
    · exact (((J_195_46_R H)).trans ((F_196_R G_1).trans rfl))
    · refine F_if H (fun _ H => ?_) (fun _ H => ?_)
      · obtain ⟨p_6, G_6, H⟩ := F_bd H
        obtain rfl := Option.some.inj H
        exact ((F_188_R G_6).trans ((F_196_R G_1).trans rfl))
      · exact (((J_195_46_R H)).trans ((F_196_R G_1).trans rfl))
set_option maxHeartbeats 4000000 in
set_option maxRecDepth 100000 in
theorem F_195_ok {N d : Nat} {x_1 : Int64} {x_3 : Int64} {x_5 : Int32} {σ : st_S} {p : st_S}  (H : F_195 N x_1 x_3 x_5 σ = some p) : vz_ev P0 (d + 2) 195 0 (lv_args 0 [.ref 66, .long x_1, .long x_3, .int x_5]) [] (hp σ) (.inl none, hp p) := by
  unfold F_195 at H
  refine ev_x (i := .lload_n 1) (len := 1) (p' := 1) (s' := [.long x_1]) rfl rfl rfl ?_
  refine ev_x (i := .lload_n 3) (len := 1) (p' := 2) (s' := [.long x_3, .long x_1]) rfl rfl rfl ?_
  obtain ⟨p_1, G_1, H⟩ := F_bd H
  refine ev_callS (d := d + 1) (As := [.long x_1, .long x_3]) rfl rfl rfl (by decide) rfl rfl rfl rfl rfl (F_196_ok (d := d + 0)   G_1) ?_
  refine ev_st (st' := [.long p_1.1]) rfl ?_
  refine ev_pc (pc' := 5) rfl ?_
  have e_1 := F_196_R G_1
  refine ev_x (i := .lstore 6) (len := 2) (p' := 7) (s' := []) (l' := [(6, .long p_1.1), (0, .ref 66), (1, .long x_1), (3, .long x_3), (5, .int x_5)]) rfl rfl rfl ?_
  refine ev_x (i := .lload_n 1) (len := 1) (p' := 8) (s' := [.long x_1]) rfl rfl rfl ?_
  refine ev_x (i := .lload 6) (len := 2) (p' := 10) (s' := [.long p_1.1, .long x_1]) rfl rfl rfl ?_
  obtain ⟨b_2, H⟩ := F_gd H
  refine ev_ldiv (p' := 11) rfl rfl b_2 rfl ?_
  refine ev_x (i := .lstore 8) (len := 2) (p' := 13) (s' := []) (l' := [(8, .long (x_1 / p_1.1)), (6, .long p_1.1), (0, .ref 66), (1, .long x_1), (3, .long x_3), (5, .int x_5)]) rfl rfl rfl ?_
  refine ev_x (i := .lload_n 3) (len := 1) (p' := 14) (s' := [.long x_3]) rfl rfl rfl ?_
  refine ev_x (i := .lload 6) (len := 2) (p' := 16) (s' := [.long p_1.1, .long x_3]) rfl rfl rfl ?_
  refine ev_ldiv (p' := 17) rfl rfl b_2 rfl ?_
  refine ev_x (i := .lstore 10) (len := 2) (p' := 19) (s' := []) (l' := [(10, .long (x_3 / p_1.1)), (8, .long (x_1 / p_1.1)), (6, .long p_1.1), (0, .ref 66), (1, .long x_1), (3, .long x_3), (5, .int x_5)]) rfl rfl rfl ?_
  refine ev_x (i := .lload 8) (len := 2) (p' := 21) (s' := [.long (x_1 / p_1.1)]) rfl rfl rfl ?_
  refine ev_x (i := .ldc2_w 368) (len := 3) (p' := 24) (s' := [.long 1000000000, .long (x_1 / p_1.1)]) rfl rfl rfl ?_
  refine ev_x (i := .lcmp) (len := 1) (p' := 25) (s' := [.int (lg_cmp (x_1 / p_1.1) 1000000000)]) rfl rfl rfl ?_
  refine F_if H (fun c_3 H => ?_) (fun c_3 H => ?_)
  · refine ev_b0 (t := 46) (p' := 46) rfl rfl rfl (if_pos c_3) ?_
    exact J_195_46_ok (d := d) rfl rfl rfl rfl rfl  H
  · refine ev_b0 (t := 46) (p' := 28) rfl rfl rfl (if_neg c_3) ?_
    refine ev_x (i := .lload 8) (len := 2) (p' := 30) (s' := [.long (x_1 / p_1.1)]) rfl rfl rfl ?_
    refine ev_x (i := .ldc2_w 370) (len := 3) (p' := 33) (s' := [.long (-1000000000), .long (x_1 / p_1.1)]) rfl rfl rfl ?_
    refine ev_x (i := .lcmp) (len := 1) (p' := 34) (s' := [.int (lg_cmp (x_1 / p_1.1) (-1000000000))]) rfl rfl rfl ?_
    refine F_if H (fun c_4 H => ?_) (fun c_4 H => ?_)
    · refine ev_b0 (t := 46) (p' := 46) rfl rfl rfl (if_pos c_4) ?_
      exact J_195_46_ok (d := d) rfl rfl rfl rfl rfl  H
    · refine ev_b0 (t := 46) (p' := 37) rfl rfl rfl (if_neg c_4) ?_
      refine ev_x (i := .lload 10) (len := 2) (p' := 39) (s' := [.long (x_3 / p_1.1)]) rfl rfl rfl ?_
      refine ev_x (i := .ldc2_w 368) (len := 3) (p' := 42) (s' := [.long 1000000000, .long (x_3 / p_1.1)]) rfl rfl rfl ?_
      refine ev_x (i := .lcmp) (len := 1) (p' := 43) (s' := [.int (lg_cmp (x_3 / p_1.1) 1000000000)]) rfl rfl rfl ?_
      refine F_if H (fun c_5 H => ?_) (fun c_5 H => ?_)
      · refine ev_b0 (t := 54) (p' := 54) rfl rfl rfl (if_pos c_5) ?_
        refine ev_x (i := .aload_n 0) (len := 1) (p' := 55) (s' := [.ref 66]) rfl rfl rfl ?_
        refine ev_x (i := .lload 8) (len := 2) (p' := 57) (s' := [.long (x_1 / p_1.1), .ref 66]) rfl rfl rfl ?_
        refine ev_x (i := .lload 10) (len := 2) (p' := 59) (s' := [.long (x_3 / p_1.1), .long (x_1 / p_1.1), .ref 66]) rfl rfl rfl ?_
        obtain ⟨p_6, G_6, H⟩ := F_bd H
        refine ev_cv (d := d + 1) (As := [.long (x_1 / p_1.1), .long (x_3 / p_1.1)]) (a := 66) (p' := 62) rfl rfl rfl ly_66 rfl rfl rfl rfl rfl rfl rfl (F_188_ok (d := d + 0)   G_6) ?_
        refine ev_st (st' := []) rfl ?_
        have e_6 := F_188_R G_6
        obtain rfl := Option.some.inj H
        exact ev_vret rfl rfl rfl
      · refine ev_b0 (t := 54) (p' := 46) rfl rfl rfl (if_neg c_5) ?_
        exact J_195_46_ok (d := d) rfl rfl rfl rfl rfl  H
/-- GameTextModel.reckon(IJJJJI)V -/
def F_194 (N : Nat) (x_1 : Int32) (x_2 : Int64) (x_4 : Int64) (x_6 : Int64) (x_8 : Int64) (x_10 : Int32) (σ : st_S) : Option (st_S) :=
  if x_1 = 24 then
    (F_195 N ((x_2 * x_8) + (x_6 * x_4)) (x_4 * x_8) x_10 (σ)).bind fun p_2 =>
    some (p_2)
  else
  if x_1 = 25 then
    (F_195 N ((x_2 * x_8) - (x_6 * x_4)) (x_4 * x_8) x_10 (σ)).bind fun p_4 =>
    some (p_4)
  else
  if x_1 = 26 then
    (F_195 N (x_2 * x_6) (x_4 * x_8) x_10 (σ)).bind fun p_6 =>
    some (p_6)
  else
  if x_1 = 27 then
    if (lg_cmp x_6 0) = 0 then
      (F_165 N 7 x_10 (σ)).bind fun p_9 =>
      some (p_9)
    else
      (F_195 N (if 0 ≤ (lg_cmp x_6 0) then (x_2 * x_8) else ((-x_2) * x_8) : Int64) (if 0 ≤ (lg_cmp x_6 0) then (x_6 * x_4) else ((-x_6) * x_4) : Int64) x_10 (σ)).bind fun p_12 =>
      some (p_12)
  else
    if (lg_cmp x_4 1) = 0 then
      if (lg_cmp x_8 1) = 0 then
        if 0 < (lg_cmp x_6 0) then
          if ¬ (x_6 : Int64) = 0 then
          if 0 ≤ (lg_cmp (x_2 - x_2 / x_6 * x_6) 0) then
            (F_188 N (x_2 - x_2 / x_6 * x_6) 1 (σ)).bind fun p_18 =>
            some (p_18)
          else
            (F_188 N ((x_2 - x_2 / x_6 * x_6) + x_6) 1 (σ)).bind fun p_19 =>
            some (p_19)
          else none
        else
          (F_165 N 7 x_10 (σ)).bind fun p_20 =>
          some (p_20)
      else
        (F_165 N 8 x_10 (σ)).bind fun p_21 =>
        some (p_21)
    else
      (F_165 N 8 x_10 (σ)).bind fun p_22 =>
      some (p_22)
set_option maxRecDepth 100000 in
theorem F_194_R {N : Nat} {x_1 : Int32} {x_2 : Int64} {x_4 : Int64} {x_6 : Int64} {x_8 : Int64} {x_10 : Int32} {σ : st_S} {p : st_S} (H : F_194 N x_1 x_2 x_4 x_6 x_8 x_10 σ = some p) : gR p = gR σ := by
  unfold F_194 at H
  refine F_if H (fun _ H => ?_) (fun _ H => ?_)
  · obtain ⟨p_2, G_2, H⟩ := F_bd H
    obtain rfl := Option.some.inj H
    exact ((F_195_R G_2).trans rfl)
  · refine F_if H (fun _ H => ?_) (fun _ H => ?_)
    · obtain ⟨p_4, G_4, H⟩ := F_bd H
      obtain rfl := Option.some.inj H
      exact ((F_195_R G_4).trans rfl)
    · refine F_if H (fun _ H => ?_) (fun _ H => ?_)
      · obtain ⟨p_6, G_6, H⟩ := F_bd H
        obtain rfl := Option.some.inj H
        exact ((F_195_R G_6).trans rfl)
      · refine F_if H (fun _ H => ?_) (fun _ H => ?_)
        · refine F_if H (fun _ H => ?_) (fun _ H => ?_)
          · obtain ⟨p_9, G_9, H⟩ := F_bd H
            obtain rfl := Option.some.inj H
            exact ((F_165_R G_9).trans rfl)
          · obtain ⟨p_12, G_12, H⟩ := F_bd H
            obtain rfl := Option.some.inj H
            exact ((F_195_R G_12).trans rfl)
        · refine F_if H (fun _ H => ?_) (fun _ H => ?_)
          · refine F_if H (fun _ H => ?_) (fun _ H => ?_)
            · refine F_if H (fun _ H => ?_) (fun _ H => ?_)
              · obtain ⟨_, H⟩ := F_gd H
                refine F_if H (fun _ H => ?_) (fun _ H => ?_)
                · obtain ⟨p_18, G_18, H⟩ := F_bd H
                  obtain rfl := Option.some.inj H
                  exact ((F_188_R G_18).trans rfl)
                · obtain ⟨p_19, G_19, H⟩ := F_bd H
                  obtain rfl := Option.some.inj H
                  exact ((F_188_R G_19).trans rfl)
              · obtain ⟨p_20, G_20, H⟩ := F_bd H
                obtain rfl := Option.some.inj H
                exact ((F_165_R G_20).trans rfl)
            · obtain ⟨p_21, G_21, H⟩ := F_bd H
              obtain rfl := Option.some.inj H
              exact ((F_165_R G_21).trans rfl)
          · obtain ⟨p_22, G_22, H⟩ := F_bd H
            obtain rfl := Option.some.inj H
            exact ((F_165_R G_22).trans rfl)
set_option maxHeartbeats 4000000 in
set_option maxRecDepth 100000 in
theorem F_194_ok {N d : Nat} {x_1 : Int32} {x_2 : Int64} {x_4 : Int64} {x_6 : Int64} {x_8 : Int64} {x_10 : Int32} {σ : st_S} {p : st_S}  (H : F_194 N x_1 x_2 x_4 x_6 x_8 x_10 σ = some p) : vz_ev P0 (d + 3) 194 0 (lv_args 0 [.ref 66, .int x_1, .long x_2, .long x_4, .long x_6, .long x_8, .int x_10]) [] (hp σ) (.inl none, hp p) := by
  unfold F_194 at H
  refine ev_x (i := .iload_n 1) (len := 1) (p' := 1) (s' := [.int x_1]) rfl rfl rfl ?_
  refine F_if H (fun c_1 H => ?_) (fun c_1 H => ?_)
  · refine ev_st (st' := [.int 24]) (congrArg (fun z => Value.int z :: []) c_1) ?_
    refine ev_ts (off := 31) (t := 32) rfl rfl (by decide) rfl ?_
    refine ev_x (i := .aload_n 0) (len := 1) (p' := 33) (s' := [.ref 66]) rfl rfl rfl ?_
    refine ev_x (i := .lload_n 2) (len := 1) (p' := 34) (s' := [.long x_2, .ref 66]) rfl rfl rfl ?_
    refine ev_x (i := .lload 8) (len := 2) (p' := 36) (s' := [.long x_8, .long x_2, .ref 66]) rfl rfl rfl ?_
    refine ev_x (i := .lmul) (len := 1) (p' := 37) (s' := [.long (x_2 * x_8), .ref 66]) rfl rfl rfl ?_
    refine ev_x (i := .lload 6) (len := 2) (p' := 39) (s' := [.long x_6, .long (x_2 * x_8), .ref 66]) rfl rfl rfl ?_
    refine ev_x (i := .lload 4) (len := 2) (p' := 41) (s' := [.long x_4, .long x_6, .long (x_2 * x_8), .ref 66]) rfl rfl rfl ?_
    refine ev_x (i := .lmul) (len := 1) (p' := 42) (s' := [.long (x_6 * x_4), .long (x_2 * x_8), .ref 66]) rfl rfl rfl ?_
    refine ev_x (i := .ladd) (len := 1) (p' := 43) (s' := [.long ((x_2 * x_8) + (x_6 * x_4)), .ref 66]) rfl rfl rfl ?_
    refine ev_x (i := .lload 4) (len := 2) (p' := 45) (s' := [.long x_4, .long ((x_2 * x_8) + (x_6 * x_4)), .ref 66]) rfl rfl rfl ?_
    refine ev_x (i := .lload 8) (len := 2) (p' := 47) (s' := [.long x_8, .long x_4, .long ((x_2 * x_8) + (x_6 * x_4)), .ref 66]) rfl rfl rfl ?_
    refine ev_x (i := .lmul) (len := 1) (p' := 48) (s' := [.long (x_4 * x_8), .long ((x_2 * x_8) + (x_6 * x_4)), .ref 66]) rfl rfl rfl ?_
    refine ev_x (i := .iload 10) (len := 2) (p' := 50) (s' := [.int x_10, .long (x_4 * x_8), .long ((x_2 * x_8) + (x_6 * x_4)), .ref 66]) rfl rfl rfl ?_
    obtain ⟨p_2, G_2, H⟩ := F_bd H
    refine ev_cv (d := d + 2) (As := [.long ((x_2 * x_8) + (x_6 * x_4)), .long (x_4 * x_8), .int x_10]) (a := 66) (p' := 53) rfl rfl rfl ly_66 rfl rfl rfl rfl rfl rfl rfl (F_195_ok (d := d + 0)   G_2) ?_
    refine ev_st (st' := []) rfl ?_
    have e_2 := F_195_R G_2
    obtain rfl := Option.some.inj H
    exact ev_vret rfl rfl rfl
  · refine F_if H (fun c_3 H => ?_) (fun c_3 H => ?_)
    · refine ev_st (st' := [.int 25]) (congrArg (fun z => Value.int z :: []) c_3) ?_
      refine ev_ts (off := 53) (t := 54) rfl rfl (by decide) rfl ?_
      refine ev_x (i := .aload_n 0) (len := 1) (p' := 55) (s' := [.ref 66]) rfl rfl rfl ?_
      refine ev_x (i := .lload_n 2) (len := 1) (p' := 56) (s' := [.long x_2, .ref 66]) rfl rfl rfl ?_
      refine ev_x (i := .lload 8) (len := 2) (p' := 58) (s' := [.long x_8, .long x_2, .ref 66]) rfl rfl rfl ?_
      refine ev_x (i := .lmul) (len := 1) (p' := 59) (s' := [.long (x_2 * x_8), .ref 66]) rfl rfl rfl ?_
      refine ev_x (i := .lload 6) (len := 2) (p' := 61) (s' := [.long x_6, .long (x_2 * x_8), .ref 66]) rfl rfl rfl ?_
      refine ev_x (i := .lload 4) (len := 2) (p' := 63) (s' := [.long x_4, .long x_6, .long (x_2 * x_8), .ref 66]) rfl rfl rfl ?_
      refine ev_x (i := .lmul) (len := 1) (p' := 64) (s' := [.long (x_6 * x_4), .long (x_2 * x_8), .ref 66]) rfl rfl rfl ?_
      refine ev_x (i := .lsub) (len := 1) (p' := 65) (s' := [.long ((x_2 * x_8) - (x_6 * x_4)), .ref 66]) rfl rfl rfl ?_
      refine ev_x (i := .lload 4) (len := 2) (p' := 67) (s' := [.long x_4, .long ((x_2 * x_8) - (x_6 * x_4)), .ref 66]) rfl rfl rfl ?_
      refine ev_x (i := .lload 8) (len := 2) (p' := 69) (s' := [.long x_8, .long x_4, .long ((x_2 * x_8) - (x_6 * x_4)), .ref 66]) rfl rfl rfl ?_
      refine ev_x (i := .lmul) (len := 1) (p' := 70) (s' := [.long (x_4 * x_8), .long ((x_2 * x_8) - (x_6 * x_4)), .ref 66]) rfl rfl rfl ?_
      refine ev_x (i := .iload 10) (len := 2) (p' := 72) (s' := [.int x_10, .long (x_4 * x_8), .long ((x_2 * x_8) - (x_6 * x_4)), .ref 66]) rfl rfl rfl ?_
      obtain ⟨p_4, G_4, H⟩ := F_bd H
      refine ev_cv (d := d + 2) (As := [.long ((x_2 * x_8) - (x_6 * x_4)), .long (x_4 * x_8), .int x_10]) (a := 66) (p' := 75) rfl rfl rfl ly_66 rfl rfl rfl rfl rfl rfl rfl (F_195_ok (d := d + 0)   G_4) ?_
      refine ev_st (st' := []) rfl ?_
      have e_4 := F_195_R G_4
      obtain rfl := Option.some.inj H
      exact ev_vret rfl rfl rfl
    · refine F_if H (fun c_5 H => ?_) (fun c_5 H => ?_)
      · refine ev_st (st' := [.int 26]) (congrArg (fun z => Value.int z :: []) c_5) ?_
        refine ev_ts (off := 75) (t := 76) rfl rfl (by decide) rfl ?_
        refine ev_x (i := .aload_n 0) (len := 1) (p' := 77) (s' := [.ref 66]) rfl rfl rfl ?_
        refine ev_x (i := .lload_n 2) (len := 1) (p' := 78) (s' := [.long x_2, .ref 66]) rfl rfl rfl ?_
        refine ev_x (i := .lload 6) (len := 2) (p' := 80) (s' := [.long x_6, .long x_2, .ref 66]) rfl rfl rfl ?_
        refine ev_x (i := .lmul) (len := 1) (p' := 81) (s' := [.long (x_2 * x_6), .ref 66]) rfl rfl rfl ?_
        refine ev_x (i := .lload 4) (len := 2) (p' := 83) (s' := [.long x_4, .long (x_2 * x_6), .ref 66]) rfl rfl rfl ?_
        refine ev_x (i := .lload 8) (len := 2) (p' := 85) (s' := [.long x_8, .long x_4, .long (x_2 * x_6), .ref 66]) rfl rfl rfl ?_
        refine ev_x (i := .lmul) (len := 1) (p' := 86) (s' := [.long (x_4 * x_8), .long (x_2 * x_6), .ref 66]) rfl rfl rfl ?_
        refine ev_x (i := .iload 10) (len := 2) (p' := 88) (s' := [.int x_10, .long (x_4 * x_8), .long (x_2 * x_6), .ref 66]) rfl rfl rfl ?_
        obtain ⟨p_6, G_6, H⟩ := F_bd H
        refine ev_cv (d := d + 2) (As := [.long (x_2 * x_6), .long (x_4 * x_8), .int x_10]) (a := 66) (p' := 91) rfl rfl rfl ly_66 rfl rfl rfl rfl rfl rfl rfl (F_195_ok (d := d + 0)   G_6) ?_
        refine ev_st (st' := []) rfl ?_
        have e_6 := F_195_R G_6
        obtain rfl := Option.some.inj H
        exact ev_vret rfl rfl rfl
      · refine F_if H (fun c_7 H => ?_) (fun c_7 H => ?_)
        · refine ev_st (st' := [.int 27]) (congrArg (fun z => Value.int z :: []) c_7) ?_
          refine ev_ts (off := 91) (t := 92) rfl rfl (by decide) rfl ?_
          refine ev_x (i := .lload 6) (len := 2) (p' := 94) (s' := [.long x_6]) rfl rfl rfl ?_
          refine ev_x (i := .lconst 0) (len := 1) (p' := 95) (s' := [.long 0, .long x_6]) rfl rfl rfl ?_
          refine ev_x (i := .lcmp) (len := 1) (p' := 96) (s' := [.int (lg_cmp x_6 0)]) rfl rfl rfl ?_
          refine F_if H (fun c_8 H => ?_) (fun c_8 H => ?_)
          · refine ev_b0 (t := 110) (p' := 99) rfl rfl rfl (if_neg (fun q => q c_8)) ?_
            refine ev_x (i := .aload_n 0) (len := 1) (p' := 100) (s' := [.ref 66]) rfl rfl rfl ?_
            refine ev_x (i := .bipush 7) (len := 2) (p' := 102) (s' := [.int 7, .ref 66]) rfl rfl rfl ?_
            refine ev_x (i := .iload 10) (len := 2) (p' := 104) (s' := [.int x_10, .int 7, .ref 66]) rfl rfl rfl ?_
            obtain ⟨p_9, G_9, H⟩ := F_bd H
            refine ev_cv (d := d + 2) (As := [.int 7, .int x_10]) (a := 66) (p' := 107) rfl rfl rfl ly_66 rfl rfl rfl rfl rfl rfl rfl (F_165_ok (d := d + 1)   G_9) ?_
            refine ev_st (st' := []) rfl ?_
            have e_9 := F_165_R G_9
            refine ev_x (i := .goto 49) (len := 3) (p' := 156) (s' := []) rfl rfl rfl ?_
            obtain rfl := Option.some.inj H
            exact ev_vret rfl rfl rfl
          · refine ev_b0 (t := 110) (p' := 110) rfl rfl rfl (if_pos c_8) ?_
            refine ev_x (i := .aload_n 0) (len := 1) (p' := 111) (s' := [.ref 66]) rfl rfl rfl ?_
            refine ev_x (i := .lload 6) (len := 2) (p' := 113) (s' := [.long x_6, .ref 66]) rfl rfl rfl ?_
            refine ev_x (i := .lconst 0) (len := 1) (p' := 114) (s' := [.long 0, .long x_6, .ref 66]) rfl rfl rfl ?_
            refine ev_x (i := .lcmp) (len := 1) (p' := 115) (s' := [.int (lg_cmp x_6 0), .ref 66]) rfl rfl rfl ?_
            refine F_jn (A := vz_ev P0 (d + 3) 194 130 [(0, .ref 66), (1, .int x_1), (2, .long x_2), (4, .long x_4), (6, .long x_6), (8, .long x_8), (10, .int x_10)] [.long (if 0 ≤ (lg_cmp x_6 0) then (x_2 * x_8) else ((-x_2) * x_8) : Int64), .ref 66] (hp (σ)) (.inl none, hp p)) ?_ (fun J => ?_)
            · refine ev_x (i := .lload 6) (len := 2) (p' := 132) (s' := [.long x_6, .long (if 0 ≤ (lg_cmp x_6 0) then (x_2 * x_8) else ((-x_2) * x_8) : Int64), .ref 66]) rfl rfl rfl ?_
              refine ev_x (i := .lconst 0) (len := 1) (p' := 133) (s' := [.long 0, .long x_6, .long (if 0 ≤ (lg_cmp x_6 0) then (x_2 * x_8) else ((-x_2) * x_8) : Int64), .ref 66]) rfl rfl rfl ?_
              refine ev_x (i := .lcmp) (len := 1) (p' := 134) (s' := [.int (lg_cmp x_6 0), .long (if 0 ≤ (lg_cmp x_6 0) then (x_2 * x_8) else ((-x_2) * x_8) : Int64), .ref 66]) rfl rfl rfl ?_
              refine F_jn (A := vz_ev P0 (d + 3) 194 151 [(0, .ref 66), (1, .int x_1), (2, .long x_2), (4, .long x_4), (6, .long x_6), (8, .long x_8), (10, .int x_10)] [.long (if 0 ≤ (lg_cmp x_6 0) then (x_6 * x_4) else ((-x_6) * x_4) : Int64), .long (if 0 ≤ (lg_cmp x_6 0) then (x_2 * x_8) else ((-x_2) * x_8) : Int64), .ref 66] (hp (σ)) (.inl none, hp p)) ?_ (fun J => ?_)
              · refine ev_x (i := .iload 10) (len := 2) (p' := 153) (s' := [.int x_10, .long (if 0 ≤ (lg_cmp x_6 0) then (x_6 * x_4) else ((-x_6) * x_4) : Int64), .long (if 0 ≤ (lg_cmp x_6 0) then (x_2 * x_8) else ((-x_2) * x_8) : Int64), .ref 66]) rfl rfl rfl ?_
                obtain ⟨p_12, G_12, H⟩ := F_bd H
                refine ev_cv (d := d + 2) (As := [.long (if 0 ≤ (lg_cmp x_6 0) then (x_2 * x_8) else ((-x_2) * x_8) : Int64), .long (if 0 ≤ (lg_cmp x_6 0) then (x_6 * x_4) else ((-x_6) * x_4) : Int64), .int x_10]) (a := 66) (p' := 156) rfl rfl rfl ly_66 rfl rfl rfl rfl rfl rfl rfl (F_195_ok (d := d + 0)   G_12) ?_
                refine ev_st (st' := []) rfl ?_
                have e_12 := F_195_R G_12
                obtain rfl := Option.some.inj H
                exact ev_vret rfl rfl rfl
              · by_cases c_11 : 0 ≤ (lg_cmp x_6 0)
                · refine ev_b0 (t := 146) (p' := 146) rfl rfl rfl (if_pos c_11) ?_
                  refine ev_x (i := .lload 6) (len := 2) (p' := 148) (s' := [.long x_6, .long (if 0 ≤ (lg_cmp x_6 0) then (x_2 * x_8) else ((-x_2) * x_8) : Int64), .ref 66]) rfl rfl rfl ?_
                  refine ev_x (i := .lload 4) (len := 2) (p' := 150) (s' := [.long x_4, .long x_6, .long (if 0 ≤ (lg_cmp x_6 0) then (x_2 * x_8) else ((-x_2) * x_8) : Int64), .ref 66]) rfl rfl rfl ?_
                  refine ev_x (i := .lmul) (len := 1) (p' := 151) (s' := [.long (x_6 * x_4), .long (if 0 ≤ (lg_cmp x_6 0) then (x_2 * x_8) else ((-x_2) * x_8) : Int64), .ref 66]) rfl rfl rfl ?_
                  exact ev_st (congrArg (fun z => Value.long z :: [.long (if 0 ≤ (lg_cmp x_6 0) then (x_2 * x_8) else ((-x_2) * x_8) : Int64), .ref 66]) (by rw [if_pos c_11])) J
                · refine ev_b0 (t := 146) (p' := 137) rfl rfl rfl (if_neg c_11) ?_
                  refine ev_x (i := .lload 6) (len := 2) (p' := 139) (s' := [.long x_6, .long (if 0 ≤ (lg_cmp x_6 0) then (x_2 * x_8) else ((-x_2) * x_8) : Int64), .ref 66]) rfl rfl rfl ?_
                  refine ev_x (i := .lneg) (len := 1) (p' := 140) (s' := [.long (-x_6), .long (if 0 ≤ (lg_cmp x_6 0) then (x_2 * x_8) else ((-x_2) * x_8) : Int64), .ref 66]) rfl rfl rfl ?_
                  refine ev_x (i := .lload 4) (len := 2) (p' := 142) (s' := [.long x_4, .long (-x_6), .long (if 0 ≤ (lg_cmp x_6 0) then (x_2 * x_8) else ((-x_2) * x_8) : Int64), .ref 66]) rfl rfl rfl ?_
                  refine ev_x (i := .lmul) (len := 1) (p' := 143) (s' := [.long ((-x_6) * x_4), .long (if 0 ≤ (lg_cmp x_6 0) then (x_2 * x_8) else ((-x_2) * x_8) : Int64), .ref 66]) rfl rfl rfl ?_
                  refine ev_x (i := .goto 8) (len := 3) (p' := 151) (s' := [.long ((-x_6) * x_4), .long (if 0 ≤ (lg_cmp x_6 0) then (x_2 * x_8) else ((-x_2) * x_8) : Int64), .ref 66]) rfl rfl rfl ?_
                  exact ev_st (congrArg (fun z => Value.long z :: [.long (if 0 ≤ (lg_cmp x_6 0) then (x_2 * x_8) else ((-x_2) * x_8) : Int64), .ref 66]) (by rw [if_neg c_11])) J
            · by_cases c_10 : 0 ≤ (lg_cmp x_6 0)
              · refine ev_b0 (t := 126) (p' := 126) rfl rfl rfl (if_pos c_10) ?_
                refine ev_x (i := .lload_n 2) (len := 1) (p' := 127) (s' := [.long x_2, .ref 66]) rfl rfl rfl ?_
                refine ev_x (i := .lload 8) (len := 2) (p' := 129) (s' := [.long x_8, .long x_2, .ref 66]) rfl rfl rfl ?_
                refine ev_x (i := .lmul) (len := 1) (p' := 130) (s' := [.long (x_2 * x_8), .ref 66]) rfl rfl rfl ?_
                exact ev_st (congrArg (fun z => Value.long z :: [.ref 66]) (by rw [if_pos c_10])) J
              · refine ev_b0 (t := 126) (p' := 118) rfl rfl rfl (if_neg c_10) ?_
                refine ev_x (i := .lload_n 2) (len := 1) (p' := 119) (s' := [.long x_2, .ref 66]) rfl rfl rfl ?_
                refine ev_x (i := .lneg) (len := 1) (p' := 120) (s' := [.long (-x_2), .ref 66]) rfl rfl rfl ?_
                refine ev_x (i := .lload 8) (len := 2) (p' := 122) (s' := [.long x_8, .long (-x_2), .ref 66]) rfl rfl rfl ?_
                refine ev_x (i := .lmul) (len := 1) (p' := 123) (s' := [.long ((-x_2) * x_8), .ref 66]) rfl rfl rfl ?_
                refine ev_x (i := .goto 7) (len := 3) (p' := 130) (s' := [.long ((-x_2) * x_8), .ref 66]) rfl rfl rfl ?_
                exact ev_st (congrArg (fun z => Value.long z :: [.ref 66]) (by rw [if_neg c_10])) J
        · have n_24 : (24 : Int) ≠ (x_1 : Int32).toInt := i32_ne (k := 24) (by decide) c_1
          have n_25 : (25 : Int) ≠ (x_1 : Int32).toInt := i32_ne (k := 25) (by decide) c_3
          have n_26 : (26 : Int) ≠ (x_1 : Int32).toInt := i32_ne (k := 26) (by decide) c_5
          have n_27 : (27 : Int) ≠ (x_1 : Int32).toInt := i32_ne (k := 27) (by decide) c_7
          refine ev_ts (off := 156) (t := 157) rfl rfl ?hsw rfl ?_
          case hsw =>
            by_cases hq : (x_1 : Int32).toInt < 24 ∨ 27 < (x_1 : Int32).toInt
            · exact if_pos hq
            · rw [if_neg hq]
              exact absurd hq (by omega)
          refine ev_x (i := .lload 4) (len := 2) (p' := 159) (s' := [.long x_4]) rfl rfl rfl ?_
          refine ev_x (i := .lconst 1) (len := 1) (p' := 160) (s' := [.long 1, .long x_4]) rfl rfl rfl ?_
          refine ev_x (i := .lcmp) (len := 1) (p' := 161) (s' := [.int (lg_cmp x_4 1)]) rfl rfl rfl ?_
          refine F_if H (fun c_13 H => ?_) (fun c_13 H => ?_)
          · refine ev_b0 (t := 171) (p' := 164) rfl rfl rfl (if_neg (fun q => q c_13)) ?_
            refine ev_x (i := .lload 8) (len := 2) (p' := 166) (s' := [.long x_8]) rfl rfl rfl ?_
            refine ev_x (i := .lconst 1) (len := 1) (p' := 167) (s' := [.long 1, .long x_8]) rfl rfl rfl ?_
            refine ev_x (i := .lcmp) (len := 1) (p' := 168) (s' := [.int (lg_cmp x_8 1)]) rfl rfl rfl ?_
            refine F_if H (fun c_14 H => ?_) (fun c_14 H => ?_)
            · refine ev_b0 (t := 182) (p' := 182) rfl rfl rfl (if_pos c_14) ?_
              refine ev_x (i := .lload 6) (len := 2) (p' := 184) (s' := [.long x_6]) rfl rfl rfl ?_
              refine ev_x (i := .lconst 0) (len := 1) (p' := 185) (s' := [.long 0, .long x_6]) rfl rfl rfl ?_
              refine ev_x (i := .lcmp) (len := 1) (p' := 186) (s' := [.int (lg_cmp x_6 0)]) rfl rfl rfl ?_
              refine F_if H (fun c_15 H => ?_) (fun c_15 H => ?_)
              · refine ev_b0 (t := 200) (p' := 200) rfl rfl rfl (if_pos c_15) ?_
                refine ev_x (i := .aload_n 0) (len := 1) (p' := 201) (s' := [.ref 66]) rfl rfl rfl ?_
                refine ev_x (i := .lload_n 2) (len := 1) (p' := 202) (s' := [.long x_2, .ref 66]) rfl rfl rfl ?_
                refine ev_x (i := .lload 6) (len := 2) (p' := 204) (s' := [.long x_6, .long x_2, .ref 66]) rfl rfl rfl ?_
                obtain ⟨b_16, H⟩ := F_gd H
                refine ev_lrem (p' := 205) rfl rfl b_16 rfl ?_
                refine ev_x (i := .lconst 0) (len := 1) (p' := 206) (s' := [.long 0, .long (x_2 - x_2 / x_6 * x_6), .ref 66]) rfl rfl rfl ?_
                refine ev_x (i := .lcmp) (len := 1) (p' := 207) (s' := [.int (lg_cmp (x_2 - x_2 / x_6 * x_6) 0), .ref 66]) rfl rfl rfl ?_
                refine F_if H (fun c_17 H => ?_) (fun c_17 H => ?_)
                · refine ev_b0 (t := 220) (p' := 220) rfl rfl rfl (if_pos c_17) ?_
                  refine ev_x (i := .lload_n 2) (len := 1) (p' := 221) (s' := [.long x_2, .ref 66]) rfl rfl rfl ?_
                  refine ev_x (i := .lload 6) (len := 2) (p' := 223) (s' := [.long x_6, .long x_2, .ref 66]) rfl rfl rfl ?_
                  refine ev_lrem (p' := 224) rfl rfl b_16 rfl ?_
                  refine ev_x (i := .lconst 1) (len := 1) (p' := 225) (s' := [.long 1, .long (x_2 - x_2 / x_6 * x_6), .ref 66]) rfl rfl rfl ?_
                  obtain ⟨p_18, G_18, H⟩ := F_bd H
                  refine ev_cv (d := d + 2) (As := [.long (x_2 - x_2 / x_6 * x_6), .long 1]) (a := 66) (p' := 228) rfl rfl rfl ly_66 rfl rfl rfl rfl rfl rfl rfl (F_188_ok (d := d + 1)   G_18) ?_
                  refine ev_st (st' := []) rfl ?_
                  have e_18 := F_188_R G_18
                  obtain rfl := Option.some.inj H
                  exact ev_vret rfl rfl rfl
                · refine ev_b0 (t := 220) (p' := 210) rfl rfl rfl (if_neg c_17) ?_
                  refine ev_x (i := .lload_n 2) (len := 1) (p' := 211) (s' := [.long x_2, .ref 66]) rfl rfl rfl ?_
                  refine ev_x (i := .lload 6) (len := 2) (p' := 213) (s' := [.long x_6, .long x_2, .ref 66]) rfl rfl rfl ?_
                  refine ev_lrem (p' := 214) rfl rfl b_16 rfl ?_
                  refine ev_x (i := .lload 6) (len := 2) (p' := 216) (s' := [.long x_6, .long (x_2 - x_2 / x_6 * x_6), .ref 66]) rfl rfl rfl ?_
                  refine ev_x (i := .ladd) (len := 1) (p' := 217) (s' := [.long ((x_2 - x_2 / x_6 * x_6) + x_6), .ref 66]) rfl rfl rfl ?_
                  refine ev_x (i := .goto 7) (len := 3) (p' := 224) (s' := [.long ((x_2 - x_2 / x_6 * x_6) + x_6), .ref 66]) rfl rfl rfl ?_
                  refine ev_x (i := .lconst 1) (len := 1) (p' := 225) (s' := [.long 1, .long ((x_2 - x_2 / x_6 * x_6) + x_6), .ref 66]) rfl rfl rfl ?_
                  obtain ⟨p_19, G_19, H⟩ := F_bd H
                  refine ev_cv (d := d + 2) (As := [.long ((x_2 - x_2 / x_6 * x_6) + x_6), .long 1]) (a := 66) (p' := 228) rfl rfl rfl ly_66 rfl rfl rfl rfl rfl rfl rfl (F_188_ok (d := d + 1)   G_19) ?_
                  refine ev_st (st' := []) rfl ?_
                  have e_19 := F_188_R G_19
                  obtain rfl := Option.some.inj H
                  exact ev_vret rfl rfl rfl
              · refine ev_b0 (t := 200) (p' := 189) rfl rfl rfl (if_neg c_15) ?_
                refine ev_x (i := .aload_n 0) (len := 1) (p' := 190) (s' := [.ref 66]) rfl rfl rfl ?_
                refine ev_x (i := .bipush 7) (len := 2) (p' := 192) (s' := [.int 7, .ref 66]) rfl rfl rfl ?_
                refine ev_x (i := .iload 10) (len := 2) (p' := 194) (s' := [.int x_10, .int 7, .ref 66]) rfl rfl rfl ?_
                obtain ⟨p_20, G_20, H⟩ := F_bd H
                refine ev_cv (d := d + 2) (As := [.int 7, .int x_10]) (a := 66) (p' := 197) rfl rfl rfl ly_66 rfl rfl rfl rfl rfl rfl rfl (F_165_ok (d := d + 1)   G_20) ?_
                refine ev_st (st' := []) rfl ?_
                have e_20 := F_165_R G_20
                refine ev_x (i := .goto 31) (len := 3) (p' := 228) (s' := []) rfl rfl rfl ?_
                obtain rfl := Option.some.inj H
                exact ev_vret rfl rfl rfl
            · refine ev_b0 (t := 182) (p' := 171) rfl rfl rfl (if_neg c_14) ?_
              refine ev_x (i := .aload_n 0) (len := 1) (p' := 172) (s' := [.ref 66]) rfl rfl rfl ?_
              refine ev_x (i := .bipush 8) (len := 2) (p' := 174) (s' := [.int 8, .ref 66]) rfl rfl rfl ?_
              refine ev_x (i := .iload 10) (len := 2) (p' := 176) (s' := [.int x_10, .int 8, .ref 66]) rfl rfl rfl ?_
              obtain ⟨p_21, G_21, H⟩ := F_bd H
              refine ev_cv (d := d + 2) (As := [.int 8, .int x_10]) (a := 66) (p' := 179) rfl rfl rfl ly_66 rfl rfl rfl rfl rfl rfl rfl (F_165_ok (d := d + 1)   G_21) ?_
              refine ev_st (st' := []) rfl ?_
              have e_21 := F_165_R G_21
              refine ev_x (i := .goto 49) (len := 3) (p' := 228) (s' := []) rfl rfl rfl ?_
              obtain rfl := Option.some.inj H
              exact ev_vret rfl rfl rfl
          · refine ev_b0 (t := 171) (p' := 171) rfl rfl rfl (if_pos c_13) ?_
            refine ev_x (i := .aload_n 0) (len := 1) (p' := 172) (s' := [.ref 66]) rfl rfl rfl ?_
            refine ev_x (i := .bipush 8) (len := 2) (p' := 174) (s' := [.int 8, .ref 66]) rfl rfl rfl ?_
            refine ev_x (i := .iload 10) (len := 2) (p' := 176) (s' := [.int x_10, .int 8, .ref 66]) rfl rfl rfl ?_
            obtain ⟨p_22, G_22, H⟩ := F_bd H
            refine ev_cv (d := d + 2) (As := [.int 8, .int x_10]) (a := 66) (p' := 179) rfl rfl rfl ly_66 rfl rfl rfl rfl rfl rfl rfl (F_165_ok (d := d + 1)   G_22) ?_
            refine ev_st (st' := []) rfl ?_
            have e_22 := F_165_R G_22
            refine ev_x (i := .goto 49) (len := 3) (p' := 228) (s' := []) rfl rfl rfl ?_
            obtain rfl := Option.some.inj H
            exact ev_vret rfl rfl rfl
/-- GameTextModel.finish(LGameTextModel$Game;I)V, from 139 -/
def J_192_139 (N : Nat) (g : Nat) (l_3 : Int32) (l_5 : Int32) (l_6 : Int32) (σ : st_S) : Option (st_S) :=
  (F_193 N (if l_3 = 14 then 1 else 0 : Int32) l_6 l_5 (σ)).bind fun p_59 =>
  some (p_59)
set_option maxRecDepth 100000 in
theorem J_192_139_R {N : Nat} {g : Nat} {l_3 : Int32} {l_5 : Int32} {l_6 : Int32} {σ : st_S} {p : st_S} (H : J_192_139 N g l_3 l_5 l_6 σ = some p) : gR p = gR σ := by
  unfold J_192_139 at H
  obtain ⟨p_59, G_59, H⟩ := F_bd H
  obtain rfl := Option.some.inj H
  exact ((F_193_R G_59).trans rfl)
set_option maxHeartbeats 4000000 in
set_option maxRecDepth 100000 in
theorem J_192_139_ok {N d : Nat} {g : Nat} (hg : g = 79 ∨ g = 115) {l_3 : Int32} {l_5 : Int32} {l_6 : Int32} {σ : st_S} {lv : vz_L} {p : st_S} (g_0 : vz_g lv 0 = some (.ref 66)) (g_3 : vz_g lv 3 = some (.int l_3)) (g_5 : vz_g lv 5 = some (.int l_5)) (g_6 : vz_g lv 6 = some (.int l_6)) (hnb : vz_nbL (vz_gr P0) lv = true)  (H : J_192_139 N g l_3 l_5 l_6 σ = some p) : vz_ev P0 (d + 4) 192 139 lv [] (hp σ) (.inl none, hp p) := by
  unfold J_192_139 at H
  refine ev_x (i := .aload_n 0) (len := 1) (p' := 140) (s' := [.ref 66]) rfl rfl (ld_a g_0) ?_
  refine ev_x (i := .iload_n 3) (len := 1) (p' := 141) (s' := [.int l_3, .ref 66]) rfl rfl (ld_i g_3) ?_
  refine ev_x (i := .bipush 14) (len := 2) (p' := 143) (s' := [.int 14, .int l_3, .ref 66]) rfl rfl rfl ?_
  refine F_jn (A := vz_ev P0 (d + 4) 192 151 (lv) [.int (if l_3 = 14 then 1 else 0 : Int32), .ref 66] (hp (σ)) (.inl none, hp p)) ?_ (fun J => ?_)
  · refine ev_x (i := .iload 6) (len := 2) (p' := 153) (s' := [.int l_6, .int (if l_3 = 14 then 1 else 0 : Int32), .ref 66]) rfl rfl (ld_i g_6) ?_
    refine ev_x (i := .iload 5) (len := 2) (p' := 155) (s' := [.int l_5, .int l_6, .int (if l_3 = 14 then 1 else 0 : Int32), .ref 66]) rfl rfl (ld_i g_5) ?_
    obtain ⟨p_59, G_59, H⟩ := F_bd H
    refine ev_cv (d := d + 3) (As := [.int (if l_3 = 14 then 1 else 0 : Int32), .int l_6, .int l_5]) (a := 66) (p' := 158) rfl rfl rfl ly_66 rfl rfl rfl rfl rfl hnb rfl (F_193_ok (d := d + 1)   G_59) ?_
    refine ev_st (st' := []) rfl ?_
    have e_59 := F_193_R G_59
    refine ev_x (i := .goto 242) (len := 3) (p' := 400) (s' := []) rfl rfl rfl ?_
    obtain rfl := Option.some.inj H
    exact ev_vret rfl rfl rfl
  · by_cases c_58 : l_3 = 14
    · refine ev_b2 (t := 150) (p' := 146) rfl rfl rfl (if_neg (fun q => q c_58)) ?_
      refine ev_x (i := .iconst 1) (len := 1) (p' := 147) (s' := [.int 1, .ref 66]) rfl rfl rfl ?_
      refine ev_x (i := .goto 4) (len := 3) (p' := 151) (s' := [.int 1, .ref 66]) rfl rfl rfl ?_
      exact ev_st (congrArg (fun z => Value.int z :: [.ref 66]) (by rw [if_pos c_58])) J
    · refine ev_b2 (t := 150) (p' := 150) rfl rfl rfl (if_pos c_58) ?_
      refine ev_x (i := .iconst 0) (len := 1) (p' := 151) (s' := [.int 0, .ref 66]) rfl rfl rfl ?_
      exact ev_st (congrArg (fun z => Value.int z :: [.ref 66]) (by rw [if_neg c_58])) J
/-- GameTextModel.finish(LGameTextModel$Game;I)V, its loops -/
def L_192 (N : Nat) (g : Nat) : Nat → Int32 → Int32 → Int32 → Int32 → st_S → Option (st_S)
  | 0, _, _, _, _, _ => none
  | k + 1, l_3, l_4, l_5, l_6, σ =>
      if l_6 < 0 then
        if l_3 = 31 then
          if aB ((gI σ 66 23) - l_5) (gN σ 163) then
          (F_189 N (if (lg_cmp (gL (σ) 163 (((gI σ 66 23) - l_5) : Int32).toNatClampNeg) 0) = 0 then 1 else 0 : Int32) (st_i (σ) 66 23 ((gI σ 66 23) - l_5))).bind fun p_8 =>
          some (p_8)
          else none
        else
          if l_3 = 45 then
            if aB ((gI σ 66 23) - l_5) (gN σ 163) then
            if aB ((gI σ 66 23) - l_5) (gN σ 164) then
            (F_188 N (-(gL (σ) 163 (((gI σ 66 23) - l_5) : Int32).toNatClampNeg)) (gL (σ) 164 (((gI σ 66 23) - l_5) : Int32).toNatClampNeg) (st_i (σ) 66 23 ((gI σ 66 23) - l_5))).bind fun p_12 =>
            some (p_12)
            else none
            else none
          else
            if l_3 = 14 then
              J_192_139 N g l_3 l_5 ((gI σ 66 23) - l_5) (st_i (σ) 66 23 ((gI σ 66 23) - l_5))
            else
              if l_3 = 15 then
                J_192_139 N g l_3 l_5 ((gI σ 66 23) - l_5) (st_i (σ) 66 23 ((gI σ 66 23) - l_5))
              else
                (F_157 N l_3 (st_i (σ) 66 23 ((gI σ 66 23) - l_5))).bind fun p_15 =>
                if p_15.1 = 0 then
                  if aB ((gI σ 66 23) - l_5) (gN p_15.2 163) then
                  if aB ((gI σ 66 23) - l_5) (gN p_15.2 164) then
                  if aB (((gI σ 66 23) - l_5) + 1) (gN p_15.2 163) then
                  if aB (((gI σ 66 23) - l_5) + 1) (gN p_15.2 164) then
                  (F_194 N l_3 (gL (p_15.2) 163 (((gI σ 66 23) - l_5) : Int32).toNatClampNeg) (gL (p_15.2) 164 (((gI σ 66 23) - l_5) : Int32).toNatClampNeg) (gL (p_15.2) 163 ((((gI σ 66 23) - l_5) + 1) : Int32).toNatClampNeg) (gL (p_15.2) 164 ((((gI σ 66 23) - l_5) + 1) : Int32).toNatClampNeg) l_4 (p_15.2)).bind fun p_21 =>
                  some (p_21)
                  else none
                  else none
                  else none
                  else none
                else
                  if aB ((gI σ 66 23) - l_5) (gN p_15.2 164) then
                  if (lg_cmp (gL (p_15.2) 164 (((gI σ 66 23) - l_5) : Int32).toNatClampNeg) 0) = 0 then
                    if aB ((gI σ 66 23) - l_5) (gN p_15.2 163) then
                    if aB (((gI σ 66 23) - l_5) + 1) (gN p_15.2 163) then
                    if l_3 = 23 then
                      (F_189 N (if (lg_cmp ((gL (p_15.2) 163 (((gI σ 66 23) - l_5) : Int32).toNatClampNeg) - (gL (p_15.2) 163 ((((gI σ 66 23) - l_5) + 1) : Int32).toNatClampNeg)) 0) = 0 then 1 else 0 : Int32) (p_15.2)).bind fun p_28 =>
                      some (p_28)
                    else
                      if l_3 = 18 then
                        (F_189 N (if (lg_cmp ((gL (p_15.2) 163 (((gI σ 66 23) - l_5) : Int32).toNatClampNeg) - (gL (p_15.2) 163 ((((gI σ 66 23) - l_5) + 1) : Int32).toNatClampNeg)) 0) = 0 then 0 else 1 : Int32) (p_15.2)).bind fun p_31 =>
                        some (p_31)
                      else
                        (F_189 N (if l_3 = 21 then (if 0 ≤ (lg_cmp ((gL (p_15.2) 163 (((gI σ 66 23) - l_5) : Int32).toNatClampNeg) - (gL (p_15.2) 163 ((((gI σ 66 23) - l_5) + 1) : Int32).toNatClampNeg)) 0) then 0 else 1) else (if l_3 = 19 then (if 0 < (lg_cmp ((gL (p_15.2) 163 (((gI σ 66 23) - l_5) : Int32).toNatClampNeg) - (gL (p_15.2) 163 ((((gI σ 66 23) - l_5) + 1) : Int32).toNatClampNeg)) 0) then 0 else 1) else (if l_3 = 22 then (if (lg_cmp ((gL (p_15.2) 163 (((gI σ 66 23) - l_5) : Int32).toNatClampNeg) - (gL (p_15.2) 163 ((((gI σ 66 23) - l_5) + 1) : Int32).toNatClampNeg)) 0) ≤ 0 then 0 else 1) else (if (lg_cmp ((gL (p_15.2) 163 (((gI σ 66 23) - l_5) : Int32).toNatClampNeg) - (gL (p_15.2) 163 ((((gI σ 66 23) - l_5) + 1) : Int32).toNatClampNeg)) 0) < 0 then 0 else 1))) : Int32) (p_15.2)).bind fun p_39 =>
                        some (p_39)
                    else none
                    else none
                  else
                    if aB ((gI σ 66 23) - l_5) (gN p_15.2 163) then
                    if aB (((gI σ 66 23) - l_5) + 1) (gN p_15.2 164) then
                    if aB (((gI σ 66 23) - l_5) + 1) (gN p_15.2 163) then
                    if l_3 = 23 then
                      (F_189 N (if (lg_cmp (((gL (p_15.2) 163 (((gI σ 66 23) - l_5) : Int32).toNatClampNeg) * (gL (p_15.2) 164 ((((gI σ 66 23) - l_5) + 1) : Int32).toNatClampNeg)) - ((gL (p_15.2) 163 ((((gI σ 66 23) - l_5) + 1) : Int32).toNatClampNeg) * (gL (p_15.2) 164 (((gI σ 66 23) - l_5) : Int32).toNatClampNeg))) 0) = 0 then 1 else 0 : Int32) (p_15.2)).bind fun p_45 =>
                      some (p_45)
                    else
                      if l_3 = 18 then
                        (F_189 N (if (lg_cmp (((gL (p_15.2) 163 (((gI σ 66 23) - l_5) : Int32).toNatClampNeg) * (gL (p_15.2) 164 ((((gI σ 66 23) - l_5) + 1) : Int32).toNatClampNeg)) - ((gL (p_15.2) 163 ((((gI σ 66 23) - l_5) + 1) : Int32).toNatClampNeg) * (gL (p_15.2) 164 (((gI σ 66 23) - l_5) : Int32).toNatClampNeg))) 0) = 0 then 0 else 1 : Int32) (p_15.2)).bind fun p_48 =>
                        some (p_48)
                      else
                        (F_189 N (if l_3 = 21 then (if 0 ≤ (lg_cmp (((gL (p_15.2) 163 (((gI σ 66 23) - l_5) : Int32).toNatClampNeg) * (gL (p_15.2) 164 ((((gI σ 66 23) - l_5) + 1) : Int32).toNatClampNeg)) - ((gL (p_15.2) 163 ((((gI σ 66 23) - l_5) + 1) : Int32).toNatClampNeg) * (gL (p_15.2) 164 (((gI σ 66 23) - l_5) : Int32).toNatClampNeg))) 0) then 0 else 1) else (if l_3 = 19 then (if 0 < (lg_cmp (((gL (p_15.2) 163 (((gI σ 66 23) - l_5) : Int32).toNatClampNeg) * (gL (p_15.2) 164 ((((gI σ 66 23) - l_5) + 1) : Int32).toNatClampNeg)) - ((gL (p_15.2) 163 ((((gI σ 66 23) - l_5) + 1) : Int32).toNatClampNeg) * (gL (p_15.2) 164 (((gI σ 66 23) - l_5) : Int32).toNatClampNeg))) 0) then 0 else 1) else (if l_3 = 22 then (if (lg_cmp (((gL (p_15.2) 163 (((gI σ 66 23) - l_5) : Int32).toNatClampNeg) * (gL (p_15.2) 164 ((((gI σ 66 23) - l_5) + 1) : Int32).toNatClampNeg)) - ((gL (p_15.2) 163 ((((gI σ 66 23) - l_5) + 1) : Int32).toNatClampNeg) * (gL (p_15.2) 164 (((gI σ 66 23) - l_5) : Int32).toNatClampNeg))) 0) ≤ 0 then 0 else 1) else (if (lg_cmp (((gL (p_15.2) 163 (((gI σ 66 23) - l_5) : Int32).toNatClampNeg) * (gL (p_15.2) 164 ((((gI σ 66 23) - l_5) + 1) : Int32).toNatClampNeg)) - ((gL (p_15.2) 163 ((((gI σ 66 23) - l_5) + 1) : Int32).toNatClampNeg) * (gL (p_15.2) 164 (((gI σ 66 23) - l_5) : Int32).toNatClampNeg))) 0) < 0 then 0 else 1))) : Int32) (p_15.2)).bind fun p_56 =>
                        some (p_56)
                    else none
                    else none
                    else none
                  else none
      else
        (N_139 N (g + 11) l_6 (σ)).bind fun p_57 =>
        L_192 N g k l_3 l_4 (l_5 + 1) p_57.1 (p_57.2)
set_option maxRecDepth 100000 in
theorem L_192_R {N : Nat} {g : Nat} : ∀ (k : Nat) (l_3 : Int32) (l_4 : Int32) (l_5 : Int32) (l_6 : Int32) (σ : st_S) (p : st_S), L_192 N g k l_3 l_4 l_5 l_6 σ = some p → gR p = gR σ := by
  intro k
  induction k with
  | zero => intro l_3 l_4 l_5 l_6 σ p H; unfold L_192 at H; cases H
  | succ k ih =>
    intro l_3 l_4 l_5 l_6 σ p H
    unfold L_192 at H
    refine F_if H (fun _ H => ?_) (fun _ H => ?_)
    · refine F_if H (fun _ H => ?_) (fun _ H => ?_)
      · obtain ⟨_, H⟩ := F_gd H
        obtain ⟨p_8, G_8, H⟩ := F_bd H
        obtain rfl := Option.some.inj H
        exact ((F_189_R G_8).trans rfl)
      · refine F_if H (fun _ H => ?_) (fun _ H => ?_)
        · obtain ⟨_, H⟩ := F_gd H
          obtain ⟨_, H⟩ := F_gd H
          obtain ⟨p_12, G_12, H⟩ := F_bd H
          obtain rfl := Option.some.inj H
          exact ((F_188_R G_12).trans rfl)
        · refine F_if H (fun _ H => ?_) (fun _ H => ?_)
          · exact (((J_192_139_R H)).trans rfl)
          · refine F_if H (fun _ H => ?_) (fun _ H => ?_)
            · exact (((J_192_139_R H)).trans rfl)
            · obtain ⟨p_15, G_15, H⟩ := F_bd H
              refine F_if H (fun _ H => ?_) (fun _ H => ?_)
              · obtain ⟨_, H⟩ := F_gd H
                obtain ⟨_, H⟩ := F_gd H
                obtain ⟨_, H⟩ := F_gd H
                obtain ⟨_, H⟩ := F_gd H
                obtain ⟨p_21, G_21, H⟩ := F_bd H
                obtain rfl := Option.some.inj H
                exact ((F_194_R G_21).trans ((F_157_R G_15).trans rfl))
              · obtain ⟨_, H⟩ := F_gd H
                refine F_if H (fun _ H => ?_) (fun _ H => ?_)
                · obtain ⟨_, H⟩ := F_gd H
                  obtain ⟨_, H⟩ := F_gd H
                  refine F_if H (fun _ H => ?_) (fun _ H => ?_)
                  · obtain ⟨p_28, G_28, H⟩ := F_bd H
                    obtain rfl := Option.some.inj H
                    exact ((F_189_R G_28).trans ((F_157_R G_15).trans rfl))
                  · refine F_if H (fun _ H => ?_) (fun _ H => ?_)
                    · obtain ⟨p_31, G_31, H⟩ := F_bd H
                      obtain rfl := Option.some.inj H
                      exact ((F_189_R G_31).trans ((F_157_R G_15).trans rfl))
                    · obtain ⟨p_39, G_39, H⟩ := F_bd H
                      obtain rfl := Option.some.inj H
                      exact ((F_189_R G_39).trans ((F_157_R G_15).trans rfl))
                · obtain ⟨_, H⟩ := F_gd H
                  obtain ⟨_, H⟩ := F_gd H
                  obtain ⟨_, H⟩ := F_gd H
                  refine F_if H (fun _ H => ?_) (fun _ H => ?_)
                  · obtain ⟨p_45, G_45, H⟩ := F_bd H
                    obtain rfl := Option.some.inj H
                    exact ((F_189_R G_45).trans ((F_157_R G_15).trans rfl))
                  · refine F_if H (fun _ H => ?_) (fun _ H => ?_)
                    · obtain ⟨p_48, G_48, H⟩ := F_bd H
                      obtain rfl := Option.some.inj H
                      exact ((F_189_R G_48).trans ((F_157_R G_15).trans rfl))
                    · obtain ⟨p_56, G_56, H⟩ := F_bd H
                      obtain rfl := Option.some.inj H
                      exact ((F_189_R G_56).trans ((F_157_R G_15).trans rfl))
    · obtain ⟨p_57, G_57, H⟩ := F_bd H
      exact (((ih _ _ _ _ _ _ H)).trans ((N_139_R G_57).trans rfl))
set_option maxHeartbeats 4000000 in
set_option maxRecDepth 100000 in
theorem L_192_ok {N d : Nat} {g : Nat} (hg : g = 79 ∨ g = 115) : ∀ k : Nat, ∀ (l_3 : Int32) (l_4 : Int32) (l_5 : Int32) (l_6 : Int32) (σ : st_S) (lv : vz_L) (p : st_S), vz_g lv 0 = some (.ref 66) → vz_g lv 1 = some (.ref g) → vz_g lv 3 = some (.int l_3) → vz_g lv 4 = some (.int l_4) → vz_g lv 5 = some (.int l_5) → vz_g lv 6 = some (.int l_6) → vz_nbL (vz_gr P0) lv = true → L_192 N g k l_3 l_4 l_5 l_6 σ = some p → vz_ev P0 (d + 4) 192 32 lv [] (hp σ) (.inl none, hp p) := by
  rcases hg with rfl | rfl
  · intro k
    induction k with
    | zero => intro l_3 l_4 l_5 l_6 σ lv p g_0 g_1 g_3 g_4 g_5 g_6 hnb H; unfold L_192 at H; cases H
    | succ k ih =>
      intro l_3 l_4 l_5 l_6 σ lv p g_0 g_1 g_3 g_4 g_5 g_6 hnb H
      unfold L_192 at H
      refine ev_x (i := .iload 6) (len := 2) (p' := 34) (s' := [.int l_6]) rfl rfl (ld_i g_6) ?_
      refine F_if H (fun c_4 H => ?_) (fun c_4 H => ?_)
      · refine ev_b0 (t := 54) (p' := 54) rfl rfl rfl (if_pos c_4) ?_
        refine ev_x (i := .aload_n 0) (len := 1) (p' := 55) (s' := [.ref 66]) rfl rfl (ld_a g_0) ?_
        refine ev_gi (p' := 58) (v := (gI σ 66 23)) rfl rfl rfl ly_66 rfl rfl rfl ?_
        refine ev_x (i := .iload 5) (len := 2) (p' := 60) (s' := [.int l_5, .int (gI σ 66 23)]) rfl rfl (ld_i g_5) ?_
        refine ev_x (i := .isub) (len := 1) (p' := 61) (s' := [.int ((gI σ 66 23) - l_5)]) rfl rfl rfl ?_
        refine ev_x (i := .istore 6) (len := 2) (p' := 63) (s' := []) (l' := vz_s1 (lv) 6 (.int ((gI σ 66 23) - l_5))) rfl rfl rfl ?_
        refine ev_x (i := .aload_n 0) (len := 1) (p' := 64) (s' := [.ref 66]) rfl rfl (ld_a (vg_o (i := 6) (v := .int ((gI σ 66 23) - l_5)) g_0 (by decide) (Or.inl rfl))) ?_
        refine ev_x (i := .iload 6) (len := 2) (p' := 66) (s' := [.int ((gI σ 66 23) - l_5), .ref 66]) rfl rfl (ld_i (vg_s (lv) 6 (.int ((gI σ 66 23) - l_5)))) ?_
        refine ev_pi (p' := 69) rfl rfl rfl ly_66 rfl rfl rfl rfl ?_
        refine ev_x (i := .iload_n 3) (len := 1) (p' := 70) (s' := [.int l_3]) rfl rfl (ld_i (vg_o (i := 6) (v := .int ((gI σ 66 23) - l_5)) g_3 (by decide) (Or.inl rfl))) ?_
        refine ev_x (i := .bipush 31) (len := 2) (p' := 72) (s' := [.int 31, .int l_3]) rfl rfl rfl ?_
        refine F_if H (fun c_5 H => ?_) (fun c_5 H => ?_)
        · refine ev_b2 (t := 99) (p' := 75) rfl rfl rfl (if_neg (fun q => q c_5)) ?_
          refine ev_x (i := .aload_n 0) (len := 1) (p' := 76) (s' := [.ref 66]) rfl rfl (ld_a (vg_o (i := 6) (v := .int ((gI σ 66 23) - l_5)) g_0 (by decide) (Or.inl rfl))) ?_
          refine ev_x (i := .aload_n 0) (len := 1) (p' := 77) (s' := [.ref 66, .ref 66]) rfl rfl (ld_a (vg_o (i := 6) (v := .int ((gI σ 66 23) - l_5)) g_0 (by decide) (Or.inl rfl))) ?_
          refine ev_gc (p' := 80) (v := 163) rfl rfl rfl ly_66 rfl rfl ?_
          refine ev_x (i := .iload 6) (len := 2) (p' := 82) (s' := [.int ((gI σ 66 23) - l_5), .ref 163, .ref 66]) rfl rfl (ld_i (vg_s (lv) 6 (.int ((gI σ 66 23) - l_5)))) ?_
          obtain ⟨b_6, H⟩ := F_gd H
          refine ev_gL (p' := 83) (v := (gL (σ) 163 (((gI σ 66 23) - l_5) : Int32).toNatClampNeg)) rfl rfl ly_163 rfl (gd_in b_6) rfl ?_
          refine ev_x (i := .lconst 0) (len := 1) (p' := 84) (s' := [.long 0, .long (gL (σ) 163 (((gI σ 66 23) - l_5) : Int32).toNatClampNeg), .ref 66]) rfl rfl rfl ?_
          refine ev_x (i := .lcmp) (len := 1) (p' := 85) (s' := [.int (lg_cmp (gL (σ) 163 (((gI σ 66 23) - l_5) : Int32).toNatClampNeg) 0), .ref 66]) rfl rfl rfl ?_
          refine F_jn (A := vz_ev P0 (d + 4) 192 93 (vz_s1 (lv) 6 (.int ((gI σ 66 23) - l_5))) [.int (if (lg_cmp (gL (σ) 163 (((gI σ 66 23) - l_5) : Int32).toNatClampNeg) 0) = 0 then 1 else 0 : Int32), .ref 66] (hp (st_i (σ) 66 23 ((gI σ 66 23) - l_5))) (.inl none, hp p)) ?_ (fun J => ?_)
          · obtain ⟨p_8, G_8, H⟩ := F_bd H
            refine ev_cv (d := d + 3) (As := [.int (if (lg_cmp (gL (σ) 163 (((gI σ 66 23) - l_5) : Int32).toNatClampNeg) 0) = 0 then 1 else 0 : Int32)]) (a := 66) (p' := 96) rfl rfl rfl ly_66 rfl rfl rfl rfl rfl (nb_s1 hnb rfl) rfl (F_189_ok (d := d + 1)   G_8) ?_
            refine ev_st (st' := []) rfl ?_
            have e_8 := F_189_R G_8
            refine ev_x (i := .goto 304) (len := 3) (p' := 400) (s' := []) rfl rfl rfl ?_
            obtain rfl := Option.some.inj H
            exact ev_vret rfl rfl rfl
          · by_cases c_7 : (lg_cmp (gL (σ) 163 (((gI σ 66 23) - l_5) : Int32).toNatClampNeg) 0) = 0
            · refine ev_b0 (t := 92) (p' := 88) rfl rfl rfl (if_neg (fun q => q c_7)) ?_
              refine ev_x (i := .iconst 1) (len := 1) (p' := 89) (s' := [.int 1, .ref 66]) rfl rfl rfl ?_
              refine ev_x (i := .goto 4) (len := 3) (p' := 93) (s' := [.int 1, .ref 66]) rfl rfl rfl ?_
              exact ev_st (congrArg (fun z => Value.int z :: [.ref 66]) (by rw [if_pos c_7])) J
            · refine ev_b0 (t := 92) (p' := 92) rfl rfl rfl (if_pos c_7) ?_
              refine ev_x (i := .iconst 0) (len := 1) (p' := 93) (s' := [.int 0, .ref 66]) rfl rfl rfl ?_
              exact ev_st (congrArg (fun z => Value.int z :: [.ref 66]) (by rw [if_neg c_7])) J
        · refine ev_b2 (t := 99) (p' := 99) rfl rfl rfl (if_pos c_5) ?_
          refine ev_x (i := .iload_n 3) (len := 1) (p' := 100) (s' := [.int l_3]) rfl rfl (ld_i (vg_o (i := 6) (v := .int ((gI σ 66 23) - l_5)) g_3 (by decide) (Or.inl rfl))) ?_
          refine ev_x (i := .bipush 45) (len := 2) (p' := 102) (s' := [.int 45, .int l_3]) rfl rfl rfl ?_
          refine F_if H (fun c_9 H => ?_) (fun c_9 H => ?_)
          · refine ev_b2 (t := 127) (p' := 105) rfl rfl rfl (if_neg (fun q => q c_9)) ?_
            refine ev_x (i := .aload_n 0) (len := 1) (p' := 106) (s' := [.ref 66]) rfl rfl (ld_a (vg_o (i := 6) (v := .int ((gI σ 66 23) - l_5)) g_0 (by decide) (Or.inl rfl))) ?_
            refine ev_x (i := .aload_n 0) (len := 1) (p' := 107) (s' := [.ref 66, .ref 66]) rfl rfl (ld_a (vg_o (i := 6) (v := .int ((gI σ 66 23) - l_5)) g_0 (by decide) (Or.inl rfl))) ?_
            refine ev_gc (p' := 110) (v := 163) rfl rfl rfl ly_66 rfl rfl ?_
            refine ev_x (i := .iload 6) (len := 2) (p' := 112) (s' := [.int ((gI σ 66 23) - l_5), .ref 163, .ref 66]) rfl rfl (ld_i (vg_s (lv) 6 (.int ((gI σ 66 23) - l_5)))) ?_
            obtain ⟨b_10, H⟩ := F_gd H
            refine ev_gL (p' := 113) (v := (gL (σ) 163 (((gI σ 66 23) - l_5) : Int32).toNatClampNeg)) rfl rfl ly_163 rfl (gd_in b_10) rfl ?_
            refine ev_x (i := .lneg) (len := 1) (p' := 114) (s' := [.long (-(gL (σ) 163 (((gI σ 66 23) - l_5) : Int32).toNatClampNeg)), .ref 66]) rfl rfl rfl ?_
            refine ev_x (i := .aload_n 0) (len := 1) (p' := 115) (s' := [.ref 66, .long (-(gL (σ) 163 (((gI σ 66 23) - l_5) : Int32).toNatClampNeg)), .ref 66]) rfl rfl (ld_a (vg_o (i := 6) (v := .int ((gI σ 66 23) - l_5)) g_0 (by decide) (Or.inl rfl))) ?_
            refine ev_gc (p' := 118) (v := 164) rfl rfl rfl ly_66 rfl rfl ?_
            refine ev_x (i := .iload 6) (len := 2) (p' := 120) (s' := [.int ((gI σ 66 23) - l_5), .ref 164, .long (-(gL (σ) 163 (((gI σ 66 23) - l_5) : Int32).toNatClampNeg)), .ref 66]) rfl rfl (ld_i (vg_s (lv) 6 (.int ((gI σ 66 23) - l_5)))) ?_
            obtain ⟨b_11, H⟩ := F_gd H
            refine ev_gL (p' := 121) (v := (gL (σ) 164 (((gI σ 66 23) - l_5) : Int32).toNatClampNeg)) rfl rfl ly_164 rfl (gd_in b_11) rfl ?_
            obtain ⟨p_12, G_12, H⟩ := F_bd H
            refine ev_cv (d := d + 3) (As := [.long (-(gL (σ) 163 (((gI σ 66 23) - l_5) : Int32).toNatClampNeg)), .long (gL (σ) 164 (((gI σ 66 23) - l_5) : Int32).toNatClampNeg)]) (a := 66) (p' := 124) rfl rfl rfl ly_66 rfl rfl rfl rfl rfl (nb_s1 hnb rfl) rfl (F_188_ok (d := d + 2)   G_12) ?_
            refine ev_st (st' := []) rfl ?_
            have e_12 := F_188_R G_12
            refine ev_x (i := .goto 276) (len := 3) (p' := 400) (s' := []) rfl rfl rfl ?_
            obtain rfl := Option.some.inj H
            exact ev_vret rfl rfl rfl
          · refine ev_b2 (t := 127) (p' := 127) rfl rfl rfl (if_pos c_9) ?_
            refine ev_x (i := .iload_n 3) (len := 1) (p' := 128) (s' := [.int l_3]) rfl rfl (ld_i (vg_o (i := 6) (v := .int ((gI σ 66 23) - l_5)) g_3 (by decide) (Or.inl rfl))) ?_
            refine ev_x (i := .bipush 14) (len := 2) (p' := 130) (s' := [.int 14, .int l_3]) rfl rfl rfl ?_
            refine F_if H (fun c_13 H => ?_) (fun c_13 H => ?_)
            · refine ev_b2 (t := 139) (p' := 139) rfl rfl rfl (if_pos c_13) ?_
              exact J_192_139_ok (d := d) (Or.inl rfl) (vg_o (i := 6) (v := .int ((gI σ 66 23) - l_5)) g_0 (by decide) (Or.inl rfl)) (vg_o (i := 6) (v := .int ((gI σ 66 23) - l_5)) g_3 (by decide) (Or.inl rfl)) (vg_o (i := 6) (v := .int ((gI σ 66 23) - l_5)) g_5 (by decide) (Or.inl rfl)) (vg_s (lv) 6 (.int ((gI σ 66 23) - l_5))) (nb_s1 hnb rfl)  H
            · refine ev_b2 (t := 139) (p' := 133) rfl rfl rfl (if_neg c_13) ?_
              refine ev_x (i := .iload_n 3) (len := 1) (p' := 134) (s' := [.int l_3]) rfl rfl (ld_i (vg_o (i := 6) (v := .int ((gI σ 66 23) - l_5)) g_3 (by decide) (Or.inl rfl))) ?_
              refine ev_x (i := .bipush 15) (len := 2) (p' := 136) (s' := [.int 15, .int l_3]) rfl rfl rfl ?_
              refine F_if H (fun c_14 H => ?_) (fun c_14 H => ?_)
              · refine ev_b2 (t := 161) (p' := 139) rfl rfl rfl (if_neg (fun q => q c_14)) ?_
                exact J_192_139_ok (d := d) (Or.inl rfl) (vg_o (i := 6) (v := .int ((gI σ 66 23) - l_5)) g_0 (by decide) (Or.inl rfl)) (vg_o (i := 6) (v := .int ((gI σ 66 23) - l_5)) g_3 (by decide) (Or.inl rfl)) (vg_o (i := 6) (v := .int ((gI σ 66 23) - l_5)) g_5 (by decide) (Or.inl rfl)) (vg_s (lv) 6 (.int ((gI σ 66 23) - l_5))) (nb_s1 hnb rfl)  H
              · refine ev_b2 (t := 161) (p' := 161) rfl rfl rfl (if_pos c_14) ?_
                refine ev_x (i := .iload_n 3) (len := 1) (p' := 162) (s' := [.int l_3]) rfl rfl (ld_i (vg_o (i := 6) (v := .int ((gI σ 66 23) - l_5)) g_3 (by decide) (Or.inl rfl))) ?_
                obtain ⟨p_15, G_15, H⟩ := F_bd H
                refine ev_callS (d := d + 3) (As := [.int l_3]) rfl rfl rfl (by decide) rfl rfl rfl rfl (nb_s1 hnb rfl) (F_157_ok (d := d + 2)   G_15) ?_
                refine ev_st (st' := [.int p_15.1]) rfl ?_
                refine ev_pc (pc' := 165) rfl ?_
                have e_15 := F_157_R G_15
                refine F_if H (fun c_16 H => ?_) (fun c_16 H => ?_)
                · refine ev_b0 (t := 361) (p' := 361) rfl rfl rfl (if_pos c_16) ?_
                  refine ev_x (i := .aload_n 0) (len := 1) (p' := 362) (s' := [.ref 66]) rfl rfl (ld_a (vg_o (i := 6) (v := .int ((gI σ 66 23) - l_5)) g_0 (by decide) (Or.inl rfl))) ?_
                  refine ev_x (i := .iload_n 3) (len := 1) (p' := 363) (s' := [.int l_3, .ref 66]) rfl rfl (ld_i (vg_o (i := 6) (v := .int ((gI σ 66 23) - l_5)) g_3 (by decide) (Or.inl rfl))) ?_
                  refine ev_x (i := .aload_n 0) (len := 1) (p' := 364) (s' := [.ref 66, .int l_3, .ref 66]) rfl rfl (ld_a (vg_o (i := 6) (v := .int ((gI σ 66 23) - l_5)) g_0 (by decide) (Or.inl rfl))) ?_
                  refine ev_gc (p' := 367) (v := 163) rfl rfl rfl ly_66 rfl rfl ?_
                  refine ev_x (i := .iload 6) (len := 2) (p' := 369) (s' := [.int ((gI σ 66 23) - l_5), .ref 163, .int l_3, .ref 66]) rfl rfl (ld_i (vg_s (lv) 6 (.int ((gI σ 66 23) - l_5)))) ?_
                  obtain ⟨b_17, H⟩ := F_gd H
                  refine ev_gL (p' := 370) (v := (gL (p_15.2) 163 (((gI σ 66 23) - l_5) : Int32).toNatClampNeg)) rfl rfl ly_163 rfl (gd_in b_17) rfl ?_
                  refine ev_x (i := .aload_n 0) (len := 1) (p' := 371) (s' := [.ref 66, .long (gL (p_15.2) 163 (((gI σ 66 23) - l_5) : Int32).toNatClampNeg), .int l_3, .ref 66]) rfl rfl (ld_a (vg_o (i := 6) (v := .int ((gI σ 66 23) - l_5)) g_0 (by decide) (Or.inl rfl))) ?_
                  refine ev_gc (p' := 374) (v := 164) rfl rfl rfl ly_66 rfl rfl ?_
                  refine ev_x (i := .iload 6) (len := 2) (p' := 376) (s' := [.int ((gI σ 66 23) - l_5), .ref 164, .long (gL (p_15.2) 163 (((gI σ 66 23) - l_5) : Int32).toNatClampNeg), .int l_3, .ref 66]) rfl rfl (ld_i (vg_s (lv) 6 (.int ((gI σ 66 23) - l_5)))) ?_
                  obtain ⟨b_18, H⟩ := F_gd H
                  refine ev_gL (p' := 377) (v := (gL (p_15.2) 164 (((gI σ 66 23) - l_5) : Int32).toNatClampNeg)) rfl rfl ly_164 rfl (gd_in b_18) rfl ?_
                  refine ev_x (i := .aload_n 0) (len := 1) (p' := 378) (s' := [.ref 66, .long (gL (p_15.2) 164 (((gI σ 66 23) - l_5) : Int32).toNatClampNeg), .long (gL (p_15.2) 163 (((gI σ 66 23) - l_5) : Int32).toNatClampNeg), .int l_3, .ref 66]) rfl rfl (ld_a (vg_o (i := 6) (v := .int ((gI σ 66 23) - l_5)) g_0 (by decide) (Or.inl rfl))) ?_
                  refine ev_gc (p' := 381) (v := 163) rfl rfl rfl ly_66 rfl rfl ?_
                  refine ev_x (i := .iload 6) (len := 2) (p' := 383) (s' := [.int ((gI σ 66 23) - l_5), .ref 163, .long (gL (p_15.2) 164 (((gI σ 66 23) - l_5) : Int32).toNatClampNeg), .long (gL (p_15.2) 163 (((gI σ 66 23) - l_5) : Int32).toNatClampNeg), .int l_3, .ref 66]) rfl rfl (ld_i (vg_s (lv) 6 (.int ((gI σ 66 23) - l_5)))) ?_
                  refine ev_x (i := .iconst 1) (len := 1) (p' := 384) (s' := [.int 1, .int ((gI σ 66 23) - l_5), .ref 163, .long (gL (p_15.2) 164 (((gI σ 66 23) - l_5) : Int32).toNatClampNeg), .long (gL (p_15.2) 163 (((gI σ 66 23) - l_5) : Int32).toNatClampNeg), .int l_3, .ref 66]) rfl rfl rfl ?_
                  refine ev_x (i := .iadd) (len := 1) (p' := 385) (s' := [.int (((gI σ 66 23) - l_5) + 1), .ref 163, .long (gL (p_15.2) 164 (((gI σ 66 23) - l_5) : Int32).toNatClampNeg), .long (gL (p_15.2) 163 (((gI σ 66 23) - l_5) : Int32).toNatClampNeg), .int l_3, .ref 66]) rfl rfl rfl ?_
                  obtain ⟨b_19, H⟩ := F_gd H
                  refine ev_gL (p' := 386) (v := (gL (p_15.2) 163 ((((gI σ 66 23) - l_5) + 1) : Int32).toNatClampNeg)) rfl rfl ly_163 rfl (gd_in b_19) rfl ?_
                  refine ev_x (i := .aload_n 0) (len := 1) (p' := 387) (s' := [.ref 66, .long (gL (p_15.2) 163 ((((gI σ 66 23) - l_5) + 1) : Int32).toNatClampNeg), .long (gL (p_15.2) 164 (((gI σ 66 23) - l_5) : Int32).toNatClampNeg), .long (gL (p_15.2) 163 (((gI σ 66 23) - l_5) : Int32).toNatClampNeg), .int l_3, .ref 66]) rfl rfl (ld_a (vg_o (i := 6) (v := .int ((gI σ 66 23) - l_5)) g_0 (by decide) (Or.inl rfl))) ?_
                  refine ev_gc (p' := 390) (v := 164) rfl rfl rfl ly_66 rfl rfl ?_
                  refine ev_x (i := .iload 6) (len := 2) (p' := 392) (s' := [.int ((gI σ 66 23) - l_5), .ref 164, .long (gL (p_15.2) 163 ((((gI σ 66 23) - l_5) + 1) : Int32).toNatClampNeg), .long (gL (p_15.2) 164 (((gI σ 66 23) - l_5) : Int32).toNatClampNeg), .long (gL (p_15.2) 163 (((gI σ 66 23) - l_5) : Int32).toNatClampNeg), .int l_3, .ref 66]) rfl rfl (ld_i (vg_s (lv) 6 (.int ((gI σ 66 23) - l_5)))) ?_
                  refine ev_x (i := .iconst 1) (len := 1) (p' := 393) (s' := [.int 1, .int ((gI σ 66 23) - l_5), .ref 164, .long (gL (p_15.2) 163 ((((gI σ 66 23) - l_5) + 1) : Int32).toNatClampNeg), .long (gL (p_15.2) 164 (((gI σ 66 23) - l_5) : Int32).toNatClampNeg), .long (gL (p_15.2) 163 (((gI σ 66 23) - l_5) : Int32).toNatClampNeg), .int l_3, .ref 66]) rfl rfl rfl ?_
                  refine ev_x (i := .iadd) (len := 1) (p' := 394) (s' := [.int (((gI σ 66 23) - l_5) + 1), .ref 164, .long (gL (p_15.2) 163 ((((gI σ 66 23) - l_5) + 1) : Int32).toNatClampNeg), .long (gL (p_15.2) 164 (((gI σ 66 23) - l_5) : Int32).toNatClampNeg), .long (gL (p_15.2) 163 (((gI σ 66 23) - l_5) : Int32).toNatClampNeg), .int l_3, .ref 66]) rfl rfl rfl ?_
                  obtain ⟨b_20, H⟩ := F_gd H
                  refine ev_gL (p' := 395) (v := (gL (p_15.2) 164 ((((gI σ 66 23) - l_5) + 1) : Int32).toNatClampNeg)) rfl rfl ly_164 rfl (gd_in b_20) rfl ?_
                  refine ev_x (i := .iload 4) (len := 2) (p' := 397) (s' := [.int l_4, .long (gL (p_15.2) 164 ((((gI σ 66 23) - l_5) + 1) : Int32).toNatClampNeg), .long (gL (p_15.2) 163 ((((gI σ 66 23) - l_5) + 1) : Int32).toNatClampNeg), .long (gL (p_15.2) 164 (((gI σ 66 23) - l_5) : Int32).toNatClampNeg), .long (gL (p_15.2) 163 (((gI σ 66 23) - l_5) : Int32).toNatClampNeg), .int l_3, .ref 66]) rfl rfl (ld_i (vg_o (i := 6) (v := .int ((gI σ 66 23) - l_5)) g_4 (by decide) (Or.inl rfl))) ?_
                  obtain ⟨p_21, G_21, H⟩ := F_bd H
                  refine ev_cv (d := d + 3) (As := [.int l_3, .long (gL (p_15.2) 163 (((gI σ 66 23) - l_5) : Int32).toNatClampNeg), .long (gL (p_15.2) 164 (((gI σ 66 23) - l_5) : Int32).toNatClampNeg), .long (gL (p_15.2) 163 ((((gI σ 66 23) - l_5) + 1) : Int32).toNatClampNeg), .long (gL (p_15.2) 164 ((((gI σ 66 23) - l_5) + 1) : Int32).toNatClampNeg), .int l_4]) (a := 66) (p' := 400) rfl rfl rfl ly_66 rfl rfl rfl rfl rfl (nb_s1 hnb rfl) rfl (F_194_ok (d := d + 0)   G_21) ?_
                  refine ev_st (st' := []) rfl ?_
                  have e_21 := F_194_R G_21
                  obtain rfl := Option.some.inj H
                  exact ev_vret rfl rfl rfl
                · refine ev_b0 (t := 361) (p' := 168) rfl rfl rfl (if_neg c_16) ?_
                  refine ev_x (i := .aload_n 0) (len := 1) (p' := 169) (s' := [.ref 66]) rfl rfl (ld_a (vg_o (i := 6) (v := .int ((gI σ 66 23) - l_5)) g_0 (by decide) (Or.inl rfl))) ?_
                  refine ev_gc (p' := 172) (v := 164) rfl rfl rfl ly_66 rfl rfl ?_
                  refine ev_x (i := .iload 6) (len := 2) (p' := 174) (s' := [.int ((gI σ 66 23) - l_5), .ref 164]) rfl rfl (ld_i (vg_s (lv) 6 (.int ((gI σ 66 23) - l_5)))) ?_
                  obtain ⟨b_22, H⟩ := F_gd H
                  refine ev_gL (p' := 175) (v := (gL (p_15.2) 164 (((gI σ 66 23) - l_5) : Int32).toNatClampNeg)) rfl rfl ly_164 rfl (gd_in b_22) rfl ?_
                  refine ev_x (i := .lconst 0) (len := 1) (p' := 176) (s' := [.long 0, .long (gL (p_15.2) 164 (((gI σ 66 23) - l_5) : Int32).toNatClampNeg)]) rfl rfl rfl ?_
                  refine ev_x (i := .lcmp) (len := 1) (p' := 177) (s' := [.int (lg_cmp (gL (p_15.2) 164 (((gI σ 66 23) - l_5) : Int32).toNatClampNeg) 0)]) rfl rfl rfl ?_
                  refine F_if H (fun c_23 H => ?_) (fun c_23 H => ?_)
                  · refine ev_b0 (t := 200) (p' := 180) rfl rfl rfl (if_neg (fun q => q c_23)) ?_
                    refine ev_x (i := .aload_n 0) (len := 1) (p' := 181) (s' := [.ref 66]) rfl rfl (ld_a (vg_o (i := 6) (v := .int ((gI σ 66 23) - l_5)) g_0 (by decide) (Or.inl rfl))) ?_
                    refine ev_gc (p' := 184) (v := 163) rfl rfl rfl ly_66 rfl rfl ?_
                    refine ev_x (i := .iload 6) (len := 2) (p' := 186) (s' := [.int ((gI σ 66 23) - l_5), .ref 163]) rfl rfl (ld_i (vg_s (lv) 6 (.int ((gI σ 66 23) - l_5)))) ?_
                    obtain ⟨b_24, H⟩ := F_gd H
                    refine ev_gL (p' := 187) (v := (gL (p_15.2) 163 (((gI σ 66 23) - l_5) : Int32).toNatClampNeg)) rfl rfl ly_163 rfl (gd_in b_24) rfl ?_
                    refine ev_x (i := .aload_n 0) (len := 1) (p' := 188) (s' := [.ref 66, .long (gL (p_15.2) 163 (((gI σ 66 23) - l_5) : Int32).toNatClampNeg)]) rfl rfl (ld_a (vg_o (i := 6) (v := .int ((gI σ 66 23) - l_5)) g_0 (by decide) (Or.inl rfl))) ?_
                    refine ev_gc (p' := 191) (v := 163) rfl rfl rfl ly_66 rfl rfl ?_
                    refine ev_x (i := .iload 6) (len := 2) (p' := 193) (s' := [.int ((gI σ 66 23) - l_5), .ref 163, .long (gL (p_15.2) 163 (((gI σ 66 23) - l_5) : Int32).toNatClampNeg)]) rfl rfl (ld_i (vg_s (lv) 6 (.int ((gI σ 66 23) - l_5)))) ?_
                    refine ev_x (i := .iconst 1) (len := 1) (p' := 194) (s' := [.int 1, .int ((gI σ 66 23) - l_5), .ref 163, .long (gL (p_15.2) 163 (((gI σ 66 23) - l_5) : Int32).toNatClampNeg)]) rfl rfl rfl ?_
                    refine ev_x (i := .iadd) (len := 1) (p' := 195) (s' := [.int (((gI σ 66 23) - l_5) + 1), .ref 163, .long (gL (p_15.2) 163 (((gI σ 66 23) - l_5) : Int32).toNatClampNeg)]) rfl rfl rfl ?_
                    obtain ⟨b_25, H⟩ := F_gd H
                    refine ev_gL (p' := 196) (v := (gL (p_15.2) 163 ((((gI σ 66 23) - l_5) + 1) : Int32).toNatClampNeg)) rfl rfl ly_163 rfl (gd_in b_25) rfl ?_
                    refine ev_x (i := .lsub) (len := 1) (p' := 197) (s' := [.long ((gL (p_15.2) 163 (((gI σ 66 23) - l_5) : Int32).toNatClampNeg) - (gL (p_15.2) 163 ((((gI σ 66 23) - l_5) + 1) : Int32).toNatClampNeg))]) rfl rfl rfl ?_
                    refine ev_x (i := .goto 38) (len := 3) (p' := 235) (s' := [.long ((gL (p_15.2) 163 (((gI σ 66 23) - l_5) : Int32).toNatClampNeg) - (gL (p_15.2) 163 ((((gI σ 66 23) - l_5) + 1) : Int32).toNatClampNeg))]) rfl rfl rfl ?_
                    refine ev_x (i := .lstore 7) (len := 2) (p' := 237) (s' := []) (l' := vz_s2 (vz_s1 (lv) 6 (.int ((gI σ 66 23) - l_5))) 7 (.long ((gL (p_15.2) 163 (((gI σ 66 23) - l_5) : Int32).toNatClampNeg) - (gL (p_15.2) 163 ((((gI σ 66 23) - l_5) + 1) : Int32).toNatClampNeg)))) rfl rfl rfl ?_
                    refine ev_x (i := .aload_n 0) (len := 1) (p' := 238) (s' := [.ref 66]) rfl rfl (ld_a (vg_o2 (i := 7) (v := .long ((gL (p_15.2) 163 (((gI σ 66 23) - l_5) : Int32).toNatClampNeg) - (gL (p_15.2) 163 ((((gI σ 66 23) - l_5) + 1) : Int32).toNatClampNeg))) (vg_o (i := 6) (v := .int ((gI σ 66 23) - l_5)) g_0 (by decide) (Or.inl rfl)) (by decide) (by decide) (Or.inl rfl))) ?_
                    refine ev_x (i := .iload_n 3) (len := 1) (p' := 239) (s' := [.int l_3, .ref 66]) rfl rfl (ld_i (vg_o2 (i := 7) (v := .long ((gL (p_15.2) 163 (((gI σ 66 23) - l_5) : Int32).toNatClampNeg) - (gL (p_15.2) 163 ((((gI σ 66 23) - l_5) + 1) : Int32).toNatClampNeg))) (vg_o (i := 6) (v := .int ((gI σ 66 23) - l_5)) g_3 (by decide) (Or.inl rfl)) (by decide) (by decide) (Or.inl rfl))) ?_
                    refine ev_x (i := .bipush 23) (len := 2) (p' := 241) (s' := [.int 23, .int l_3, .ref 66]) rfl rfl rfl ?_
                    refine F_if H (fun c_26 H => ?_) (fun c_26 H => ?_)
                    · refine ev_b2 (t := 259) (p' := 244) rfl rfl rfl (if_neg (fun q => q c_26)) ?_
                      refine ev_x (i := .lload 7) (len := 2) (p' := 246) (s' := [.long ((gL (p_15.2) 163 (((gI σ 66 23) - l_5) : Int32).toNatClampNeg) - (gL (p_15.2) 163 ((((gI σ 66 23) - l_5) + 1) : Int32).toNatClampNeg)), .ref 66]) rfl rfl (ld_l (vg_s2 (vz_s1 (lv) 6 (.int ((gI σ 66 23) - l_5))) 7 (.long ((gL (p_15.2) 163 (((gI σ 66 23) - l_5) : Int32).toNatClampNeg) - (gL (p_15.2) 163 ((((gI σ 66 23) - l_5) + 1) : Int32).toNatClampNeg))))) ?_
                      refine ev_x (i := .lconst 0) (len := 1) (p' := 247) (s' := [.long 0, .long ((gL (p_15.2) 163 (((gI σ 66 23) - l_5) : Int32).toNatClampNeg) - (gL (p_15.2) 163 ((((gI σ 66 23) - l_5) + 1) : Int32).toNatClampNeg)), .ref 66]) rfl rfl rfl ?_
                      refine ev_x (i := .lcmp) (len := 1) (p' := 248) (s' := [.int (lg_cmp ((gL (p_15.2) 163 (((gI σ 66 23) - l_5) : Int32).toNatClampNeg) - (gL (p_15.2) 163 ((((gI σ 66 23) - l_5) + 1) : Int32).toNatClampNeg)) 0), .ref 66]) rfl rfl rfl ?_
                      refine F_jn (A := vz_ev P0 (d + 4) 192 355 (vz_s2 (vz_s1 (lv) 6 (.int ((gI σ 66 23) - l_5))) 7 (.long ((gL (p_15.2) 163 (((gI σ 66 23) - l_5) : Int32).toNatClampNeg) - (gL (p_15.2) 163 ((((gI σ 66 23) - l_5) + 1) : Int32).toNatClampNeg)))) [.int (if (lg_cmp ((gL (p_15.2) 163 (((gI σ 66 23) - l_5) : Int32).toNatClampNeg) - (gL (p_15.2) 163 ((((gI σ 66 23) - l_5) + 1) : Int32).toNatClampNeg)) 0) = 0 then 1 else 0 : Int32), .ref 66] (hp (p_15.2)) (.inl none, hp p)) ?_ (fun J => ?_)
                      · obtain ⟨p_28, G_28, H⟩ := F_bd H
                        refine ev_cv (d := d + 3) (As := [.int (if (lg_cmp ((gL (p_15.2) 163 (((gI σ 66 23) - l_5) : Int32).toNatClampNeg) - (gL (p_15.2) 163 ((((gI σ 66 23) - l_5) + 1) : Int32).toNatClampNeg)) 0) = 0 then 1 else 0 : Int32)]) (a := 66) (p' := 358) rfl rfl rfl ly_66 rfl rfl rfl rfl rfl (nb_s2 (nb_s1 hnb rfl) rfl) rfl (F_189_ok (d := d + 1)   G_28) ?_
                        refine ev_st (st' := []) rfl ?_
                        have e_28 := F_189_R G_28
                        refine ev_x (i := .goto 42) (len := 3) (p' := 400) (s' := []) rfl rfl rfl ?_
                        obtain rfl := Option.some.inj H
                        exact ev_vret rfl rfl rfl
                      · by_cases c_27 : (lg_cmp ((gL (p_15.2) 163 (((gI σ 66 23) - l_5) : Int32).toNatClampNeg) - (gL (p_15.2) 163 ((((gI σ 66 23) - l_5) + 1) : Int32).toNatClampNeg)) 0) = 0
                        · refine ev_b0 (t := 255) (p' := 251) rfl rfl rfl (if_neg (fun q => q c_27)) ?_
                          refine ev_x (i := .iconst 1) (len := 1) (p' := 252) (s' := [.int 1, .ref 66]) rfl rfl rfl ?_
                          refine ev_x (i := .goto 103) (len := 3) (p' := 355) (s' := [.int 1, .ref 66]) rfl rfl rfl ?_
                          exact ev_st (congrArg (fun z => Value.int z :: [.ref 66]) (by rw [if_pos c_27])) J
                        · refine ev_b0 (t := 255) (p' := 255) rfl rfl rfl (if_pos c_27) ?_
                          refine ev_x (i := .iconst 0) (len := 1) (p' := 256) (s' := [.int 0, .ref 66]) rfl rfl rfl ?_
                          refine ev_x (i := .goto 99) (len := 3) (p' := 355) (s' := [.int 0, .ref 66]) rfl rfl rfl ?_
                          exact ev_st (congrArg (fun z => Value.int z :: [.ref 66]) (by rw [if_neg c_27])) J
                    · refine ev_b2 (t := 259) (p' := 259) rfl rfl rfl (if_pos c_26) ?_
                      refine ev_x (i := .iload_n 3) (len := 1) (p' := 260) (s' := [.int l_3, .ref 66]) rfl rfl (ld_i (vg_o2 (i := 7) (v := .long ((gL (p_15.2) 163 (((gI σ 66 23) - l_5) : Int32).toNatClampNeg) - (gL (p_15.2) 163 ((((gI σ 66 23) - l_5) + 1) : Int32).toNatClampNeg))) (vg_o (i := 6) (v := .int ((gI σ 66 23) - l_5)) g_3 (by decide) (Or.inl rfl)) (by decide) (by decide) (Or.inl rfl))) ?_
                      refine ev_x (i := .bipush 18) (len := 2) (p' := 262) (s' := [.int 18, .int l_3, .ref 66]) rfl rfl rfl ?_
                      refine F_if H (fun c_29 H => ?_) (fun c_29 H => ?_)
                      · refine ev_b2 (t := 280) (p' := 265) rfl rfl rfl (if_neg (fun q => q c_29)) ?_
                        refine ev_x (i := .lload 7) (len := 2) (p' := 267) (s' := [.long ((gL (p_15.2) 163 (((gI σ 66 23) - l_5) : Int32).toNatClampNeg) - (gL (p_15.2) 163 ((((gI σ 66 23) - l_5) + 1) : Int32).toNatClampNeg)), .ref 66]) rfl rfl (ld_l (vg_s2 (vz_s1 (lv) 6 (.int ((gI σ 66 23) - l_5))) 7 (.long ((gL (p_15.2) 163 (((gI σ 66 23) - l_5) : Int32).toNatClampNeg) - (gL (p_15.2) 163 ((((gI σ 66 23) - l_5) + 1) : Int32).toNatClampNeg))))) ?_
                        refine ev_x (i := .lconst 0) (len := 1) (p' := 268) (s' := [.long 0, .long ((gL (p_15.2) 163 (((gI σ 66 23) - l_5) : Int32).toNatClampNeg) - (gL (p_15.2) 163 ((((gI σ 66 23) - l_5) + 1) : Int32).toNatClampNeg)), .ref 66]) rfl rfl rfl ?_
                        refine ev_x (i := .lcmp) (len := 1) (p' := 269) (s' := [.int (lg_cmp ((gL (p_15.2) 163 (((gI σ 66 23) - l_5) : Int32).toNatClampNeg) - (gL (p_15.2) 163 ((((gI σ 66 23) - l_5) + 1) : Int32).toNatClampNeg)) 0), .ref 66]) rfl rfl rfl ?_
                        refine F_jn (A := vz_ev P0 (d + 4) 192 355 (vz_s2 (vz_s1 (lv) 6 (.int ((gI σ 66 23) - l_5))) 7 (.long ((gL (p_15.2) 163 (((gI σ 66 23) - l_5) : Int32).toNatClampNeg) - (gL (p_15.2) 163 ((((gI σ 66 23) - l_5) + 1) : Int32).toNatClampNeg)))) [.int (if (lg_cmp ((gL (p_15.2) 163 (((gI σ 66 23) - l_5) : Int32).toNatClampNeg) - (gL (p_15.2) 163 ((((gI σ 66 23) - l_5) + 1) : Int32).toNatClampNeg)) 0) = 0 then 0 else 1 : Int32), .ref 66] (hp (p_15.2)) (.inl none, hp p)) ?_ (fun J => ?_)
                        · obtain ⟨p_31, G_31, H⟩ := F_bd H
                          refine ev_cv (d := d + 3) (As := [.int (if (lg_cmp ((gL (p_15.2) 163 (((gI σ 66 23) - l_5) : Int32).toNatClampNeg) - (gL (p_15.2) 163 ((((gI σ 66 23) - l_5) + 1) : Int32).toNatClampNeg)) 0) = 0 then 0 else 1 : Int32)]) (a := 66) (p' := 358) rfl rfl rfl ly_66 rfl rfl rfl rfl rfl (nb_s2 (nb_s1 hnb rfl) rfl) rfl (F_189_ok (d := d + 1)   G_31) ?_
                          refine ev_st (st' := []) rfl ?_
                          have e_31 := F_189_R G_31
                          refine ev_x (i := .goto 42) (len := 3) (p' := 400) (s' := []) rfl rfl rfl ?_
                          obtain rfl := Option.some.inj H
                          exact ev_vret rfl rfl rfl
                        · by_cases c_30 : (lg_cmp ((gL (p_15.2) 163 (((gI σ 66 23) - l_5) : Int32).toNatClampNeg) - (gL (p_15.2) 163 ((((gI σ 66 23) - l_5) + 1) : Int32).toNatClampNeg)) 0) = 0
                          · refine ev_b0 (t := 276) (p' := 276) rfl rfl rfl (if_pos c_30) ?_
                            refine ev_x (i := .iconst 0) (len := 1) (p' := 277) (s' := [.int 0, .ref 66]) rfl rfl rfl ?_
                            refine ev_x (i := .goto 78) (len := 3) (p' := 355) (s' := [.int 0, .ref 66]) rfl rfl rfl ?_
                            exact ev_st (congrArg (fun z => Value.int z :: [.ref 66]) (by rw [if_pos c_30])) J
                          · refine ev_b0 (t := 276) (p' := 272) rfl rfl rfl (if_neg c_30) ?_
                            refine ev_x (i := .iconst 1) (len := 1) (p' := 273) (s' := [.int 1, .ref 66]) rfl rfl rfl ?_
                            refine ev_x (i := .goto 82) (len := 3) (p' := 355) (s' := [.int 1, .ref 66]) rfl rfl rfl ?_
                            exact ev_st (congrArg (fun z => Value.int z :: [.ref 66]) (by rw [if_neg c_30])) J
                      · refine ev_b2 (t := 280) (p' := 280) rfl rfl rfl (if_pos c_29) ?_
                        refine ev_x (i := .iload_n 3) (len := 1) (p' := 281) (s' := [.int l_3, .ref 66]) rfl rfl (ld_i (vg_o2 (i := 7) (v := .long ((gL (p_15.2) 163 (((gI σ 66 23) - l_5) : Int32).toNatClampNeg) - (gL (p_15.2) 163 ((((gI σ 66 23) - l_5) + 1) : Int32).toNatClampNeg))) (vg_o (i := 6) (v := .int ((gI σ 66 23) - l_5)) g_3 (by decide) (Or.inl rfl)) (by decide) (by decide) (Or.inl rfl))) ?_
                        refine ev_x (i := .bipush 21) (len := 2) (p' := 283) (s' := [.int 21, .int l_3, .ref 66]) rfl rfl rfl ?_
                        refine F_jn (A := vz_ev P0 (d + 4) 192 355 (vz_s2 (vz_s1 (lv) 6 (.int ((gI σ 66 23) - l_5))) 7 (.long ((gL (p_15.2) 163 (((gI σ 66 23) - l_5) : Int32).toNatClampNeg) - (gL (p_15.2) 163 ((((gI σ 66 23) - l_5) + 1) : Int32).toNatClampNeg)))) [.int (if l_3 = 21 then (if 0 ≤ (lg_cmp ((gL (p_15.2) 163 (((gI σ 66 23) - l_5) : Int32).toNatClampNeg) - (gL (p_15.2) 163 ((((gI σ 66 23) - l_5) + 1) : Int32).toNatClampNeg)) 0) then 0 else 1) else (if l_3 = 19 then (if 0 < (lg_cmp ((gL (p_15.2) 163 (((gI σ 66 23) - l_5) : Int32).toNatClampNeg) - (gL (p_15.2) 163 ((((gI σ 66 23) - l_5) + 1) : Int32).toNatClampNeg)) 0) then 0 else 1) else (if l_3 = 22 then (if (lg_cmp ((gL (p_15.2) 163 (((gI σ 66 23) - l_5) : Int32).toNatClampNeg) - (gL (p_15.2) 163 ((((gI σ 66 23) - l_5) + 1) : Int32).toNatClampNeg)) 0) ≤ 0 then 0 else 1) else (if (lg_cmp ((gL (p_15.2) 163 (((gI σ 66 23) - l_5) : Int32).toNatClampNeg) - (gL (p_15.2) 163 ((((gI σ 66 23) - l_5) + 1) : Int32).toNatClampNeg)) 0) < 0 then 0 else 1))) : Int32), .ref 66] (hp (p_15.2)) (.inl none, hp p)) ?_ (fun J => ?_)
                        · obtain ⟨p_39, G_39, H⟩ := F_bd H
                          refine ev_cv (d := d + 3) (As := [.int (if l_3 = 21 then (if 0 ≤ (lg_cmp ((gL (p_15.2) 163 (((gI σ 66 23) - l_5) : Int32).toNatClampNeg) - (gL (p_15.2) 163 ((((gI σ 66 23) - l_5) + 1) : Int32).toNatClampNeg)) 0) then 0 else 1) else (if l_3 = 19 then (if 0 < (lg_cmp ((gL (p_15.2) 163 (((gI σ 66 23) - l_5) : Int32).toNatClampNeg) - (gL (p_15.2) 163 ((((gI σ 66 23) - l_5) + 1) : Int32).toNatClampNeg)) 0) then 0 else 1) else (if l_3 = 22 then (if (lg_cmp ((gL (p_15.2) 163 (((gI σ 66 23) - l_5) : Int32).toNatClampNeg) - (gL (p_15.2) 163 ((((gI σ 66 23) - l_5) + 1) : Int32).toNatClampNeg)) 0) ≤ 0 then 0 else 1) else (if (lg_cmp ((gL (p_15.2) 163 (((gI σ 66 23) - l_5) : Int32).toNatClampNeg) - (gL (p_15.2) 163 ((((gI σ 66 23) - l_5) + 1) : Int32).toNatClampNeg)) 0) < 0 then 0 else 1))) : Int32)]) (a := 66) (p' := 358) rfl rfl rfl ly_66 rfl rfl rfl rfl rfl (nb_s2 (nb_s1 hnb rfl) rfl) rfl (F_189_ok (d := d + 1)   G_39) ?_
                          refine ev_st (st' := []) rfl ?_
                          have e_39 := F_189_R G_39
                          refine ev_x (i := .goto 42) (len := 3) (p' := 400) (s' := []) rfl rfl rfl ?_
                          obtain rfl := Option.some.inj H
                          exact ev_vret rfl rfl rfl
                        · by_cases c_32 : l_3 = 21
                          · refine ev_b2 (t := 301) (p' := 286) rfl rfl rfl (if_neg (fun q => q c_32)) ?_
                            refine ev_x (i := .lload 7) (len := 2) (p' := 288) (s' := [.long ((gL (p_15.2) 163 (((gI σ 66 23) - l_5) : Int32).toNatClampNeg) - (gL (p_15.2) 163 ((((gI σ 66 23) - l_5) + 1) : Int32).toNatClampNeg)), .ref 66]) rfl rfl (ld_l (vg_s2 (vz_s1 (lv) 6 (.int ((gI σ 66 23) - l_5))) 7 (.long ((gL (p_15.2) 163 (((gI σ 66 23) - l_5) : Int32).toNatClampNeg) - (gL (p_15.2) 163 ((((gI σ 66 23) - l_5) + 1) : Int32).toNatClampNeg))))) ?_
                            refine ev_x (i := .lconst 0) (len := 1) (p' := 289) (s' := [.long 0, .long ((gL (p_15.2) 163 (((gI σ 66 23) - l_5) : Int32).toNatClampNeg) - (gL (p_15.2) 163 ((((gI σ 66 23) - l_5) + 1) : Int32).toNatClampNeg)), .ref 66]) rfl rfl rfl ?_
                            refine ev_x (i := .lcmp) (len := 1) (p' := 290) (s' := [.int (lg_cmp ((gL (p_15.2) 163 (((gI σ 66 23) - l_5) : Int32).toNatClampNeg) - (gL (p_15.2) 163 ((((gI σ 66 23) - l_5) + 1) : Int32).toNatClampNeg)) 0), .ref 66]) rfl rfl rfl ?_
                            by_cases c_33 : 0 ≤ (lg_cmp ((gL (p_15.2) 163 (((gI σ 66 23) - l_5) : Int32).toNatClampNeg) - (gL (p_15.2) 163 ((((gI σ 66 23) - l_5) + 1) : Int32).toNatClampNeg)) 0)
                            · refine ev_b0 (t := 297) (p' := 297) rfl rfl rfl (if_pos c_33) ?_
                              refine ev_x (i := .iconst 0) (len := 1) (p' := 298) (s' := [.int 0, .ref 66]) rfl rfl rfl ?_
                              refine ev_x (i := .goto 57) (len := 3) (p' := 355) (s' := [.int 0, .ref 66]) rfl rfl rfl ?_
                              exact ev_st (congrArg (fun z => Value.int z :: [.ref 66]) (by rw [if_pos c_32, if_pos c_33])) J
                            · refine ev_b0 (t := 297) (p' := 293) rfl rfl rfl (if_neg c_33) ?_
                              refine ev_x (i := .iconst 1) (len := 1) (p' := 294) (s' := [.int 1, .ref 66]) rfl rfl rfl ?_
                              refine ev_x (i := .goto 61) (len := 3) (p' := 355) (s' := [.int 1, .ref 66]) rfl rfl rfl ?_
                              exact ev_st (congrArg (fun z => Value.int z :: [.ref 66]) (by rw [if_pos c_32, if_neg c_33])) J
                          · refine ev_b2 (t := 301) (p' := 301) rfl rfl rfl (if_pos c_32) ?_
                            refine ev_x (i := .iload_n 3) (len := 1) (p' := 302) (s' := [.int l_3, .ref 66]) rfl rfl (ld_i (vg_o2 (i := 7) (v := .long ((gL (p_15.2) 163 (((gI σ 66 23) - l_5) : Int32).toNatClampNeg) - (gL (p_15.2) 163 ((((gI σ 66 23) - l_5) + 1) : Int32).toNatClampNeg))) (vg_o (i := 6) (v := .int ((gI σ 66 23) - l_5)) g_3 (by decide) (Or.inl rfl)) (by decide) (by decide) (Or.inl rfl))) ?_
                            refine ev_x (i := .bipush 19) (len := 2) (p' := 304) (s' := [.int 19, .int l_3, .ref 66]) rfl rfl rfl ?_
                            by_cases c_34 : l_3 = 19
                            · refine ev_b2 (t := 322) (p' := 307) rfl rfl rfl (if_neg (fun q => q c_34)) ?_
                              refine ev_x (i := .lload 7) (len := 2) (p' := 309) (s' := [.long ((gL (p_15.2) 163 (((gI σ 66 23) - l_5) : Int32).toNatClampNeg) - (gL (p_15.2) 163 ((((gI σ 66 23) - l_5) + 1) : Int32).toNatClampNeg)), .ref 66]) rfl rfl (ld_l (vg_s2 (vz_s1 (lv) 6 (.int ((gI σ 66 23) - l_5))) 7 (.long ((gL (p_15.2) 163 (((gI σ 66 23) - l_5) : Int32).toNatClampNeg) - (gL (p_15.2) 163 ((((gI σ 66 23) - l_5) + 1) : Int32).toNatClampNeg))))) ?_
                              refine ev_x (i := .lconst 0) (len := 1) (p' := 310) (s' := [.long 0, .long ((gL (p_15.2) 163 (((gI σ 66 23) - l_5) : Int32).toNatClampNeg) - (gL (p_15.2) 163 ((((gI σ 66 23) - l_5) + 1) : Int32).toNatClampNeg)), .ref 66]) rfl rfl rfl ?_
                              refine ev_x (i := .lcmp) (len := 1) (p' := 311) (s' := [.int (lg_cmp ((gL (p_15.2) 163 (((gI σ 66 23) - l_5) : Int32).toNatClampNeg) - (gL (p_15.2) 163 ((((gI σ 66 23) - l_5) + 1) : Int32).toNatClampNeg)) 0), .ref 66]) rfl rfl rfl ?_
                              by_cases c_35 : 0 < (lg_cmp ((gL (p_15.2) 163 (((gI σ 66 23) - l_5) : Int32).toNatClampNeg) - (gL (p_15.2) 163 ((((gI σ 66 23) - l_5) + 1) : Int32).toNatClampNeg)) 0)
                              · refine ev_b0 (t := 318) (p' := 318) rfl rfl rfl (if_pos c_35) ?_
                                refine ev_x (i := .iconst 0) (len := 1) (p' := 319) (s' := [.int 0, .ref 66]) rfl rfl rfl ?_
                                refine ev_x (i := .goto 36) (len := 3) (p' := 355) (s' := [.int 0, .ref 66]) rfl rfl rfl ?_
                                exact ev_st (congrArg (fun z => Value.int z :: [.ref 66]) (by rw [if_neg c_32, if_pos c_34, if_pos c_35])) J
                              · refine ev_b0 (t := 318) (p' := 314) rfl rfl rfl (if_neg c_35) ?_
                                refine ev_x (i := .iconst 1) (len := 1) (p' := 315) (s' := [.int 1, .ref 66]) rfl rfl rfl ?_
                                refine ev_x (i := .goto 40) (len := 3) (p' := 355) (s' := [.int 1, .ref 66]) rfl rfl rfl ?_
                                exact ev_st (congrArg (fun z => Value.int z :: [.ref 66]) (by rw [if_neg c_32, if_pos c_34, if_neg c_35])) J
                            · refine ev_b2 (t := 322) (p' := 322) rfl rfl rfl (if_pos c_34) ?_
                              refine ev_x (i := .iload_n 3) (len := 1) (p' := 323) (s' := [.int l_3, .ref 66]) rfl rfl (ld_i (vg_o2 (i := 7) (v := .long ((gL (p_15.2) 163 (((gI σ 66 23) - l_5) : Int32).toNatClampNeg) - (gL (p_15.2) 163 ((((gI σ 66 23) - l_5) + 1) : Int32).toNatClampNeg))) (vg_o (i := 6) (v := .int ((gI σ 66 23) - l_5)) g_3 (by decide) (Or.inl rfl)) (by decide) (by decide) (Or.inl rfl))) ?_
                              refine ev_x (i := .bipush 22) (len := 2) (p' := 325) (s' := [.int 22, .int l_3, .ref 66]) rfl rfl rfl ?_
                              by_cases c_36 : l_3 = 22
                              · refine ev_b2 (t := 343) (p' := 328) rfl rfl rfl (if_neg (fun q => q c_36)) ?_
                                refine ev_x (i := .lload 7) (len := 2) (p' := 330) (s' := [.long ((gL (p_15.2) 163 (((gI σ 66 23) - l_5) : Int32).toNatClampNeg) - (gL (p_15.2) 163 ((((gI σ 66 23) - l_5) + 1) : Int32).toNatClampNeg)), .ref 66]) rfl rfl (ld_l (vg_s2 (vz_s1 (lv) 6 (.int ((gI σ 66 23) - l_5))) 7 (.long ((gL (p_15.2) 163 (((gI σ 66 23) - l_5) : Int32).toNatClampNeg) - (gL (p_15.2) 163 ((((gI σ 66 23) - l_5) + 1) : Int32).toNatClampNeg))))) ?_
                                refine ev_x (i := .lconst 0) (len := 1) (p' := 331) (s' := [.long 0, .long ((gL (p_15.2) 163 (((gI σ 66 23) - l_5) : Int32).toNatClampNeg) - (gL (p_15.2) 163 ((((gI σ 66 23) - l_5) + 1) : Int32).toNatClampNeg)), .ref 66]) rfl rfl rfl ?_
                                refine ev_x (i := .lcmp) (len := 1) (p' := 332) (s' := [.int (lg_cmp ((gL (p_15.2) 163 (((gI σ 66 23) - l_5) : Int32).toNatClampNeg) - (gL (p_15.2) 163 ((((gI σ 66 23) - l_5) + 1) : Int32).toNatClampNeg)) 0), .ref 66]) rfl rfl rfl ?_
                                by_cases c_37 : (lg_cmp ((gL (p_15.2) 163 (((gI σ 66 23) - l_5) : Int32).toNatClampNeg) - (gL (p_15.2) 163 ((((gI σ 66 23) - l_5) + 1) : Int32).toNatClampNeg)) 0) ≤ 0
                                · refine ev_b0 (t := 339) (p' := 339) rfl rfl rfl (if_pos c_37) ?_
                                  refine ev_x (i := .iconst 0) (len := 1) (p' := 340) (s' := [.int 0, .ref 66]) rfl rfl rfl ?_
                                  refine ev_x (i := .goto 15) (len := 3) (p' := 355) (s' := [.int 0, .ref 66]) rfl rfl rfl ?_
                                  exact ev_st (congrArg (fun z => Value.int z :: [.ref 66]) (by rw [if_neg c_32, if_neg c_34, if_pos c_36, if_pos c_37])) J
                                · refine ev_b0 (t := 339) (p' := 335) rfl rfl rfl (if_neg c_37) ?_
                                  refine ev_x (i := .iconst 1) (len := 1) (p' := 336) (s' := [.int 1, .ref 66]) rfl rfl rfl ?_
                                  refine ev_x (i := .goto 19) (len := 3) (p' := 355) (s' := [.int 1, .ref 66]) rfl rfl rfl ?_
                                  exact ev_st (congrArg (fun z => Value.int z :: [.ref 66]) (by rw [if_neg c_32, if_neg c_34, if_pos c_36, if_neg c_37])) J
                              · refine ev_b2 (t := 343) (p' := 343) rfl rfl rfl (if_pos c_36) ?_
                                refine ev_x (i := .lload 7) (len := 2) (p' := 345) (s' := [.long ((gL (p_15.2) 163 (((gI σ 66 23) - l_5) : Int32).toNatClampNeg) - (gL (p_15.2) 163 ((((gI σ 66 23) - l_5) + 1) : Int32).toNatClampNeg)), .ref 66]) rfl rfl (ld_l (vg_s2 (vz_s1 (lv) 6 (.int ((gI σ 66 23) - l_5))) 7 (.long ((gL (p_15.2) 163 (((gI σ 66 23) - l_5) : Int32).toNatClampNeg) - (gL (p_15.2) 163 ((((gI σ 66 23) - l_5) + 1) : Int32).toNatClampNeg))))) ?_
                                refine ev_x (i := .lconst 0) (len := 1) (p' := 346) (s' := [.long 0, .long ((gL (p_15.2) 163 (((gI σ 66 23) - l_5) : Int32).toNatClampNeg) - (gL (p_15.2) 163 ((((gI σ 66 23) - l_5) + 1) : Int32).toNatClampNeg)), .ref 66]) rfl rfl rfl ?_
                                refine ev_x (i := .lcmp) (len := 1) (p' := 347) (s' := [.int (lg_cmp ((gL (p_15.2) 163 (((gI σ 66 23) - l_5) : Int32).toNatClampNeg) - (gL (p_15.2) 163 ((((gI σ 66 23) - l_5) + 1) : Int32).toNatClampNeg)) 0), .ref 66]) rfl rfl rfl ?_
                                by_cases c_38 : (lg_cmp ((gL (p_15.2) 163 (((gI σ 66 23) - l_5) : Int32).toNatClampNeg) - (gL (p_15.2) 163 ((((gI σ 66 23) - l_5) + 1) : Int32).toNatClampNeg)) 0) < 0
                                · refine ev_b0 (t := 354) (p' := 354) rfl rfl rfl (if_pos c_38) ?_
                                  refine ev_x (i := .iconst 0) (len := 1) (p' := 355) (s' := [.int 0, .ref 66]) rfl rfl rfl ?_
                                  exact ev_st (congrArg (fun z => Value.int z :: [.ref 66]) (by rw [if_neg c_32, if_neg c_34, if_neg c_36, if_pos c_38])) J
                                · refine ev_b0 (t := 354) (p' := 350) rfl rfl rfl (if_neg c_38) ?_
                                  refine ev_x (i := .iconst 1) (len := 1) (p' := 351) (s' := [.int 1, .ref 66]) rfl rfl rfl ?_
                                  refine ev_x (i := .goto 4) (len := 3) (p' := 355) (s' := [.int 1, .ref 66]) rfl rfl rfl ?_
                                  exact ev_st (congrArg (fun z => Value.int z :: [.ref 66]) (by rw [if_neg c_32, if_neg c_34, if_neg c_36, if_neg c_38])) J
                  · refine ev_b0 (t := 200) (p' := 200) rfl rfl rfl (if_pos c_23) ?_
                    refine ev_x (i := .aload_n 0) (len := 1) (p' := 201) (s' := [.ref 66]) rfl rfl (ld_a (vg_o (i := 6) (v := .int ((gI σ 66 23) - l_5)) g_0 (by decide) (Or.inl rfl))) ?_
                    refine ev_gc (p' := 204) (v := 163) rfl rfl rfl ly_66 rfl rfl ?_
                    refine ev_x (i := .iload 6) (len := 2) (p' := 206) (s' := [.int ((gI σ 66 23) - l_5), .ref 163]) rfl rfl (ld_i (vg_s (lv) 6 (.int ((gI σ 66 23) - l_5)))) ?_
                    obtain ⟨b_40, H⟩ := F_gd H
                    refine ev_gL (p' := 207) (v := (gL (p_15.2) 163 (((gI σ 66 23) - l_5) : Int32).toNatClampNeg)) rfl rfl ly_163 rfl (gd_in b_40) rfl ?_
                    refine ev_x (i := .aload_n 0) (len := 1) (p' := 208) (s' := [.ref 66, .long (gL (p_15.2) 163 (((gI σ 66 23) - l_5) : Int32).toNatClampNeg)]) rfl rfl (ld_a (vg_o (i := 6) (v := .int ((gI σ 66 23) - l_5)) g_0 (by decide) (Or.inl rfl))) ?_
                    refine ev_gc (p' := 211) (v := 164) rfl rfl rfl ly_66 rfl rfl ?_
                    refine ev_x (i := .iload 6) (len := 2) (p' := 213) (s' := [.int ((gI σ 66 23) - l_5), .ref 164, .long (gL (p_15.2) 163 (((gI σ 66 23) - l_5) : Int32).toNatClampNeg)]) rfl rfl (ld_i (vg_s (lv) 6 (.int ((gI σ 66 23) - l_5)))) ?_
                    refine ev_x (i := .iconst 1) (len := 1) (p' := 214) (s' := [.int 1, .int ((gI σ 66 23) - l_5), .ref 164, .long (gL (p_15.2) 163 (((gI σ 66 23) - l_5) : Int32).toNatClampNeg)]) rfl rfl rfl ?_
                    refine ev_x (i := .iadd) (len := 1) (p' := 215) (s' := [.int (((gI σ 66 23) - l_5) + 1), .ref 164, .long (gL (p_15.2) 163 (((gI σ 66 23) - l_5) : Int32).toNatClampNeg)]) rfl rfl rfl ?_
                    obtain ⟨b_41, H⟩ := F_gd H
                    refine ev_gL (p' := 216) (v := (gL (p_15.2) 164 ((((gI σ 66 23) - l_5) + 1) : Int32).toNatClampNeg)) rfl rfl ly_164 rfl (gd_in b_41) rfl ?_
                    refine ev_x (i := .lmul) (len := 1) (p' := 217) (s' := [.long ((gL (p_15.2) 163 (((gI σ 66 23) - l_5) : Int32).toNatClampNeg) * (gL (p_15.2) 164 ((((gI σ 66 23) - l_5) + 1) : Int32).toNatClampNeg))]) rfl rfl rfl ?_
                    refine ev_x (i := .aload_n 0) (len := 1) (p' := 218) (s' := [.ref 66, .long ((gL (p_15.2) 163 (((gI σ 66 23) - l_5) : Int32).toNatClampNeg) * (gL (p_15.2) 164 ((((gI σ 66 23) - l_5) + 1) : Int32).toNatClampNeg))]) rfl rfl (ld_a (vg_o (i := 6) (v := .int ((gI σ 66 23) - l_5)) g_0 (by decide) (Or.inl rfl))) ?_
                    refine ev_gc (p' := 221) (v := 163) rfl rfl rfl ly_66 rfl rfl ?_
                    refine ev_x (i := .iload 6) (len := 2) (p' := 223) (s' := [.int ((gI σ 66 23) - l_5), .ref 163, .long ((gL (p_15.2) 163 (((gI σ 66 23) - l_5) : Int32).toNatClampNeg) * (gL (p_15.2) 164 ((((gI σ 66 23) - l_5) + 1) : Int32).toNatClampNeg))]) rfl rfl (ld_i (vg_s (lv) 6 (.int ((gI σ 66 23) - l_5)))) ?_
                    refine ev_x (i := .iconst 1) (len := 1) (p' := 224) (s' := [.int 1, .int ((gI σ 66 23) - l_5), .ref 163, .long ((gL (p_15.2) 163 (((gI σ 66 23) - l_5) : Int32).toNatClampNeg) * (gL (p_15.2) 164 ((((gI σ 66 23) - l_5) + 1) : Int32).toNatClampNeg))]) rfl rfl rfl ?_
                    refine ev_x (i := .iadd) (len := 1) (p' := 225) (s' := [.int (((gI σ 66 23) - l_5) + 1), .ref 163, .long ((gL (p_15.2) 163 (((gI σ 66 23) - l_5) : Int32).toNatClampNeg) * (gL (p_15.2) 164 ((((gI σ 66 23) - l_5) + 1) : Int32).toNatClampNeg))]) rfl rfl rfl ?_
                    obtain ⟨b_42, H⟩ := F_gd H
                    refine ev_gL (p' := 226) (v := (gL (p_15.2) 163 ((((gI σ 66 23) - l_5) + 1) : Int32).toNatClampNeg)) rfl rfl ly_163 rfl (gd_in b_42) rfl ?_
                    refine ev_x (i := .aload_n 0) (len := 1) (p' := 227) (s' := [.ref 66, .long (gL (p_15.2) 163 ((((gI σ 66 23) - l_5) + 1) : Int32).toNatClampNeg), .long ((gL (p_15.2) 163 (((gI σ 66 23) - l_5) : Int32).toNatClampNeg) * (gL (p_15.2) 164 ((((gI σ 66 23) - l_5) + 1) : Int32).toNatClampNeg))]) rfl rfl (ld_a (vg_o (i := 6) (v := .int ((gI σ 66 23) - l_5)) g_0 (by decide) (Or.inl rfl))) ?_
                    refine ev_gc (p' := 230) (v := 164) rfl rfl rfl ly_66 rfl rfl ?_
                    refine ev_x (i := .iload 6) (len := 2) (p' := 232) (s' := [.int ((gI σ 66 23) - l_5), .ref 164, .long (gL (p_15.2) 163 ((((gI σ 66 23) - l_5) + 1) : Int32).toNatClampNeg), .long ((gL (p_15.2) 163 (((gI σ 66 23) - l_5) : Int32).toNatClampNeg) * (gL (p_15.2) 164 ((((gI σ 66 23) - l_5) + 1) : Int32).toNatClampNeg))]) rfl rfl (ld_i (vg_s (lv) 6 (.int ((gI σ 66 23) - l_5)))) ?_
                    refine ev_gL (p' := 233) (v := (gL (p_15.2) 164 (((gI σ 66 23) - l_5) : Int32).toNatClampNeg)) rfl rfl ly_164 rfl (gd_in b_22) rfl ?_
                    refine ev_x (i := .lmul) (len := 1) (p' := 234) (s' := [.long ((gL (p_15.2) 163 ((((gI σ 66 23) - l_5) + 1) : Int32).toNatClampNeg) * (gL (p_15.2) 164 (((gI σ 66 23) - l_5) : Int32).toNatClampNeg)), .long ((gL (p_15.2) 163 (((gI σ 66 23) - l_5) : Int32).toNatClampNeg) * (gL (p_15.2) 164 ((((gI σ 66 23) - l_5) + 1) : Int32).toNatClampNeg))]) rfl rfl rfl ?_
                    refine ev_x (i := .lsub) (len := 1) (p' := 235) (s' := [.long (((gL (p_15.2) 163 (((gI σ 66 23) - l_5) : Int32).toNatClampNeg) * (gL (p_15.2) 164 ((((gI σ 66 23) - l_5) + 1) : Int32).toNatClampNeg)) - ((gL (p_15.2) 163 ((((gI σ 66 23) - l_5) + 1) : Int32).toNatClampNeg) * (gL (p_15.2) 164 (((gI σ 66 23) - l_5) : Int32).toNatClampNeg)))]) rfl rfl rfl ?_
                    refine ev_x (i := .lstore 7) (len := 2) (p' := 237) (s' := []) (l' := vz_s2 (vz_s1 (lv) 6 (.int ((gI σ 66 23) - l_5))) 7 (.long (((gL (p_15.2) 163 (((gI σ 66 23) - l_5) : Int32).toNatClampNeg) * (gL (p_15.2) 164 ((((gI σ 66 23) - l_5) + 1) : Int32).toNatClampNeg)) - ((gL (p_15.2) 163 ((((gI σ 66 23) - l_5) + 1) : Int32).toNatClampNeg) * (gL (p_15.2) 164 (((gI σ 66 23) - l_5) : Int32).toNatClampNeg))))) rfl rfl rfl ?_
                    refine ev_x (i := .aload_n 0) (len := 1) (p' := 238) (s' := [.ref 66]) rfl rfl (ld_a (vg_o2 (i := 7) (v := .long (((gL (p_15.2) 163 (((gI σ 66 23) - l_5) : Int32).toNatClampNeg) * (gL (p_15.2) 164 ((((gI σ 66 23) - l_5) + 1) : Int32).toNatClampNeg)) - ((gL (p_15.2) 163 ((((gI σ 66 23) - l_5) + 1) : Int32).toNatClampNeg) * (gL (p_15.2) 164 (((gI σ 66 23) - l_5) : Int32).toNatClampNeg)))) (vg_o (i := 6) (v := .int ((gI σ 66 23) - l_5)) g_0 (by decide) (Or.inl rfl)) (by decide) (by decide) (Or.inl rfl))) ?_
                    refine ev_x (i := .iload_n 3) (len := 1) (p' := 239) (s' := [.int l_3, .ref 66]) rfl rfl (ld_i (vg_o2 (i := 7) (v := .long (((gL (p_15.2) 163 (((gI σ 66 23) - l_5) : Int32).toNatClampNeg) * (gL (p_15.2) 164 ((((gI σ 66 23) - l_5) + 1) : Int32).toNatClampNeg)) - ((gL (p_15.2) 163 ((((gI σ 66 23) - l_5) + 1) : Int32).toNatClampNeg) * (gL (p_15.2) 164 (((gI σ 66 23) - l_5) : Int32).toNatClampNeg)))) (vg_o (i := 6) (v := .int ((gI σ 66 23) - l_5)) g_3 (by decide) (Or.inl rfl)) (by decide) (by decide) (Or.inl rfl))) ?_
                    refine ev_x (i := .bipush 23) (len := 2) (p' := 241) (s' := [.int 23, .int l_3, .ref 66]) rfl rfl rfl ?_
                    refine F_if H (fun c_43 H => ?_) (fun c_43 H => ?_)
                    · refine ev_b2 (t := 259) (p' := 244) rfl rfl rfl (if_neg (fun q => q c_43)) ?_
                      refine ev_x (i := .lload 7) (len := 2) (p' := 246) (s' := [.long (((gL (p_15.2) 163 (((gI σ 66 23) - l_5) : Int32).toNatClampNeg) * (gL (p_15.2) 164 ((((gI σ 66 23) - l_5) + 1) : Int32).toNatClampNeg)) - ((gL (p_15.2) 163 ((((gI σ 66 23) - l_5) + 1) : Int32).toNatClampNeg) * (gL (p_15.2) 164 (((gI σ 66 23) - l_5) : Int32).toNatClampNeg))), .ref 66]) rfl rfl (ld_l (vg_s2 (vz_s1 (lv) 6 (.int ((gI σ 66 23) - l_5))) 7 (.long (((gL (p_15.2) 163 (((gI σ 66 23) - l_5) : Int32).toNatClampNeg) * (gL (p_15.2) 164 ((((gI σ 66 23) - l_5) + 1) : Int32).toNatClampNeg)) - ((gL (p_15.2) 163 ((((gI σ 66 23) - l_5) + 1) : Int32).toNatClampNeg) * (gL (p_15.2) 164 (((gI σ 66 23) - l_5) : Int32).toNatClampNeg)))))) ?_
                      refine ev_x (i := .lconst 0) (len := 1) (p' := 247) (s' := [.long 0, .long (((gL (p_15.2) 163 (((gI σ 66 23) - l_5) : Int32).toNatClampNeg) * (gL (p_15.2) 164 ((((gI σ 66 23) - l_5) + 1) : Int32).toNatClampNeg)) - ((gL (p_15.2) 163 ((((gI σ 66 23) - l_5) + 1) : Int32).toNatClampNeg) * (gL (p_15.2) 164 (((gI σ 66 23) - l_5) : Int32).toNatClampNeg))), .ref 66]) rfl rfl rfl ?_
                      refine ev_x (i := .lcmp) (len := 1) (p' := 248) (s' := [.int (lg_cmp (((gL (p_15.2) 163 (((gI σ 66 23) - l_5) : Int32).toNatClampNeg) * (gL (p_15.2) 164 ((((gI σ 66 23) - l_5) + 1) : Int32).toNatClampNeg)) - ((gL (p_15.2) 163 ((((gI σ 66 23) - l_5) + 1) : Int32).toNatClampNeg) * (gL (p_15.2) 164 (((gI σ 66 23) - l_5) : Int32).toNatClampNeg))) 0), .ref 66]) rfl rfl rfl ?_
                      refine F_jn (A := vz_ev P0 (d + 4) 192 355 (vz_s2 (vz_s1 (lv) 6 (.int ((gI σ 66 23) - l_5))) 7 (.long (((gL (p_15.2) 163 (((gI σ 66 23) - l_5) : Int32).toNatClampNeg) * (gL (p_15.2) 164 ((((gI σ 66 23) - l_5) + 1) : Int32).toNatClampNeg)) - ((gL (p_15.2) 163 ((((gI σ 66 23) - l_5) + 1) : Int32).toNatClampNeg) * (gL (p_15.2) 164 (((gI σ 66 23) - l_5) : Int32).toNatClampNeg))))) [.int (if (lg_cmp (((gL (p_15.2) 163 (((gI σ 66 23) - l_5) : Int32).toNatClampNeg) * (gL (p_15.2) 164 ((((gI σ 66 23) - l_5) + 1) : Int32).toNatClampNeg)) - ((gL (p_15.2) 163 ((((gI σ 66 23) - l_5) + 1) : Int32).toNatClampNeg) * (gL (p_15.2) 164 (((gI σ 66 23) - l_5) : Int32).toNatClampNeg))) 0) = 0 then 1 else 0 : Int32), .ref 66] (hp (p_15.2)) (.inl none, hp p)) ?_ (fun J => ?_)
                      · obtain ⟨p_45, G_45, H⟩ := F_bd H
                        refine ev_cv (d := d + 3) (As := [.int (if (lg_cmp (((gL (p_15.2) 163 (((gI σ 66 23) - l_5) : Int32).toNatClampNeg) * (gL (p_15.2) 164 ((((gI σ 66 23) - l_5) + 1) : Int32).toNatClampNeg)) - ((gL (p_15.2) 163 ((((gI σ 66 23) - l_5) + 1) : Int32).toNatClampNeg) * (gL (p_15.2) 164 (((gI σ 66 23) - l_5) : Int32).toNatClampNeg))) 0) = 0 then 1 else 0 : Int32)]) (a := 66) (p' := 358) rfl rfl rfl ly_66 rfl rfl rfl rfl rfl (nb_s2 (nb_s1 hnb rfl) rfl) rfl (F_189_ok (d := d + 1)   G_45) ?_
                        refine ev_st (st' := []) rfl ?_
                        have e_45 := F_189_R G_45
                        refine ev_x (i := .goto 42) (len := 3) (p' := 400) (s' := []) rfl rfl rfl ?_
                        obtain rfl := Option.some.inj H
                        exact ev_vret rfl rfl rfl
                      · by_cases c_44 : (lg_cmp (((gL (p_15.2) 163 (((gI σ 66 23) - l_5) : Int32).toNatClampNeg) * (gL (p_15.2) 164 ((((gI σ 66 23) - l_5) + 1) : Int32).toNatClampNeg)) - ((gL (p_15.2) 163 ((((gI σ 66 23) - l_5) + 1) : Int32).toNatClampNeg) * (gL (p_15.2) 164 (((gI σ 66 23) - l_5) : Int32).toNatClampNeg))) 0) = 0
                        · refine ev_b0 (t := 255) (p' := 251) rfl rfl rfl (if_neg (fun q => q c_44)) ?_
                          refine ev_x (i := .iconst 1) (len := 1) (p' := 252) (s' := [.int 1, .ref 66]) rfl rfl rfl ?_
                          refine ev_x (i := .goto 103) (len := 3) (p' := 355) (s' := [.int 1, .ref 66]) rfl rfl rfl ?_
                          exact ev_st (congrArg (fun z => Value.int z :: [.ref 66]) (by rw [if_pos c_44])) J
                        · refine ev_b0 (t := 255) (p' := 255) rfl rfl rfl (if_pos c_44) ?_
                          refine ev_x (i := .iconst 0) (len := 1) (p' := 256) (s' := [.int 0, .ref 66]) rfl rfl rfl ?_
                          refine ev_x (i := .goto 99) (len := 3) (p' := 355) (s' := [.int 0, .ref 66]) rfl rfl rfl ?_
                          exact ev_st (congrArg (fun z => Value.int z :: [.ref 66]) (by rw [if_neg c_44])) J
                    · refine ev_b2 (t := 259) (p' := 259) rfl rfl rfl (if_pos c_43) ?_
                      refine ev_x (i := .iload_n 3) (len := 1) (p' := 260) (s' := [.int l_3, .ref 66]) rfl rfl (ld_i (vg_o2 (i := 7) (v := .long (((gL (p_15.2) 163 (((gI σ 66 23) - l_5) : Int32).toNatClampNeg) * (gL (p_15.2) 164 ((((gI σ 66 23) - l_5) + 1) : Int32).toNatClampNeg)) - ((gL (p_15.2) 163 ((((gI σ 66 23) - l_5) + 1) : Int32).toNatClampNeg) * (gL (p_15.2) 164 (((gI σ 66 23) - l_5) : Int32).toNatClampNeg)))) (vg_o (i := 6) (v := .int ((gI σ 66 23) - l_5)) g_3 (by decide) (Or.inl rfl)) (by decide) (by decide) (Or.inl rfl))) ?_
                      refine ev_x (i := .bipush 18) (len := 2) (p' := 262) (s' := [.int 18, .int l_3, .ref 66]) rfl rfl rfl ?_
                      refine F_if H (fun c_46 H => ?_) (fun c_46 H => ?_)
                      · refine ev_b2 (t := 280) (p' := 265) rfl rfl rfl (if_neg (fun q => q c_46)) ?_
                        refine ev_x (i := .lload 7) (len := 2) (p' := 267) (s' := [.long (((gL (p_15.2) 163 (((gI σ 66 23) - l_5) : Int32).toNatClampNeg) * (gL (p_15.2) 164 ((((gI σ 66 23) - l_5) + 1) : Int32).toNatClampNeg)) - ((gL (p_15.2) 163 ((((gI σ 66 23) - l_5) + 1) : Int32).toNatClampNeg) * (gL (p_15.2) 164 (((gI σ 66 23) - l_5) : Int32).toNatClampNeg))), .ref 66]) rfl rfl (ld_l (vg_s2 (vz_s1 (lv) 6 (.int ((gI σ 66 23) - l_5))) 7 (.long (((gL (p_15.2) 163 (((gI σ 66 23) - l_5) : Int32).toNatClampNeg) * (gL (p_15.2) 164 ((((gI σ 66 23) - l_5) + 1) : Int32).toNatClampNeg)) - ((gL (p_15.2) 163 ((((gI σ 66 23) - l_5) + 1) : Int32).toNatClampNeg) * (gL (p_15.2) 164 (((gI σ 66 23) - l_5) : Int32).toNatClampNeg)))))) ?_
                        refine ev_x (i := .lconst 0) (len := 1) (p' := 268) (s' := [.long 0, .long (((gL (p_15.2) 163 (((gI σ 66 23) - l_5) : Int32).toNatClampNeg) * (gL (p_15.2) 164 ((((gI σ 66 23) - l_5) + 1) : Int32).toNatClampNeg)) - ((gL (p_15.2) 163 ((((gI σ 66 23) - l_5) + 1) : Int32).toNatClampNeg) * (gL (p_15.2) 164 (((gI σ 66 23) - l_5) : Int32).toNatClampNeg))), .ref 66]) rfl rfl rfl ?_
                        refine ev_x (i := .lcmp) (len := 1) (p' := 269) (s' := [.int (lg_cmp (((gL (p_15.2) 163 (((gI σ 66 23) - l_5) : Int32).toNatClampNeg) * (gL (p_15.2) 164 ((((gI σ 66 23) - l_5) + 1) : Int32).toNatClampNeg)) - ((gL (p_15.2) 163 ((((gI σ 66 23) - l_5) + 1) : Int32).toNatClampNeg) * (gL (p_15.2) 164 (((gI σ 66 23) - l_5) : Int32).toNatClampNeg))) 0), .ref 66]) rfl rfl rfl ?_
                        refine F_jn (A := vz_ev P0 (d + 4) 192 355 (vz_s2 (vz_s1 (lv) 6 (.int ((gI σ 66 23) - l_5))) 7 (.long (((gL (p_15.2) 163 (((gI σ 66 23) - l_5) : Int32).toNatClampNeg) * (gL (p_15.2) 164 ((((gI σ 66 23) - l_5) + 1) : Int32).toNatClampNeg)) - ((gL (p_15.2) 163 ((((gI σ 66 23) - l_5) + 1) : Int32).toNatClampNeg) * (gL (p_15.2) 164 (((gI σ 66 23) - l_5) : Int32).toNatClampNeg))))) [.int (if (lg_cmp (((gL (p_15.2) 163 (((gI σ 66 23) - l_5) : Int32).toNatClampNeg) * (gL (p_15.2) 164 ((((gI σ 66 23) - l_5) + 1) : Int32).toNatClampNeg)) - ((gL (p_15.2) 163 ((((gI σ 66 23) - l_5) + 1) : Int32).toNatClampNeg) * (gL (p_15.2) 164 (((gI σ 66 23) - l_5) : Int32).toNatClampNeg))) 0) = 0 then 0 else 1 : Int32), .ref 66] (hp (p_15.2)) (.inl none, hp p)) ?_ (fun J => ?_)
                        · obtain ⟨p_48, G_48, H⟩ := F_bd H
                          refine ev_cv (d := d + 3) (As := [.int (if (lg_cmp (((gL (p_15.2) 163 (((gI σ 66 23) - l_5) : Int32).toNatClampNeg) * (gL (p_15.2) 164 ((((gI σ 66 23) - l_5) + 1) : Int32).toNatClampNeg)) - ((gL (p_15.2) 163 ((((gI σ 66 23) - l_5) + 1) : Int32).toNatClampNeg) * (gL (p_15.2) 164 (((gI σ 66 23) - l_5) : Int32).toNatClampNeg))) 0) = 0 then 0 else 1 : Int32)]) (a := 66) (p' := 358) rfl rfl rfl ly_66 rfl rfl rfl rfl rfl (nb_s2 (nb_s1 hnb rfl) rfl) rfl (F_189_ok (d := d + 1)   G_48) ?_
                          refine ev_st (st' := []) rfl ?_
                          have e_48 := F_189_R G_48
                          refine ev_x (i := .goto 42) (len := 3) (p' := 400) (s' := []) rfl rfl rfl ?_
                          obtain rfl := Option.some.inj H
                          exact ev_vret rfl rfl rfl
                        · by_cases c_47 : (lg_cmp (((gL (p_15.2) 163 (((gI σ 66 23) - l_5) : Int32).toNatClampNeg) * (gL (p_15.2) 164 ((((gI σ 66 23) - l_5) + 1) : Int32).toNatClampNeg)) - ((gL (p_15.2) 163 ((((gI σ 66 23) - l_5) + 1) : Int32).toNatClampNeg) * (gL (p_15.2) 164 (((gI σ 66 23) - l_5) : Int32).toNatClampNeg))) 0) = 0
                          · refine ev_b0 (t := 276) (p' := 276) rfl rfl rfl (if_pos c_47) ?_
                            refine ev_x (i := .iconst 0) (len := 1) (p' := 277) (s' := [.int 0, .ref 66]) rfl rfl rfl ?_
                            refine ev_x (i := .goto 78) (len := 3) (p' := 355) (s' := [.int 0, .ref 66]) rfl rfl rfl ?_
                            exact ev_st (congrArg (fun z => Value.int z :: [.ref 66]) (by rw [if_pos c_47])) J
                          · refine ev_b0 (t := 276) (p' := 272) rfl rfl rfl (if_neg c_47) ?_
                            refine ev_x (i := .iconst 1) (len := 1) (p' := 273) (s' := [.int 1, .ref 66]) rfl rfl rfl ?_
                            refine ev_x (i := .goto 82) (len := 3) (p' := 355) (s' := [.int 1, .ref 66]) rfl rfl rfl ?_
                            exact ev_st (congrArg (fun z => Value.int z :: [.ref 66]) (by rw [if_neg c_47])) J
                      · refine ev_b2 (t := 280) (p' := 280) rfl rfl rfl (if_pos c_46) ?_
                        refine ev_x (i := .iload_n 3) (len := 1) (p' := 281) (s' := [.int l_3, .ref 66]) rfl rfl (ld_i (vg_o2 (i := 7) (v := .long (((gL (p_15.2) 163 (((gI σ 66 23) - l_5) : Int32).toNatClampNeg) * (gL (p_15.2) 164 ((((gI σ 66 23) - l_5) + 1) : Int32).toNatClampNeg)) - ((gL (p_15.2) 163 ((((gI σ 66 23) - l_5) + 1) : Int32).toNatClampNeg) * (gL (p_15.2) 164 (((gI σ 66 23) - l_5) : Int32).toNatClampNeg)))) (vg_o (i := 6) (v := .int ((gI σ 66 23) - l_5)) g_3 (by decide) (Or.inl rfl)) (by decide) (by decide) (Or.inl rfl))) ?_
                        refine ev_x (i := .bipush 21) (len := 2) (p' := 283) (s' := [.int 21, .int l_3, .ref 66]) rfl rfl rfl ?_
                        refine F_jn (A := vz_ev P0 (d + 4) 192 355 (vz_s2 (vz_s1 (lv) 6 (.int ((gI σ 66 23) - l_5))) 7 (.long (((gL (p_15.2) 163 (((gI σ 66 23) - l_5) : Int32).toNatClampNeg) * (gL (p_15.2) 164 ((((gI σ 66 23) - l_5) + 1) : Int32).toNatClampNeg)) - ((gL (p_15.2) 163 ((((gI σ 66 23) - l_5) + 1) : Int32).toNatClampNeg) * (gL (p_15.2) 164 (((gI σ 66 23) - l_5) : Int32).toNatClampNeg))))) [.int (if l_3 = 21 then (if 0 ≤ (lg_cmp (((gL (p_15.2) 163 (((gI σ 66 23) - l_5) : Int32).toNatClampNeg) * (gL (p_15.2) 164 ((((gI σ 66 23) - l_5) + 1) : Int32).toNatClampNeg)) - ((gL (p_15.2) 163 ((((gI σ 66 23) - l_5) + 1) : Int32).toNatClampNeg) * (gL (p_15.2) 164 (((gI σ 66 23) - l_5) : Int32).toNatClampNeg))) 0) then 0 else 1) else (if l_3 = 19 then (if 0 < (lg_cmp (((gL (p_15.2) 163 (((gI σ 66 23) - l_5) : Int32).toNatClampNeg) * (gL (p_15.2) 164 ((((gI σ 66 23) - l_5) + 1) : Int32).toNatClampNeg)) - ((gL (p_15.2) 163 ((((gI σ 66 23) - l_5) + 1) : Int32).toNatClampNeg) * (gL (p_15.2) 164 (((gI σ 66 23) - l_5) : Int32).toNatClampNeg))) 0) then 0 else 1) else (if l_3 = 22 then (if (lg_cmp (((gL (p_15.2) 163 (((gI σ 66 23) - l_5) : Int32).toNatClampNeg) * (gL (p_15.2) 164 ((((gI σ 66 23) - l_5) + 1) : Int32).toNatClampNeg)) - ((gL (p_15.2) 163 ((((gI σ 66 23) - l_5) + 1) : Int32).toNatClampNeg) * (gL (p_15.2) 164 (((gI σ 66 23) - l_5) : Int32).toNatClampNeg))) 0) ≤ 0 then 0 else 1) else (if (lg_cmp (((gL (p_15.2) 163 (((gI σ 66 23) - l_5) : Int32).toNatClampNeg) * (gL (p_15.2) 164 ((((gI σ 66 23) - l_5) + 1) : Int32).toNatClampNeg)) - ((gL (p_15.2) 163 ((((gI σ 66 23) - l_5) + 1) : Int32).toNatClampNeg) * (gL (p_15.2) 164 (((gI σ 66 23) - l_5) : Int32).toNatClampNeg))) 0) < 0 then 0 else 1))) : Int32), .ref 66] (hp (p_15.2)) (.inl none, hp p)) ?_ (fun J => ?_)
                        · obtain ⟨p_56, G_56, H⟩ := F_bd H
                          refine ev_cv (d := d + 3) (As := [.int (if l_3 = 21 then (if 0 ≤ (lg_cmp (((gL (p_15.2) 163 (((gI σ 66 23) - l_5) : Int32).toNatClampNeg) * (gL (p_15.2) 164 ((((gI σ 66 23) - l_5) + 1) : Int32).toNatClampNeg)) - ((gL (p_15.2) 163 ((((gI σ 66 23) - l_5) + 1) : Int32).toNatClampNeg) * (gL (p_15.2) 164 (((gI σ 66 23) - l_5) : Int32).toNatClampNeg))) 0) then 0 else 1) else (if l_3 = 19 then (if 0 < (lg_cmp (((gL (p_15.2) 163 (((gI σ 66 23) - l_5) : Int32).toNatClampNeg) * (gL (p_15.2) 164 ((((gI σ 66 23) - l_5) + 1) : Int32).toNatClampNeg)) - ((gL (p_15.2) 163 ((((gI σ 66 23) - l_5) + 1) : Int32).toNatClampNeg) * (gL (p_15.2) 164 (((gI σ 66 23) - l_5) : Int32).toNatClampNeg))) 0) then 0 else 1) else (if l_3 = 22 then (if (lg_cmp (((gL (p_15.2) 163 (((gI σ 66 23) - l_5) : Int32).toNatClampNeg) * (gL (p_15.2) 164 ((((gI σ 66 23) - l_5) + 1) : Int32).toNatClampNeg)) - ((gL (p_15.2) 163 ((((gI σ 66 23) - l_5) + 1) : Int32).toNatClampNeg) * (gL (p_15.2) 164 (((gI σ 66 23) - l_5) : Int32).toNatClampNeg))) 0) ≤ 0 then 0 else 1) else (if (lg_cmp (((gL (p_15.2) 163 (((gI σ 66 23) - l_5) : Int32).toNatClampNeg) * (gL (p_15.2) 164 ((((gI σ 66 23) - l_5) + 1) : Int32).toNatClampNeg)) - ((gL (p_15.2) 163 ((((gI σ 66 23) - l_5) + 1) : Int32).toNatClampNeg) * (gL (p_15.2) 164 (((gI σ 66 23) - l_5) : Int32).toNatClampNeg))) 0) < 0 then 0 else 1))) : Int32)]) (a := 66) (p' := 358) rfl rfl rfl ly_66 rfl rfl rfl rfl rfl (nb_s2 (nb_s1 hnb rfl) rfl) rfl (F_189_ok (d := d + 1)   G_56) ?_
                          refine ev_st (st' := []) rfl ?_
                          have e_56 := F_189_R G_56
                          refine ev_x (i := .goto 42) (len := 3) (p' := 400) (s' := []) rfl rfl rfl ?_
                          obtain rfl := Option.some.inj H
                          exact ev_vret rfl rfl rfl
                        · by_cases c_49 : l_3 = 21
                          · refine ev_b2 (t := 301) (p' := 286) rfl rfl rfl (if_neg (fun q => q c_49)) ?_
                            refine ev_x (i := .lload 7) (len := 2) (p' := 288) (s' := [.long (((gL (p_15.2) 163 (((gI σ 66 23) - l_5) : Int32).toNatClampNeg) * (gL (p_15.2) 164 ((((gI σ 66 23) - l_5) + 1) : Int32).toNatClampNeg)) - ((gL (p_15.2) 163 ((((gI σ 66 23) - l_5) + 1) : Int32).toNatClampNeg) * (gL (p_15.2) 164 (((gI σ 66 23) - l_5) : Int32).toNatClampNeg))), .ref 66]) rfl rfl (ld_l (vg_s2 (vz_s1 (lv) 6 (.int ((gI σ 66 23) - l_5))) 7 (.long (((gL (p_15.2) 163 (((gI σ 66 23) - l_5) : Int32).toNatClampNeg) * (gL (p_15.2) 164 ((((gI σ 66 23) - l_5) + 1) : Int32).toNatClampNeg)) - ((gL (p_15.2) 163 ((((gI σ 66 23) - l_5) + 1) : Int32).toNatClampNeg) * (gL (p_15.2) 164 (((gI σ 66 23) - l_5) : Int32).toNatClampNeg)))))) ?_
                            refine ev_x (i := .lconst 0) (len := 1) (p' := 289) (s' := [.long 0, .long (((gL (p_15.2) 163 (((gI σ 66 23) - l_5) : Int32).toNatClampNeg) * (gL (p_15.2) 164 ((((gI σ 66 23) - l_5) + 1) : Int32).toNatClampNeg)) - ((gL (p_15.2) 163 ((((gI σ 66 23) - l_5) + 1) : Int32).toNatClampNeg) * (gL (p_15.2) 164 (((gI σ 66 23) - l_5) : Int32).toNatClampNeg))), .ref 66]) rfl rfl rfl ?_
                            refine ev_x (i := .lcmp) (len := 1) (p' := 290) (s' := [.int (lg_cmp (((gL (p_15.2) 163 (((gI σ 66 23) - l_5) : Int32).toNatClampNeg) * (gL (p_15.2) 164 ((((gI σ 66 23) - l_5) + 1) : Int32).toNatClampNeg)) - ((gL (p_15.2) 163 ((((gI σ 66 23) - l_5) + 1) : Int32).toNatClampNeg) * (gL (p_15.2) 164 (((gI σ 66 23) - l_5) : Int32).toNatClampNeg))) 0), .ref 66]) rfl rfl rfl ?_
                            by_cases c_50 : 0 ≤ (lg_cmp (((gL (p_15.2) 163 (((gI σ 66 23) - l_5) : Int32).toNatClampNeg) * (gL (p_15.2) 164 ((((gI σ 66 23) - l_5) + 1) : Int32).toNatClampNeg)) - ((gL (p_15.2) 163 ((((gI σ 66 23) - l_5) + 1) : Int32).toNatClampNeg) * (gL (p_15.2) 164 (((gI σ 66 23) - l_5) : Int32).toNatClampNeg))) 0)
                            · refine ev_b0 (t := 297) (p' := 297) rfl rfl rfl (if_pos c_50) ?_
                              refine ev_x (i := .iconst 0) (len := 1) (p' := 298) (s' := [.int 0, .ref 66]) rfl rfl rfl ?_
                              refine ev_x (i := .goto 57) (len := 3) (p' := 355) (s' := [.int 0, .ref 66]) rfl rfl rfl ?_
                              exact ev_st (congrArg (fun z => Value.int z :: [.ref 66]) (by rw [if_pos c_49, if_pos c_50])) J
                            · refine ev_b0 (t := 297) (p' := 293) rfl rfl rfl (if_neg c_50) ?_
                              refine ev_x (i := .iconst 1) (len := 1) (p' := 294) (s' := [.int 1, .ref 66]) rfl rfl rfl ?_
                              refine ev_x (i := .goto 61) (len := 3) (p' := 355) (s' := [.int 1, .ref 66]) rfl rfl rfl ?_
                              exact ev_st (congrArg (fun z => Value.int z :: [.ref 66]) (by rw [if_pos c_49, if_neg c_50])) J
                          · refine ev_b2 (t := 301) (p' := 301) rfl rfl rfl (if_pos c_49) ?_
                            refine ev_x (i := .iload_n 3) (len := 1) (p' := 302) (s' := [.int l_3, .ref 66]) rfl rfl (ld_i (vg_o2 (i := 7) (v := .long (((gL (p_15.2) 163 (((gI σ 66 23) - l_5) : Int32).toNatClampNeg) * (gL (p_15.2) 164 ((((gI σ 66 23) - l_5) + 1) : Int32).toNatClampNeg)) - ((gL (p_15.2) 163 ((((gI σ 66 23) - l_5) + 1) : Int32).toNatClampNeg) * (gL (p_15.2) 164 (((gI σ 66 23) - l_5) : Int32).toNatClampNeg)))) (vg_o (i := 6) (v := .int ((gI σ 66 23) - l_5)) g_3 (by decide) (Or.inl rfl)) (by decide) (by decide) (Or.inl rfl))) ?_
                            refine ev_x (i := .bipush 19) (len := 2) (p' := 304) (s' := [.int 19, .int l_3, .ref 66]) rfl rfl rfl ?_
                            by_cases c_51 : l_3 = 19
                            · refine ev_b2 (t := 322) (p' := 307) rfl rfl rfl (if_neg (fun q => q c_51)) ?_
                              refine ev_x (i := .lload 7) (len := 2) (p' := 309) (s' := [.long (((gL (p_15.2) 163 (((gI σ 66 23) - l_5) : Int32).toNatClampNeg) * (gL (p_15.2) 164 ((((gI σ 66 23) - l_5) + 1) : Int32).toNatClampNeg)) - ((gL (p_15.2) 163 ((((gI σ 66 23) - l_5) + 1) : Int32).toNatClampNeg) * (gL (p_15.2) 164 (((gI σ 66 23) - l_5) : Int32).toNatClampNeg))), .ref 66]) rfl rfl (ld_l (vg_s2 (vz_s1 (lv) 6 (.int ((gI σ 66 23) - l_5))) 7 (.long (((gL (p_15.2) 163 (((gI σ 66 23) - l_5) : Int32).toNatClampNeg) * (gL (p_15.2) 164 ((((gI σ 66 23) - l_5) + 1) : Int32).toNatClampNeg)) - ((gL (p_15.2) 163 ((((gI σ 66 23) - l_5) + 1) : Int32).toNatClampNeg) * (gL (p_15.2) 164 (((gI σ 66 23) - l_5) : Int32).toNatClampNeg)))))) ?_
                              refine ev_x (i := .lconst 0) (len := 1) (p' := 310) (s' := [.long 0, .long (((gL (p_15.2) 163 (((gI σ 66 23) - l_5) : Int32).toNatClampNeg) * (gL (p_15.2) 164 ((((gI σ 66 23) - l_5) + 1) : Int32).toNatClampNeg)) - ((gL (p_15.2) 163 ((((gI σ 66 23) - l_5) + 1) : Int32).toNatClampNeg) * (gL (p_15.2) 164 (((gI σ 66 23) - l_5) : Int32).toNatClampNeg))), .ref 66]) rfl rfl rfl ?_
                              refine ev_x (i := .lcmp) (len := 1) (p' := 311) (s' := [.int (lg_cmp (((gL (p_15.2) 163 (((gI σ 66 23) - l_5) : Int32).toNatClampNeg) * (gL (p_15.2) 164 ((((gI σ 66 23) - l_5) + 1) : Int32).toNatClampNeg)) - ((gL (p_15.2) 163 ((((gI σ 66 23) - l_5) + 1) : Int32).toNatClampNeg) * (gL (p_15.2) 164 (((gI σ 66 23) - l_5) : Int32).toNatClampNeg))) 0), .ref 66]) rfl rfl rfl ?_
                              by_cases c_52 : 0 < (lg_cmp (((gL (p_15.2) 163 (((gI σ 66 23) - l_5) : Int32).toNatClampNeg) * (gL (p_15.2) 164 ((((gI σ 66 23) - l_5) + 1) : Int32).toNatClampNeg)) - ((gL (p_15.2) 163 ((((gI σ 66 23) - l_5) + 1) : Int32).toNatClampNeg) * (gL (p_15.2) 164 (((gI σ 66 23) - l_5) : Int32).toNatClampNeg))) 0)
                              · refine ev_b0 (t := 318) (p' := 318) rfl rfl rfl (if_pos c_52) ?_
                                refine ev_x (i := .iconst 0) (len := 1) (p' := 319) (s' := [.int 0, .ref 66]) rfl rfl rfl ?_
                                refine ev_x (i := .goto 36) (len := 3) (p' := 355) (s' := [.int 0, .ref 66]) rfl rfl rfl ?_
                                exact ev_st (congrArg (fun z => Value.int z :: [.ref 66]) (by rw [if_neg c_49, if_pos c_51, if_pos c_52])) J
                              · refine ev_b0 (t := 318) (p' := 314) rfl rfl rfl (if_neg c_52) ?_
                                refine ev_x (i := .iconst 1) (len := 1) (p' := 315) (s' := [.int 1, .ref 66]) rfl rfl rfl ?_
                                refine ev_x (i := .goto 40) (len := 3) (p' := 355) (s' := [.int 1, .ref 66]) rfl rfl rfl ?_
                                exact ev_st (congrArg (fun z => Value.int z :: [.ref 66]) (by rw [if_neg c_49, if_pos c_51, if_neg c_52])) J
                            · refine ev_b2 (t := 322) (p' := 322) rfl rfl rfl (if_pos c_51) ?_
                              refine ev_x (i := .iload_n 3) (len := 1) (p' := 323) (s' := [.int l_3, .ref 66]) rfl rfl (ld_i (vg_o2 (i := 7) (v := .long (((gL (p_15.2) 163 (((gI σ 66 23) - l_5) : Int32).toNatClampNeg) * (gL (p_15.2) 164 ((((gI σ 66 23) - l_5) + 1) : Int32).toNatClampNeg)) - ((gL (p_15.2) 163 ((((gI σ 66 23) - l_5) + 1) : Int32).toNatClampNeg) * (gL (p_15.2) 164 (((gI σ 66 23) - l_5) : Int32).toNatClampNeg)))) (vg_o (i := 6) (v := .int ((gI σ 66 23) - l_5)) g_3 (by decide) (Or.inl rfl)) (by decide) (by decide) (Or.inl rfl))) ?_
                              refine ev_x (i := .bipush 22) (len := 2) (p' := 325) (s' := [.int 22, .int l_3, .ref 66]) rfl rfl rfl ?_
                              by_cases c_53 : l_3 = 22
                              · refine ev_b2 (t := 343) (p' := 328) rfl rfl rfl (if_neg (fun q => q c_53)) ?_
                                refine ev_x (i := .lload 7) (len := 2) (p' := 330) (s' := [.long (((gL (p_15.2) 163 (((gI σ 66 23) - l_5) : Int32).toNatClampNeg) * (gL (p_15.2) 164 ((((gI σ 66 23) - l_5) + 1) : Int32).toNatClampNeg)) - ((gL (p_15.2) 163 ((((gI σ 66 23) - l_5) + 1) : Int32).toNatClampNeg) * (gL (p_15.2) 164 (((gI σ 66 23) - l_5) : Int32).toNatClampNeg))), .ref 66]) rfl rfl (ld_l (vg_s2 (vz_s1 (lv) 6 (.int ((gI σ 66 23) - l_5))) 7 (.long (((gL (p_15.2) 163 (((gI σ 66 23) - l_5) : Int32).toNatClampNeg) * (gL (p_15.2) 164 ((((gI σ 66 23) - l_5) + 1) : Int32).toNatClampNeg)) - ((gL (p_15.2) 163 ((((gI σ 66 23) - l_5) + 1) : Int32).toNatClampNeg) * (gL (p_15.2) 164 (((gI σ 66 23) - l_5) : Int32).toNatClampNeg)))))) ?_
                                refine ev_x (i := .lconst 0) (len := 1) (p' := 331) (s' := [.long 0, .long (((gL (p_15.2) 163 (((gI σ 66 23) - l_5) : Int32).toNatClampNeg) * (gL (p_15.2) 164 ((((gI σ 66 23) - l_5) + 1) : Int32).toNatClampNeg)) - ((gL (p_15.2) 163 ((((gI σ 66 23) - l_5) + 1) : Int32).toNatClampNeg) * (gL (p_15.2) 164 (((gI σ 66 23) - l_5) : Int32).toNatClampNeg))), .ref 66]) rfl rfl rfl ?_
                                refine ev_x (i := .lcmp) (len := 1) (p' := 332) (s' := [.int (lg_cmp (((gL (p_15.2) 163 (((gI σ 66 23) - l_5) : Int32).toNatClampNeg) * (gL (p_15.2) 164 ((((gI σ 66 23) - l_5) + 1) : Int32).toNatClampNeg)) - ((gL (p_15.2) 163 ((((gI σ 66 23) - l_5) + 1) : Int32).toNatClampNeg) * (gL (p_15.2) 164 (((gI σ 66 23) - l_5) : Int32).toNatClampNeg))) 0), .ref 66]) rfl rfl rfl ?_
                                by_cases c_54 : (lg_cmp (((gL (p_15.2) 163 (((gI σ 66 23) - l_5) : Int32).toNatClampNeg) * (gL (p_15.2) 164 ((((gI σ 66 23) - l_5) + 1) : Int32).toNatClampNeg)) - ((gL (p_15.2) 163 ((((gI σ 66 23) - l_5) + 1) : Int32).toNatClampNeg) * (gL (p_15.2) 164 (((gI σ 66 23) - l_5) : Int32).toNatClampNeg))) 0) ≤ 0
                                · refine ev_b0 (t := 339) (p' := 339) rfl rfl rfl (if_pos c_54) ?_
                                  refine ev_x (i := .iconst 0) (len := 1) (p' := 340) (s' := [.int 0, .ref 66]) rfl rfl rfl ?_
                                  refine ev_x (i := .goto 15) (len := 3) (p' := 355) (s' := [.int 0, .ref 66]) rfl rfl rfl ?_
                                  exact ev_st (congrArg (fun z => Value.int z :: [.ref 66]) (by rw [if_neg c_49, if_neg c_51, if_pos c_53, if_pos c_54])) J
                                · refine ev_b0 (t := 339) (p' := 335) rfl rfl rfl (if_neg c_54) ?_
                                  refine ev_x (i := .iconst 1) (len := 1) (p' := 336) (s' := [.int 1, .ref 66]) rfl rfl rfl ?_
                                  refine ev_x (i := .goto 19) (len := 3) (p' := 355) (s' := [.int 1, .ref 66]) rfl rfl rfl ?_
                                  exact ev_st (congrArg (fun z => Value.int z :: [.ref 66]) (by rw [if_neg c_49, if_neg c_51, if_pos c_53, if_neg c_54])) J
                              · refine ev_b2 (t := 343) (p' := 343) rfl rfl rfl (if_pos c_53) ?_
                                refine ev_x (i := .lload 7) (len := 2) (p' := 345) (s' := [.long (((gL (p_15.2) 163 (((gI σ 66 23) - l_5) : Int32).toNatClampNeg) * (gL (p_15.2) 164 ((((gI σ 66 23) - l_5) + 1) : Int32).toNatClampNeg)) - ((gL (p_15.2) 163 ((((gI σ 66 23) - l_5) + 1) : Int32).toNatClampNeg) * (gL (p_15.2) 164 (((gI σ 66 23) - l_5) : Int32).toNatClampNeg))), .ref 66]) rfl rfl (ld_l (vg_s2 (vz_s1 (lv) 6 (.int ((gI σ 66 23) - l_5))) 7 (.long (((gL (p_15.2) 163 (((gI σ 66 23) - l_5) : Int32).toNatClampNeg) * (gL (p_15.2) 164 ((((gI σ 66 23) - l_5) + 1) : Int32).toNatClampNeg)) - ((gL (p_15.2) 163 ((((gI σ 66 23) - l_5) + 1) : Int32).toNatClampNeg) * (gL (p_15.2) 164 (((gI σ 66 23) - l_5) : Int32).toNatClampNeg)))))) ?_
                                refine ev_x (i := .lconst 0) (len := 1) (p' := 346) (s' := [.long 0, .long (((gL (p_15.2) 163 (((gI σ 66 23) - l_5) : Int32).toNatClampNeg) * (gL (p_15.2) 164 ((((gI σ 66 23) - l_5) + 1) : Int32).toNatClampNeg)) - ((gL (p_15.2) 163 ((((gI σ 66 23) - l_5) + 1) : Int32).toNatClampNeg) * (gL (p_15.2) 164 (((gI σ 66 23) - l_5) : Int32).toNatClampNeg))), .ref 66]) rfl rfl rfl ?_
                                refine ev_x (i := .lcmp) (len := 1) (p' := 347) (s' := [.int (lg_cmp (((gL (p_15.2) 163 (((gI σ 66 23) - l_5) : Int32).toNatClampNeg) * (gL (p_15.2) 164 ((((gI σ 66 23) - l_5) + 1) : Int32).toNatClampNeg)) - ((gL (p_15.2) 163 ((((gI σ 66 23) - l_5) + 1) : Int32).toNatClampNeg) * (gL (p_15.2) 164 (((gI σ 66 23) - l_5) : Int32).toNatClampNeg))) 0), .ref 66]) rfl rfl rfl ?_
                                by_cases c_55 : (lg_cmp (((gL (p_15.2) 163 (((gI σ 66 23) - l_5) : Int32).toNatClampNeg) * (gL (p_15.2) 164 ((((gI σ 66 23) - l_5) + 1) : Int32).toNatClampNeg)) - ((gL (p_15.2) 163 ((((gI σ 66 23) - l_5) + 1) : Int32).toNatClampNeg) * (gL (p_15.2) 164 (((gI σ 66 23) - l_5) : Int32).toNatClampNeg))) 0) < 0
                                · refine ev_b0 (t := 354) (p' := 354) rfl rfl rfl (if_pos c_55) ?_
                                  refine ev_x (i := .iconst 0) (len := 1) (p' := 355) (s' := [.int 0, .ref 66]) rfl rfl rfl ?_
                                  exact ev_st (congrArg (fun z => Value.int z :: [.ref 66]) (by rw [if_neg c_49, if_neg c_51, if_neg c_53, if_pos c_55])) J
                                · refine ev_b0 (t := 354) (p' := 350) rfl rfl rfl (if_neg c_55) ?_
                                  refine ev_x (i := .iconst 1) (len := 1) (p' := 351) (s' := [.int 1, .ref 66]) rfl rfl rfl ?_
                                  refine ev_x (i := .goto 4) (len := 3) (p' := 355) (s' := [.int 1, .ref 66]) rfl rfl rfl ?_
                                  exact ev_st (congrArg (fun z => Value.int z :: [.ref 66]) (by rw [if_neg c_49, if_neg c_51, if_neg c_53, if_neg c_55])) J
      · refine ev_b0 (t := 54) (p' := 37) rfl rfl rfl (if_neg c_4) ?_
        refine ev_x (i := .iinc 5 1) (len := 3) (p' := 40) (s' := []) (l' := vz_s1 (lv) 5 (.int (l_5 + 1))) rfl rfl (ld_inc g_5 rfl) ?_
        refine ev_x (i := .aload_n 1) (len := 1) (p' := 41) (s' := [.ref 79]) rfl rfl (ld_a (vg_o (i := 5) (v := .int (l_5 + 1)) g_1 (by decide) (Or.inl rfl))) ?_
        refine ev_gc (p' := 44) (v := 90) rfl rfl rfl ly_79 rfl rfl ?_
        refine ev_x (i := .iload 6) (len := 2) (p' := 46) (s' := [.int l_6, .ref 90]) rfl rfl (ld_i (vg_o (i := 5) (v := .int (l_5 + 1)) g_6 (by decide) (Or.inl rfl))) ?_
        obtain ⟨p_57, G_57, H⟩ := F_bd H
        refine ev_cv (d := d + 3) (As := [.int l_6]) (a := 90) (p' := 49) rfl rfl rfl ly_90 rfl rfl rfl rfl rfl (nb_s1 hnb rfl) rfl (N_139_ok (d := d + 2) nm_90 G_57) ?_
        refine ev_st (st' := [.int p_57.1]) rfl ?_
        have e_57 := N_139_R G_57
        refine ev_x (i := .istore 6) (len := 2) (p' := 51) (s' := []) (l' := vz_s1 (vz_s1 (lv) 5 (.int (l_5 + 1))) 6 (.int p_57.1)) rfl rfl rfl ?_
        refine ev_x (i := .goto (-19)) (len := 3) (p' := 32) (s' := []) rfl rfl rfl ?_
        exact ih _ _ _ _ _ _ _ (vg_o (i := 6) (v := .int p_57.1) (vg_o (i := 5) (v := .int (l_5 + 1)) g_0 (by decide) (Or.inl rfl)) (by decide) (Or.inl rfl)) (vg_o (i := 6) (v := .int p_57.1) (vg_o (i := 5) (v := .int (l_5 + 1)) g_1 (by decide) (Or.inl rfl)) (by decide) (Or.inl rfl)) (vg_o (i := 6) (v := .int p_57.1) (vg_o (i := 5) (v := .int (l_5 + 1)) g_3 (by decide) (Or.inl rfl)) (by decide) (Or.inl rfl)) (vg_o (i := 6) (v := .int p_57.1) (vg_o (i := 5) (v := .int (l_5 + 1)) g_4 (by decide) (Or.inl rfl)) (by decide) (Or.inl rfl)) (vg_o (i := 6) (v := .int p_57.1) (vg_s (lv) 5 (.int (l_5 + 1))) (by decide) (Or.inl rfl)) (vg_s (vz_s1 (lv) 5 (.int (l_5 + 1))) 6 (.int p_57.1)) (nb_s1 (nb_s1 hnb rfl) rfl)  H
  · intro k
    induction k with
    | zero => intro l_3 l_4 l_5 l_6 σ lv p g_0 g_1 g_3 g_4 g_5 g_6 hnb H; unfold L_192 at H; cases H
    | succ k ih =>
      intro l_3 l_4 l_5 l_6 σ lv p g_0 g_1 g_3 g_4 g_5 g_6 hnb H
      unfold L_192 at H
      refine ev_x (i := .iload 6) (len := 2) (p' := 34) (s' := [.int l_6]) rfl rfl (ld_i g_6) ?_
      refine F_if H (fun c_4 H => ?_) (fun c_4 H => ?_)
      · refine ev_b0 (t := 54) (p' := 54) rfl rfl rfl (if_pos c_4) ?_
        refine ev_x (i := .aload_n 0) (len := 1) (p' := 55) (s' := [.ref 66]) rfl rfl (ld_a g_0) ?_
        refine ev_gi (p' := 58) (v := (gI σ 66 23)) rfl rfl rfl ly_66 rfl rfl rfl ?_
        refine ev_x (i := .iload 5) (len := 2) (p' := 60) (s' := [.int l_5, .int (gI σ 66 23)]) rfl rfl (ld_i g_5) ?_
        refine ev_x (i := .isub) (len := 1) (p' := 61) (s' := [.int ((gI σ 66 23) - l_5)]) rfl rfl rfl ?_
        refine ev_x (i := .istore 6) (len := 2) (p' := 63) (s' := []) (l' := vz_s1 (lv) 6 (.int ((gI σ 66 23) - l_5))) rfl rfl rfl ?_
        refine ev_x (i := .aload_n 0) (len := 1) (p' := 64) (s' := [.ref 66]) rfl rfl (ld_a (vg_o (i := 6) (v := .int ((gI σ 66 23) - l_5)) g_0 (by decide) (Or.inl rfl))) ?_
        refine ev_x (i := .iload 6) (len := 2) (p' := 66) (s' := [.int ((gI σ 66 23) - l_5), .ref 66]) rfl rfl (ld_i (vg_s (lv) 6 (.int ((gI σ 66 23) - l_5)))) ?_
        refine ev_pi (p' := 69) rfl rfl rfl ly_66 rfl rfl rfl rfl ?_
        refine ev_x (i := .iload_n 3) (len := 1) (p' := 70) (s' := [.int l_3]) rfl rfl (ld_i (vg_o (i := 6) (v := .int ((gI σ 66 23) - l_5)) g_3 (by decide) (Or.inl rfl))) ?_
        refine ev_x (i := .bipush 31) (len := 2) (p' := 72) (s' := [.int 31, .int l_3]) rfl rfl rfl ?_
        refine F_if H (fun c_5 H => ?_) (fun c_5 H => ?_)
        · refine ev_b2 (t := 99) (p' := 75) rfl rfl rfl (if_neg (fun q => q c_5)) ?_
          refine ev_x (i := .aload_n 0) (len := 1) (p' := 76) (s' := [.ref 66]) rfl rfl (ld_a (vg_o (i := 6) (v := .int ((gI σ 66 23) - l_5)) g_0 (by decide) (Or.inl rfl))) ?_
          refine ev_x (i := .aload_n 0) (len := 1) (p' := 77) (s' := [.ref 66, .ref 66]) rfl rfl (ld_a (vg_o (i := 6) (v := .int ((gI σ 66 23) - l_5)) g_0 (by decide) (Or.inl rfl))) ?_
          refine ev_gc (p' := 80) (v := 163) rfl rfl rfl ly_66 rfl rfl ?_
          refine ev_x (i := .iload 6) (len := 2) (p' := 82) (s' := [.int ((gI σ 66 23) - l_5), .ref 163, .ref 66]) rfl rfl (ld_i (vg_s (lv) 6 (.int ((gI σ 66 23) - l_5)))) ?_
          obtain ⟨b_6, H⟩ := F_gd H
          refine ev_gL (p' := 83) (v := (gL (σ) 163 (((gI σ 66 23) - l_5) : Int32).toNatClampNeg)) rfl rfl ly_163 rfl (gd_in b_6) rfl ?_
          refine ev_x (i := .lconst 0) (len := 1) (p' := 84) (s' := [.long 0, .long (gL (σ) 163 (((gI σ 66 23) - l_5) : Int32).toNatClampNeg), .ref 66]) rfl rfl rfl ?_
          refine ev_x (i := .lcmp) (len := 1) (p' := 85) (s' := [.int (lg_cmp (gL (σ) 163 (((gI σ 66 23) - l_5) : Int32).toNatClampNeg) 0), .ref 66]) rfl rfl rfl ?_
          refine F_jn (A := vz_ev P0 (d + 4) 192 93 (vz_s1 (lv) 6 (.int ((gI σ 66 23) - l_5))) [.int (if (lg_cmp (gL (σ) 163 (((gI σ 66 23) - l_5) : Int32).toNatClampNeg) 0) = 0 then 1 else 0 : Int32), .ref 66] (hp (st_i (σ) 66 23 ((gI σ 66 23) - l_5))) (.inl none, hp p)) ?_ (fun J => ?_)
          · obtain ⟨p_8, G_8, H⟩ := F_bd H
            refine ev_cv (d := d + 3) (As := [.int (if (lg_cmp (gL (σ) 163 (((gI σ 66 23) - l_5) : Int32).toNatClampNeg) 0) = 0 then 1 else 0 : Int32)]) (a := 66) (p' := 96) rfl rfl rfl ly_66 rfl rfl rfl rfl rfl (nb_s1 hnb rfl) rfl (F_189_ok (d := d + 1)   G_8) ?_
            refine ev_st (st' := []) rfl ?_
            have e_8 := F_189_R G_8
            refine ev_x (i := .goto 304) (len := 3) (p' := 400) (s' := []) rfl rfl rfl ?_
            obtain rfl := Option.some.inj H
            exact ev_vret rfl rfl rfl
          · by_cases c_7 : (lg_cmp (gL (σ) 163 (((gI σ 66 23) - l_5) : Int32).toNatClampNeg) 0) = 0
            · refine ev_b0 (t := 92) (p' := 88) rfl rfl rfl (if_neg (fun q => q c_7)) ?_
              refine ev_x (i := .iconst 1) (len := 1) (p' := 89) (s' := [.int 1, .ref 66]) rfl rfl rfl ?_
              refine ev_x (i := .goto 4) (len := 3) (p' := 93) (s' := [.int 1, .ref 66]) rfl rfl rfl ?_
              exact ev_st (congrArg (fun z => Value.int z :: [.ref 66]) (by rw [if_pos c_7])) J
            · refine ev_b0 (t := 92) (p' := 92) rfl rfl rfl (if_pos c_7) ?_
              refine ev_x (i := .iconst 0) (len := 1) (p' := 93) (s' := [.int 0, .ref 66]) rfl rfl rfl ?_
              exact ev_st (congrArg (fun z => Value.int z :: [.ref 66]) (by rw [if_neg c_7])) J
        · refine ev_b2 (t := 99) (p' := 99) rfl rfl rfl (if_pos c_5) ?_
          refine ev_x (i := .iload_n 3) (len := 1) (p' := 100) (s' := [.int l_3]) rfl rfl (ld_i (vg_o (i := 6) (v := .int ((gI σ 66 23) - l_5)) g_3 (by decide) (Or.inl rfl))) ?_
          refine ev_x (i := .bipush 45) (len := 2) (p' := 102) (s' := [.int 45, .int l_3]) rfl rfl rfl ?_
          refine F_if H (fun c_9 H => ?_) (fun c_9 H => ?_)
          · refine ev_b2 (t := 127) (p' := 105) rfl rfl rfl (if_neg (fun q => q c_9)) ?_
            refine ev_x (i := .aload_n 0) (len := 1) (p' := 106) (s' := [.ref 66]) rfl rfl (ld_a (vg_o (i := 6) (v := .int ((gI σ 66 23) - l_5)) g_0 (by decide) (Or.inl rfl))) ?_
            refine ev_x (i := .aload_n 0) (len := 1) (p' := 107) (s' := [.ref 66, .ref 66]) rfl rfl (ld_a (vg_o (i := 6) (v := .int ((gI σ 66 23) - l_5)) g_0 (by decide) (Or.inl rfl))) ?_
            refine ev_gc (p' := 110) (v := 163) rfl rfl rfl ly_66 rfl rfl ?_
            refine ev_x (i := .iload 6) (len := 2) (p' := 112) (s' := [.int ((gI σ 66 23) - l_5), .ref 163, .ref 66]) rfl rfl (ld_i (vg_s (lv) 6 (.int ((gI σ 66 23) - l_5)))) ?_
            obtain ⟨b_10, H⟩ := F_gd H
            refine ev_gL (p' := 113) (v := (gL (σ) 163 (((gI σ 66 23) - l_5) : Int32).toNatClampNeg)) rfl rfl ly_163 rfl (gd_in b_10) rfl ?_
            refine ev_x (i := .lneg) (len := 1) (p' := 114) (s' := [.long (-(gL (σ) 163 (((gI σ 66 23) - l_5) : Int32).toNatClampNeg)), .ref 66]) rfl rfl rfl ?_
            refine ev_x (i := .aload_n 0) (len := 1) (p' := 115) (s' := [.ref 66, .long (-(gL (σ) 163 (((gI σ 66 23) - l_5) : Int32).toNatClampNeg)), .ref 66]) rfl rfl (ld_a (vg_o (i := 6) (v := .int ((gI σ 66 23) - l_5)) g_0 (by decide) (Or.inl rfl))) ?_
            refine ev_gc (p' := 118) (v := 164) rfl rfl rfl ly_66 rfl rfl ?_
            refine ev_x (i := .iload 6) (len := 2) (p' := 120) (s' := [.int ((gI σ 66 23) - l_5), .ref 164, .long (-(gL (σ) 163 (((gI σ 66 23) - l_5) : Int32).toNatClampNeg)), .ref 66]) rfl rfl (ld_i (vg_s (lv) 6 (.int ((gI σ 66 23) - l_5)))) ?_
            obtain ⟨b_11, H⟩ := F_gd H
            refine ev_gL (p' := 121) (v := (gL (σ) 164 (((gI σ 66 23) - l_5) : Int32).toNatClampNeg)) rfl rfl ly_164 rfl (gd_in b_11) rfl ?_
            obtain ⟨p_12, G_12, H⟩ := F_bd H
            refine ev_cv (d := d + 3) (As := [.long (-(gL (σ) 163 (((gI σ 66 23) - l_5) : Int32).toNatClampNeg)), .long (gL (σ) 164 (((gI σ 66 23) - l_5) : Int32).toNatClampNeg)]) (a := 66) (p' := 124) rfl rfl rfl ly_66 rfl rfl rfl rfl rfl (nb_s1 hnb rfl) rfl (F_188_ok (d := d + 2)   G_12) ?_
            refine ev_st (st' := []) rfl ?_
            have e_12 := F_188_R G_12
            refine ev_x (i := .goto 276) (len := 3) (p' := 400) (s' := []) rfl rfl rfl ?_
            obtain rfl := Option.some.inj H
            exact ev_vret rfl rfl rfl
          · refine ev_b2 (t := 127) (p' := 127) rfl rfl rfl (if_pos c_9) ?_
            refine ev_x (i := .iload_n 3) (len := 1) (p' := 128) (s' := [.int l_3]) rfl rfl (ld_i (vg_o (i := 6) (v := .int ((gI σ 66 23) - l_5)) g_3 (by decide) (Or.inl rfl))) ?_
            refine ev_x (i := .bipush 14) (len := 2) (p' := 130) (s' := [.int 14, .int l_3]) rfl rfl rfl ?_
            refine F_if H (fun c_13 H => ?_) (fun c_13 H => ?_)
            · refine ev_b2 (t := 139) (p' := 139) rfl rfl rfl (if_pos c_13) ?_
              exact J_192_139_ok (d := d) (Or.inr rfl) (vg_o (i := 6) (v := .int ((gI σ 66 23) - l_5)) g_0 (by decide) (Or.inl rfl)) (vg_o (i := 6) (v := .int ((gI σ 66 23) - l_5)) g_3 (by decide) (Or.inl rfl)) (vg_o (i := 6) (v := .int ((gI σ 66 23) - l_5)) g_5 (by decide) (Or.inl rfl)) (vg_s (lv) 6 (.int ((gI σ 66 23) - l_5))) (nb_s1 hnb rfl)  H
            · refine ev_b2 (t := 139) (p' := 133) rfl rfl rfl (if_neg c_13) ?_
              refine ev_x (i := .iload_n 3) (len := 1) (p' := 134) (s' := [.int l_3]) rfl rfl (ld_i (vg_o (i := 6) (v := .int ((gI σ 66 23) - l_5)) g_3 (by decide) (Or.inl rfl))) ?_
              refine ev_x (i := .bipush 15) (len := 2) (p' := 136) (s' := [.int 15, .int l_3]) rfl rfl rfl ?_
              refine F_if H (fun c_14 H => ?_) (fun c_14 H => ?_)
              · refine ev_b2 (t := 161) (p' := 139) rfl rfl rfl (if_neg (fun q => q c_14)) ?_
                exact J_192_139_ok (d := d) (Or.inr rfl) (vg_o (i := 6) (v := .int ((gI σ 66 23) - l_5)) g_0 (by decide) (Or.inl rfl)) (vg_o (i := 6) (v := .int ((gI σ 66 23) - l_5)) g_3 (by decide) (Or.inl rfl)) (vg_o (i := 6) (v := .int ((gI σ 66 23) - l_5)) g_5 (by decide) (Or.inl rfl)) (vg_s (lv) 6 (.int ((gI σ 66 23) - l_5))) (nb_s1 hnb rfl)  H
              · refine ev_b2 (t := 161) (p' := 161) rfl rfl rfl (if_pos c_14) ?_
                refine ev_x (i := .iload_n 3) (len := 1) (p' := 162) (s' := [.int l_3]) rfl rfl (ld_i (vg_o (i := 6) (v := .int ((gI σ 66 23) - l_5)) g_3 (by decide) (Or.inl rfl))) ?_
                obtain ⟨p_15, G_15, H⟩ := F_bd H
                refine ev_callS (d := d + 3) (As := [.int l_3]) rfl rfl rfl (by decide) rfl rfl rfl rfl (nb_s1 hnb rfl) (F_157_ok (d := d + 2)   G_15) ?_
                refine ev_st (st' := [.int p_15.1]) rfl ?_
                refine ev_pc (pc' := 165) rfl ?_
                have e_15 := F_157_R G_15
                refine F_if H (fun c_16 H => ?_) (fun c_16 H => ?_)
                · refine ev_b0 (t := 361) (p' := 361) rfl rfl rfl (if_pos c_16) ?_
                  refine ev_x (i := .aload_n 0) (len := 1) (p' := 362) (s' := [.ref 66]) rfl rfl (ld_a (vg_o (i := 6) (v := .int ((gI σ 66 23) - l_5)) g_0 (by decide) (Or.inl rfl))) ?_
                  refine ev_x (i := .iload_n 3) (len := 1) (p' := 363) (s' := [.int l_3, .ref 66]) rfl rfl (ld_i (vg_o (i := 6) (v := .int ((gI σ 66 23) - l_5)) g_3 (by decide) (Or.inl rfl))) ?_
                  refine ev_x (i := .aload_n 0) (len := 1) (p' := 364) (s' := [.ref 66, .int l_3, .ref 66]) rfl rfl (ld_a (vg_o (i := 6) (v := .int ((gI σ 66 23) - l_5)) g_0 (by decide) (Or.inl rfl))) ?_
                  refine ev_gc (p' := 367) (v := 163) rfl rfl rfl ly_66 rfl rfl ?_
                  refine ev_x (i := .iload 6) (len := 2) (p' := 369) (s' := [.int ((gI σ 66 23) - l_5), .ref 163, .int l_3, .ref 66]) rfl rfl (ld_i (vg_s (lv) 6 (.int ((gI σ 66 23) - l_5)))) ?_
                  obtain ⟨b_17, H⟩ := F_gd H
                  refine ev_gL (p' := 370) (v := (gL (p_15.2) 163 (((gI σ 66 23) - l_5) : Int32).toNatClampNeg)) rfl rfl ly_163 rfl (gd_in b_17) rfl ?_
                  refine ev_x (i := .aload_n 0) (len := 1) (p' := 371) (s' := [.ref 66, .long (gL (p_15.2) 163 (((gI σ 66 23) - l_5) : Int32).toNatClampNeg), .int l_3, .ref 66]) rfl rfl (ld_a (vg_o (i := 6) (v := .int ((gI σ 66 23) - l_5)) g_0 (by decide) (Or.inl rfl))) ?_
                  refine ev_gc (p' := 374) (v := 164) rfl rfl rfl ly_66 rfl rfl ?_
                  refine ev_x (i := .iload 6) (len := 2) (p' := 376) (s' := [.int ((gI σ 66 23) - l_5), .ref 164, .long (gL (p_15.2) 163 (((gI σ 66 23) - l_5) : Int32).toNatClampNeg), .int l_3, .ref 66]) rfl rfl (ld_i (vg_s (lv) 6 (.int ((gI σ 66 23) - l_5)))) ?_
                  obtain ⟨b_18, H⟩ := F_gd H
                  refine ev_gL (p' := 377) (v := (gL (p_15.2) 164 (((gI σ 66 23) - l_5) : Int32).toNatClampNeg)) rfl rfl ly_164 rfl (gd_in b_18) rfl ?_
                  refine ev_x (i := .aload_n 0) (len := 1) (p' := 378) (s' := [.ref 66, .long (gL (p_15.2) 164 (((gI σ 66 23) - l_5) : Int32).toNatClampNeg), .long (gL (p_15.2) 163 (((gI σ 66 23) - l_5) : Int32).toNatClampNeg), .int l_3, .ref 66]) rfl rfl (ld_a (vg_o (i := 6) (v := .int ((gI σ 66 23) - l_5)) g_0 (by decide) (Or.inl rfl))) ?_
                  refine ev_gc (p' := 381) (v := 163) rfl rfl rfl ly_66 rfl rfl ?_
                  refine ev_x (i := .iload 6) (len := 2) (p' := 383) (s' := [.int ((gI σ 66 23) - l_5), .ref 163, .long (gL (p_15.2) 164 (((gI σ 66 23) - l_5) : Int32).toNatClampNeg), .long (gL (p_15.2) 163 (((gI σ 66 23) - l_5) : Int32).toNatClampNeg), .int l_3, .ref 66]) rfl rfl (ld_i (vg_s (lv) 6 (.int ((gI σ 66 23) - l_5)))) ?_
                  refine ev_x (i := .iconst 1) (len := 1) (p' := 384) (s' := [.int 1, .int ((gI σ 66 23) - l_5), .ref 163, .long (gL (p_15.2) 164 (((gI σ 66 23) - l_5) : Int32).toNatClampNeg), .long (gL (p_15.2) 163 (((gI σ 66 23) - l_5) : Int32).toNatClampNeg), .int l_3, .ref 66]) rfl rfl rfl ?_
                  refine ev_x (i := .iadd) (len := 1) (p' := 385) (s' := [.int (((gI σ 66 23) - l_5) + 1), .ref 163, .long (gL (p_15.2) 164 (((gI σ 66 23) - l_5) : Int32).toNatClampNeg), .long (gL (p_15.2) 163 (((gI σ 66 23) - l_5) : Int32).toNatClampNeg), .int l_3, .ref 66]) rfl rfl rfl ?_
                  obtain ⟨b_19, H⟩ := F_gd H
                  refine ev_gL (p' := 386) (v := (gL (p_15.2) 163 ((((gI σ 66 23) - l_5) + 1) : Int32).toNatClampNeg)) rfl rfl ly_163 rfl (gd_in b_19) rfl ?_
                  refine ev_x (i := .aload_n 0) (len := 1) (p' := 387) (s' := [.ref 66, .long (gL (p_15.2) 163 ((((gI σ 66 23) - l_5) + 1) : Int32).toNatClampNeg), .long (gL (p_15.2) 164 (((gI σ 66 23) - l_5) : Int32).toNatClampNeg), .long (gL (p_15.2) 163 (((gI σ 66 23) - l_5) : Int32).toNatClampNeg), .int l_3, .ref 66]) rfl rfl (ld_a (vg_o (i := 6) (v := .int ((gI σ 66 23) - l_5)) g_0 (by decide) (Or.inl rfl))) ?_
                  refine ev_gc (p' := 390) (v := 164) rfl rfl rfl ly_66 rfl rfl ?_
                  refine ev_x (i := .iload 6) (len := 2) (p' := 392) (s' := [.int ((gI σ 66 23) - l_5), .ref 164, .long (gL (p_15.2) 163 ((((gI σ 66 23) - l_5) + 1) : Int32).toNatClampNeg), .long (gL (p_15.2) 164 (((gI σ 66 23) - l_5) : Int32).toNatClampNeg), .long (gL (p_15.2) 163 (((gI σ 66 23) - l_5) : Int32).toNatClampNeg), .int l_3, .ref 66]) rfl rfl (ld_i (vg_s (lv) 6 (.int ((gI σ 66 23) - l_5)))) ?_
                  refine ev_x (i := .iconst 1) (len := 1) (p' := 393) (s' := [.int 1, .int ((gI σ 66 23) - l_5), .ref 164, .long (gL (p_15.2) 163 ((((gI σ 66 23) - l_5) + 1) : Int32).toNatClampNeg), .long (gL (p_15.2) 164 (((gI σ 66 23) - l_5) : Int32).toNatClampNeg), .long (gL (p_15.2) 163 (((gI σ 66 23) - l_5) : Int32).toNatClampNeg), .int l_3, .ref 66]) rfl rfl rfl ?_
                  refine ev_x (i := .iadd) (len := 1) (p' := 394) (s' := [.int (((gI σ 66 23) - l_5) + 1), .ref 164, .long (gL (p_15.2) 163 ((((gI σ 66 23) - l_5) + 1) : Int32).toNatClampNeg), .long (gL (p_15.2) 164 (((gI σ 66 23) - l_5) : Int32).toNatClampNeg), .long (gL (p_15.2) 163 (((gI σ 66 23) - l_5) : Int32).toNatClampNeg), .int l_3, .ref 66]) rfl rfl rfl ?_
                  obtain ⟨b_20, H⟩ := F_gd H
                  refine ev_gL (p' := 395) (v := (gL (p_15.2) 164 ((((gI σ 66 23) - l_5) + 1) : Int32).toNatClampNeg)) rfl rfl ly_164 rfl (gd_in b_20) rfl ?_
                  refine ev_x (i := .iload 4) (len := 2) (p' := 397) (s' := [.int l_4, .long (gL (p_15.2) 164 ((((gI σ 66 23) - l_5) + 1) : Int32).toNatClampNeg), .long (gL (p_15.2) 163 ((((gI σ 66 23) - l_5) + 1) : Int32).toNatClampNeg), .long (gL (p_15.2) 164 (((gI σ 66 23) - l_5) : Int32).toNatClampNeg), .long (gL (p_15.2) 163 (((gI σ 66 23) - l_5) : Int32).toNatClampNeg), .int l_3, .ref 66]) rfl rfl (ld_i (vg_o (i := 6) (v := .int ((gI σ 66 23) - l_5)) g_4 (by decide) (Or.inl rfl))) ?_
                  obtain ⟨p_21, G_21, H⟩ := F_bd H
                  refine ev_cv (d := d + 3) (As := [.int l_3, .long (gL (p_15.2) 163 (((gI σ 66 23) - l_5) : Int32).toNatClampNeg), .long (gL (p_15.2) 164 (((gI σ 66 23) - l_5) : Int32).toNatClampNeg), .long (gL (p_15.2) 163 ((((gI σ 66 23) - l_5) + 1) : Int32).toNatClampNeg), .long (gL (p_15.2) 164 ((((gI σ 66 23) - l_5) + 1) : Int32).toNatClampNeg), .int l_4]) (a := 66) (p' := 400) rfl rfl rfl ly_66 rfl rfl rfl rfl rfl (nb_s1 hnb rfl) rfl (F_194_ok (d := d + 0)   G_21) ?_
                  refine ev_st (st' := []) rfl ?_
                  have e_21 := F_194_R G_21
                  obtain rfl := Option.some.inj H
                  exact ev_vret rfl rfl rfl
                · refine ev_b0 (t := 361) (p' := 168) rfl rfl rfl (if_neg c_16) ?_
                  refine ev_x (i := .aload_n 0) (len := 1) (p' := 169) (s' := [.ref 66]) rfl rfl (ld_a (vg_o (i := 6) (v := .int ((gI σ 66 23) - l_5)) g_0 (by decide) (Or.inl rfl))) ?_
                  refine ev_gc (p' := 172) (v := 164) rfl rfl rfl ly_66 rfl rfl ?_
                  refine ev_x (i := .iload 6) (len := 2) (p' := 174) (s' := [.int ((gI σ 66 23) - l_5), .ref 164]) rfl rfl (ld_i (vg_s (lv) 6 (.int ((gI σ 66 23) - l_5)))) ?_
                  obtain ⟨b_22, H⟩ := F_gd H
                  refine ev_gL (p' := 175) (v := (gL (p_15.2) 164 (((gI σ 66 23) - l_5) : Int32).toNatClampNeg)) rfl rfl ly_164 rfl (gd_in b_22) rfl ?_
                  refine ev_x (i := .lconst 0) (len := 1) (p' := 176) (s' := [.long 0, .long (gL (p_15.2) 164 (((gI σ 66 23) - l_5) : Int32).toNatClampNeg)]) rfl rfl rfl ?_
                  refine ev_x (i := .lcmp) (len := 1) (p' := 177) (s' := [.int (lg_cmp (gL (p_15.2) 164 (((gI σ 66 23) - l_5) : Int32).toNatClampNeg) 0)]) rfl rfl rfl ?_
                  refine F_if H (fun c_23 H => ?_) (fun c_23 H => ?_)
                  · refine ev_b0 (t := 200) (p' := 180) rfl rfl rfl (if_neg (fun q => q c_23)) ?_
                    refine ev_x (i := .aload_n 0) (len := 1) (p' := 181) (s' := [.ref 66]) rfl rfl (ld_a (vg_o (i := 6) (v := .int ((gI σ 66 23) - l_5)) g_0 (by decide) (Or.inl rfl))) ?_
                    refine ev_gc (p' := 184) (v := 163) rfl rfl rfl ly_66 rfl rfl ?_
                    refine ev_x (i := .iload 6) (len := 2) (p' := 186) (s' := [.int ((gI σ 66 23) - l_5), .ref 163]) rfl rfl (ld_i (vg_s (lv) 6 (.int ((gI σ 66 23) - l_5)))) ?_
                    obtain ⟨b_24, H⟩ := F_gd H
                    refine ev_gL (p' := 187) (v := (gL (p_15.2) 163 (((gI σ 66 23) - l_5) : Int32).toNatClampNeg)) rfl rfl ly_163 rfl (gd_in b_24) rfl ?_
                    refine ev_x (i := .aload_n 0) (len := 1) (p' := 188) (s' := [.ref 66, .long (gL (p_15.2) 163 (((gI σ 66 23) - l_5) : Int32).toNatClampNeg)]) rfl rfl (ld_a (vg_o (i := 6) (v := .int ((gI σ 66 23) - l_5)) g_0 (by decide) (Or.inl rfl))) ?_
                    refine ev_gc (p' := 191) (v := 163) rfl rfl rfl ly_66 rfl rfl ?_
                    refine ev_x (i := .iload 6) (len := 2) (p' := 193) (s' := [.int ((gI σ 66 23) - l_5), .ref 163, .long (gL (p_15.2) 163 (((gI σ 66 23) - l_5) : Int32).toNatClampNeg)]) rfl rfl (ld_i (vg_s (lv) 6 (.int ((gI σ 66 23) - l_5)))) ?_
                    refine ev_x (i := .iconst 1) (len := 1) (p' := 194) (s' := [.int 1, .int ((gI σ 66 23) - l_5), .ref 163, .long (gL (p_15.2) 163 (((gI σ 66 23) - l_5) : Int32).toNatClampNeg)]) rfl rfl rfl ?_
                    refine ev_x (i := .iadd) (len := 1) (p' := 195) (s' := [.int (((gI σ 66 23) - l_5) + 1), .ref 163, .long (gL (p_15.2) 163 (((gI σ 66 23) - l_5) : Int32).toNatClampNeg)]) rfl rfl rfl ?_
                    obtain ⟨b_25, H⟩ := F_gd H
                    refine ev_gL (p' := 196) (v := (gL (p_15.2) 163 ((((gI σ 66 23) - l_5) + 1) : Int32).toNatClampNeg)) rfl rfl ly_163 rfl (gd_in b_25) rfl ?_
                    refine ev_x (i := .lsub) (len := 1) (p' := 197) (s' := [.long ((gL (p_15.2) 163 (((gI σ 66 23) - l_5) : Int32).toNatClampNeg) - (gL (p_15.2) 163 ((((gI σ 66 23) - l_5) + 1) : Int32).toNatClampNeg))]) rfl rfl rfl ?_
                    refine ev_x (i := .goto 38) (len := 3) (p' := 235) (s' := [.long ((gL (p_15.2) 163 (((gI σ 66 23) - l_5) : Int32).toNatClampNeg) - (gL (p_15.2) 163 ((((gI σ 66 23) - l_5) + 1) : Int32).toNatClampNeg))]) rfl rfl rfl ?_
                    refine ev_x (i := .lstore 7) (len := 2) (p' := 237) (s' := []) (l' := vz_s2 (vz_s1 (lv) 6 (.int ((gI σ 66 23) - l_5))) 7 (.long ((gL (p_15.2) 163 (((gI σ 66 23) - l_5) : Int32).toNatClampNeg) - (gL (p_15.2) 163 ((((gI σ 66 23) - l_5) + 1) : Int32).toNatClampNeg)))) rfl rfl rfl ?_
                    refine ev_x (i := .aload_n 0) (len := 1) (p' := 238) (s' := [.ref 66]) rfl rfl (ld_a (vg_o2 (i := 7) (v := .long ((gL (p_15.2) 163 (((gI σ 66 23) - l_5) : Int32).toNatClampNeg) - (gL (p_15.2) 163 ((((gI σ 66 23) - l_5) + 1) : Int32).toNatClampNeg))) (vg_o (i := 6) (v := .int ((gI σ 66 23) - l_5)) g_0 (by decide) (Or.inl rfl)) (by decide) (by decide) (Or.inl rfl))) ?_
                    refine ev_x (i := .iload_n 3) (len := 1) (p' := 239) (s' := [.int l_3, .ref 66]) rfl rfl (ld_i (vg_o2 (i := 7) (v := .long ((gL (p_15.2) 163 (((gI σ 66 23) - l_5) : Int32).toNatClampNeg) - (gL (p_15.2) 163 ((((gI σ 66 23) - l_5) + 1) : Int32).toNatClampNeg))) (vg_o (i := 6) (v := .int ((gI σ 66 23) - l_5)) g_3 (by decide) (Or.inl rfl)) (by decide) (by decide) (Or.inl rfl))) ?_
                    refine ev_x (i := .bipush 23) (len := 2) (p' := 241) (s' := [.int 23, .int l_3, .ref 66]) rfl rfl rfl ?_
                    refine F_if H (fun c_26 H => ?_) (fun c_26 H => ?_)
                    · refine ev_b2 (t := 259) (p' := 244) rfl rfl rfl (if_neg (fun q => q c_26)) ?_
                      refine ev_x (i := .lload 7) (len := 2) (p' := 246) (s' := [.long ((gL (p_15.2) 163 (((gI σ 66 23) - l_5) : Int32).toNatClampNeg) - (gL (p_15.2) 163 ((((gI σ 66 23) - l_5) + 1) : Int32).toNatClampNeg)), .ref 66]) rfl rfl (ld_l (vg_s2 (vz_s1 (lv) 6 (.int ((gI σ 66 23) - l_5))) 7 (.long ((gL (p_15.2) 163 (((gI σ 66 23) - l_5) : Int32).toNatClampNeg) - (gL (p_15.2) 163 ((((gI σ 66 23) - l_5) + 1) : Int32).toNatClampNeg))))) ?_
                      refine ev_x (i := .lconst 0) (len := 1) (p' := 247) (s' := [.long 0, .long ((gL (p_15.2) 163 (((gI σ 66 23) - l_5) : Int32).toNatClampNeg) - (gL (p_15.2) 163 ((((gI σ 66 23) - l_5) + 1) : Int32).toNatClampNeg)), .ref 66]) rfl rfl rfl ?_
                      refine ev_x (i := .lcmp) (len := 1) (p' := 248) (s' := [.int (lg_cmp ((gL (p_15.2) 163 (((gI σ 66 23) - l_5) : Int32).toNatClampNeg) - (gL (p_15.2) 163 ((((gI σ 66 23) - l_5) + 1) : Int32).toNatClampNeg)) 0), .ref 66]) rfl rfl rfl ?_
                      refine F_jn (A := vz_ev P0 (d + 4) 192 355 (vz_s2 (vz_s1 (lv) 6 (.int ((gI σ 66 23) - l_5))) 7 (.long ((gL (p_15.2) 163 (((gI σ 66 23) - l_5) : Int32).toNatClampNeg) - (gL (p_15.2) 163 ((((gI σ 66 23) - l_5) + 1) : Int32).toNatClampNeg)))) [.int (if (lg_cmp ((gL (p_15.2) 163 (((gI σ 66 23) - l_5) : Int32).toNatClampNeg) - (gL (p_15.2) 163 ((((gI σ 66 23) - l_5) + 1) : Int32).toNatClampNeg)) 0) = 0 then 1 else 0 : Int32), .ref 66] (hp (p_15.2)) (.inl none, hp p)) ?_ (fun J => ?_)
                      · obtain ⟨p_28, G_28, H⟩ := F_bd H
                        refine ev_cv (d := d + 3) (As := [.int (if (lg_cmp ((gL (p_15.2) 163 (((gI σ 66 23) - l_5) : Int32).toNatClampNeg) - (gL (p_15.2) 163 ((((gI σ 66 23) - l_5) + 1) : Int32).toNatClampNeg)) 0) = 0 then 1 else 0 : Int32)]) (a := 66) (p' := 358) rfl rfl rfl ly_66 rfl rfl rfl rfl rfl (nb_s2 (nb_s1 hnb rfl) rfl) rfl (F_189_ok (d := d + 1)   G_28) ?_
                        refine ev_st (st' := []) rfl ?_
                        have e_28 := F_189_R G_28
                        refine ev_x (i := .goto 42) (len := 3) (p' := 400) (s' := []) rfl rfl rfl ?_
                        obtain rfl := Option.some.inj H
                        exact ev_vret rfl rfl rfl
                      · by_cases c_27 : (lg_cmp ((gL (p_15.2) 163 (((gI σ 66 23) - l_5) : Int32).toNatClampNeg) - (gL (p_15.2) 163 ((((gI σ 66 23) - l_5) + 1) : Int32).toNatClampNeg)) 0) = 0
                        · refine ev_b0 (t := 255) (p' := 251) rfl rfl rfl (if_neg (fun q => q c_27)) ?_
                          refine ev_x (i := .iconst 1) (len := 1) (p' := 252) (s' := [.int 1, .ref 66]) rfl rfl rfl ?_
                          refine ev_x (i := .goto 103) (len := 3) (p' := 355) (s' := [.int 1, .ref 66]) rfl rfl rfl ?_
                          exact ev_st (congrArg (fun z => Value.int z :: [.ref 66]) (by rw [if_pos c_27])) J
                        · refine ev_b0 (t := 255) (p' := 255) rfl rfl rfl (if_pos c_27) ?_
                          refine ev_x (i := .iconst 0) (len := 1) (p' := 256) (s' := [.int 0, .ref 66]) rfl rfl rfl ?_
                          refine ev_x (i := .goto 99) (len := 3) (p' := 355) (s' := [.int 0, .ref 66]) rfl rfl rfl ?_
                          exact ev_st (congrArg (fun z => Value.int z :: [.ref 66]) (by rw [if_neg c_27])) J
                    · refine ev_b2 (t := 259) (p' := 259) rfl rfl rfl (if_pos c_26) ?_
                      refine ev_x (i := .iload_n 3) (len := 1) (p' := 260) (s' := [.int l_3, .ref 66]) rfl rfl (ld_i (vg_o2 (i := 7) (v := .long ((gL (p_15.2) 163 (((gI σ 66 23) - l_5) : Int32).toNatClampNeg) - (gL (p_15.2) 163 ((((gI σ 66 23) - l_5) + 1) : Int32).toNatClampNeg))) (vg_o (i := 6) (v := .int ((gI σ 66 23) - l_5)) g_3 (by decide) (Or.inl rfl)) (by decide) (by decide) (Or.inl rfl))) ?_
                      refine ev_x (i := .bipush 18) (len := 2) (p' := 262) (s' := [.int 18, .int l_3, .ref 66]) rfl rfl rfl ?_
                      refine F_if H (fun c_29 H => ?_) (fun c_29 H => ?_)
                      · refine ev_b2 (t := 280) (p' := 265) rfl rfl rfl (if_neg (fun q => q c_29)) ?_
                        refine ev_x (i := .lload 7) (len := 2) (p' := 267) (s' := [.long ((gL (p_15.2) 163 (((gI σ 66 23) - l_5) : Int32).toNatClampNeg) - (gL (p_15.2) 163 ((((gI σ 66 23) - l_5) + 1) : Int32).toNatClampNeg)), .ref 66]) rfl rfl (ld_l (vg_s2 (vz_s1 (lv) 6 (.int ((gI σ 66 23) - l_5))) 7 (.long ((gL (p_15.2) 163 (((gI σ 66 23) - l_5) : Int32).toNatClampNeg) - (gL (p_15.2) 163 ((((gI σ 66 23) - l_5) + 1) : Int32).toNatClampNeg))))) ?_
                        refine ev_x (i := .lconst 0) (len := 1) (p' := 268) (s' := [.long 0, .long ((gL (p_15.2) 163 (((gI σ 66 23) - l_5) : Int32).toNatClampNeg) - (gL (p_15.2) 163 ((((gI σ 66 23) - l_5) + 1) : Int32).toNatClampNeg)), .ref 66]) rfl rfl rfl ?_
                        refine ev_x (i := .lcmp) (len := 1) (p' := 269) (s' := [.int (lg_cmp ((gL (p_15.2) 163 (((gI σ 66 23) - l_5) : Int32).toNatClampNeg) - (gL (p_15.2) 163 ((((gI σ 66 23) - l_5) + 1) : Int32).toNatClampNeg)) 0), .ref 66]) rfl rfl rfl ?_
                        refine F_jn (A := vz_ev P0 (d + 4) 192 355 (vz_s2 (vz_s1 (lv) 6 (.int ((gI σ 66 23) - l_5))) 7 (.long ((gL (p_15.2) 163 (((gI σ 66 23) - l_5) : Int32).toNatClampNeg) - (gL (p_15.2) 163 ((((gI σ 66 23) - l_5) + 1) : Int32).toNatClampNeg)))) [.int (if (lg_cmp ((gL (p_15.2) 163 (((gI σ 66 23) - l_5) : Int32).toNatClampNeg) - (gL (p_15.2) 163 ((((gI σ 66 23) - l_5) + 1) : Int32).toNatClampNeg)) 0) = 0 then 0 else 1 : Int32), .ref 66] (hp (p_15.2)) (.inl none, hp p)) ?_ (fun J => ?_)
                        · obtain ⟨p_31, G_31, H⟩ := F_bd H
                          refine ev_cv (d := d + 3) (As := [.int (if (lg_cmp ((gL (p_15.2) 163 (((gI σ 66 23) - l_5) : Int32).toNatClampNeg) - (gL (p_15.2) 163 ((((gI σ 66 23) - l_5) + 1) : Int32).toNatClampNeg)) 0) = 0 then 0 else 1 : Int32)]) (a := 66) (p' := 358) rfl rfl rfl ly_66 rfl rfl rfl rfl rfl (nb_s2 (nb_s1 hnb rfl) rfl) rfl (F_189_ok (d := d + 1)   G_31) ?_
                          refine ev_st (st' := []) rfl ?_
                          have e_31 := F_189_R G_31
                          refine ev_x (i := .goto 42) (len := 3) (p' := 400) (s' := []) rfl rfl rfl ?_
                          obtain rfl := Option.some.inj H
                          exact ev_vret rfl rfl rfl
                        · by_cases c_30 : (lg_cmp ((gL (p_15.2) 163 (((gI σ 66 23) - l_5) : Int32).toNatClampNeg) - (gL (p_15.2) 163 ((((gI σ 66 23) - l_5) + 1) : Int32).toNatClampNeg)) 0) = 0
                          · refine ev_b0 (t := 276) (p' := 276) rfl rfl rfl (if_pos c_30) ?_
                            refine ev_x (i := .iconst 0) (len := 1) (p' := 277) (s' := [.int 0, .ref 66]) rfl rfl rfl ?_
                            refine ev_x (i := .goto 78) (len := 3) (p' := 355) (s' := [.int 0, .ref 66]) rfl rfl rfl ?_
                            exact ev_st (congrArg (fun z => Value.int z :: [.ref 66]) (by rw [if_pos c_30])) J
                          · refine ev_b0 (t := 276) (p' := 272) rfl rfl rfl (if_neg c_30) ?_
                            refine ev_x (i := .iconst 1) (len := 1) (p' := 273) (s' := [.int 1, .ref 66]) rfl rfl rfl ?_
                            refine ev_x (i := .goto 82) (len := 3) (p' := 355) (s' := [.int 1, .ref 66]) rfl rfl rfl ?_
                            exact ev_st (congrArg (fun z => Value.int z :: [.ref 66]) (by rw [if_neg c_30])) J
                      · refine ev_b2 (t := 280) (p' := 280) rfl rfl rfl (if_pos c_29) ?_
                        refine ev_x (i := .iload_n 3) (len := 1) (p' := 281) (s' := [.int l_3, .ref 66]) rfl rfl (ld_i (vg_o2 (i := 7) (v := .long ((gL (p_15.2) 163 (((gI σ 66 23) - l_5) : Int32).toNatClampNeg) - (gL (p_15.2) 163 ((((gI σ 66 23) - l_5) + 1) : Int32).toNatClampNeg))) (vg_o (i := 6) (v := .int ((gI σ 66 23) - l_5)) g_3 (by decide) (Or.inl rfl)) (by decide) (by decide) (Or.inl rfl))) ?_
                        refine ev_x (i := .bipush 21) (len := 2) (p' := 283) (s' := [.int 21, .int l_3, .ref 66]) rfl rfl rfl ?_
                        refine F_jn (A := vz_ev P0 (d + 4) 192 355 (vz_s2 (vz_s1 (lv) 6 (.int ((gI σ 66 23) - l_5))) 7 (.long ((gL (p_15.2) 163 (((gI σ 66 23) - l_5) : Int32).toNatClampNeg) - (gL (p_15.2) 163 ((((gI σ 66 23) - l_5) + 1) : Int32).toNatClampNeg)))) [.int (if l_3 = 21 then (if 0 ≤ (lg_cmp ((gL (p_15.2) 163 (((gI σ 66 23) - l_5) : Int32).toNatClampNeg) - (gL (p_15.2) 163 ((((gI σ 66 23) - l_5) + 1) : Int32).toNatClampNeg)) 0) then 0 else 1) else (if l_3 = 19 then (if 0 < (lg_cmp ((gL (p_15.2) 163 (((gI σ 66 23) - l_5) : Int32).toNatClampNeg) - (gL (p_15.2) 163 ((((gI σ 66 23) - l_5) + 1) : Int32).toNatClampNeg)) 0) then 0 else 1) else (if l_3 = 22 then (if (lg_cmp ((gL (p_15.2) 163 (((gI σ 66 23) - l_5) : Int32).toNatClampNeg) - (gL (p_15.2) 163 ((((gI σ 66 23) - l_5) + 1) : Int32).toNatClampNeg)) 0) ≤ 0 then 0 else 1) else (if (lg_cmp ((gL (p_15.2) 163 (((gI σ 66 23) - l_5) : Int32).toNatClampNeg) - (gL (p_15.2) 163 ((((gI σ 66 23) - l_5) + 1) : Int32).toNatClampNeg)) 0) < 0 then 0 else 1))) : Int32), .ref 66] (hp (p_15.2)) (.inl none, hp p)) ?_ (fun J => ?_)
                        · obtain ⟨p_39, G_39, H⟩ := F_bd H
                          refine ev_cv (d := d + 3) (As := [.int (if l_3 = 21 then (if 0 ≤ (lg_cmp ((gL (p_15.2) 163 (((gI σ 66 23) - l_5) : Int32).toNatClampNeg) - (gL (p_15.2) 163 ((((gI σ 66 23) - l_5) + 1) : Int32).toNatClampNeg)) 0) then 0 else 1) else (if l_3 = 19 then (if 0 < (lg_cmp ((gL (p_15.2) 163 (((gI σ 66 23) - l_5) : Int32).toNatClampNeg) - (gL (p_15.2) 163 ((((gI σ 66 23) - l_5) + 1) : Int32).toNatClampNeg)) 0) then 0 else 1) else (if l_3 = 22 then (if (lg_cmp ((gL (p_15.2) 163 (((gI σ 66 23) - l_5) : Int32).toNatClampNeg) - (gL (p_15.2) 163 ((((gI σ 66 23) - l_5) + 1) : Int32).toNatClampNeg)) 0) ≤ 0 then 0 else 1) else (if (lg_cmp ((gL (p_15.2) 163 (((gI σ 66 23) - l_5) : Int32).toNatClampNeg) - (gL (p_15.2) 163 ((((gI σ 66 23) - l_5) + 1) : Int32).toNatClampNeg)) 0) < 0 then 0 else 1))) : Int32)]) (a := 66) (p' := 358) rfl rfl rfl ly_66 rfl rfl rfl rfl rfl (nb_s2 (nb_s1 hnb rfl) rfl) rfl (F_189_ok (d := d + 1)   G_39) ?_
                          refine ev_st (st' := []) rfl ?_
                          have e_39 := F_189_R G_39
                          refine ev_x (i := .goto 42) (len := 3) (p' := 400) (s' := []) rfl rfl rfl ?_
                          obtain rfl := Option.some.inj H
                          exact ev_vret rfl rfl rfl
                        · by_cases c_32 : l_3 = 21
                          · refine ev_b2 (t := 301) (p' := 286) rfl rfl rfl (if_neg (fun q => q c_32)) ?_
                            refine ev_x (i := .lload 7) (len := 2) (p' := 288) (s' := [.long ((gL (p_15.2) 163 (((gI σ 66 23) - l_5) : Int32).toNatClampNeg) - (gL (p_15.2) 163 ((((gI σ 66 23) - l_5) + 1) : Int32).toNatClampNeg)), .ref 66]) rfl rfl (ld_l (vg_s2 (vz_s1 (lv) 6 (.int ((gI σ 66 23) - l_5))) 7 (.long ((gL (p_15.2) 163 (((gI σ 66 23) - l_5) : Int32).toNatClampNeg) - (gL (p_15.2) 163 ((((gI σ 66 23) - l_5) + 1) : Int32).toNatClampNeg))))) ?_
                            refine ev_x (i := .lconst 0) (len := 1) (p' := 289) (s' := [.long 0, .long ((gL (p_15.2) 163 (((gI σ 66 23) - l_5) : Int32).toNatClampNeg) - (gL (p_15.2) 163 ((((gI σ 66 23) - l_5) + 1) : Int32).toNatClampNeg)), .ref 66]) rfl rfl rfl ?_
                            refine ev_x (i := .lcmp) (len := 1) (p' := 290) (s' := [.int (lg_cmp ((gL (p_15.2) 163 (((gI σ 66 23) - l_5) : Int32).toNatClampNeg) - (gL (p_15.2) 163 ((((gI σ 66 23) - l_5) + 1) : Int32).toNatClampNeg)) 0), .ref 66]) rfl rfl rfl ?_
                            by_cases c_33 : 0 ≤ (lg_cmp ((gL (p_15.2) 163 (((gI σ 66 23) - l_5) : Int32).toNatClampNeg) - (gL (p_15.2) 163 ((((gI σ 66 23) - l_5) + 1) : Int32).toNatClampNeg)) 0)
                            · refine ev_b0 (t := 297) (p' := 297) rfl rfl rfl (if_pos c_33) ?_
                              refine ev_x (i := .iconst 0) (len := 1) (p' := 298) (s' := [.int 0, .ref 66]) rfl rfl rfl ?_
                              refine ev_x (i := .goto 57) (len := 3) (p' := 355) (s' := [.int 0, .ref 66]) rfl rfl rfl ?_
                              exact ev_st (congrArg (fun z => Value.int z :: [.ref 66]) (by rw [if_pos c_32, if_pos c_33])) J
                            · refine ev_b0 (t := 297) (p' := 293) rfl rfl rfl (if_neg c_33) ?_
                              refine ev_x (i := .iconst 1) (len := 1) (p' := 294) (s' := [.int 1, .ref 66]) rfl rfl rfl ?_
                              refine ev_x (i := .goto 61) (len := 3) (p' := 355) (s' := [.int 1, .ref 66]) rfl rfl rfl ?_
                              exact ev_st (congrArg (fun z => Value.int z :: [.ref 66]) (by rw [if_pos c_32, if_neg c_33])) J
                          · refine ev_b2 (t := 301) (p' := 301) rfl rfl rfl (if_pos c_32) ?_
                            refine ev_x (i := .iload_n 3) (len := 1) (p' := 302) (s' := [.int l_3, .ref 66]) rfl rfl (ld_i (vg_o2 (i := 7) (v := .long ((gL (p_15.2) 163 (((gI σ 66 23) - l_5) : Int32).toNatClampNeg) - (gL (p_15.2) 163 ((((gI σ 66 23) - l_5) + 1) : Int32).toNatClampNeg))) (vg_o (i := 6) (v := .int ((gI σ 66 23) - l_5)) g_3 (by decide) (Or.inl rfl)) (by decide) (by decide) (Or.inl rfl))) ?_
                            refine ev_x (i := .bipush 19) (len := 2) (p' := 304) (s' := [.int 19, .int l_3, .ref 66]) rfl rfl rfl ?_
                            by_cases c_34 : l_3 = 19
                            · refine ev_b2 (t := 322) (p' := 307) rfl rfl rfl (if_neg (fun q => q c_34)) ?_
                              refine ev_x (i := .lload 7) (len := 2) (p' := 309) (s' := [.long ((gL (p_15.2) 163 (((gI σ 66 23) - l_5) : Int32).toNatClampNeg) - (gL (p_15.2) 163 ((((gI σ 66 23) - l_5) + 1) : Int32).toNatClampNeg)), .ref 66]) rfl rfl (ld_l (vg_s2 (vz_s1 (lv) 6 (.int ((gI σ 66 23) - l_5))) 7 (.long ((gL (p_15.2) 163 (((gI σ 66 23) - l_5) : Int32).toNatClampNeg) - (gL (p_15.2) 163 ((((gI σ 66 23) - l_5) + 1) : Int32).toNatClampNeg))))) ?_
                              refine ev_x (i := .lconst 0) (len := 1) (p' := 310) (s' := [.long 0, .long ((gL (p_15.2) 163 (((gI σ 66 23) - l_5) : Int32).toNatClampNeg) - (gL (p_15.2) 163 ((((gI σ 66 23) - l_5) + 1) : Int32).toNatClampNeg)), .ref 66]) rfl rfl rfl ?_
                              refine ev_x (i := .lcmp) (len := 1) (p' := 311) (s' := [.int (lg_cmp ((gL (p_15.2) 163 (((gI σ 66 23) - l_5) : Int32).toNatClampNeg) - (gL (p_15.2) 163 ((((gI σ 66 23) - l_5) + 1) : Int32).toNatClampNeg)) 0), .ref 66]) rfl rfl rfl ?_
                              by_cases c_35 : 0 < (lg_cmp ((gL (p_15.2) 163 (((gI σ 66 23) - l_5) : Int32).toNatClampNeg) - (gL (p_15.2) 163 ((((gI σ 66 23) - l_5) + 1) : Int32).toNatClampNeg)) 0)
                              · refine ev_b0 (t := 318) (p' := 318) rfl rfl rfl (if_pos c_35) ?_
                                refine ev_x (i := .iconst 0) (len := 1) (p' := 319) (s' := [.int 0, .ref 66]) rfl rfl rfl ?_
                                refine ev_x (i := .goto 36) (len := 3) (p' := 355) (s' := [.int 0, .ref 66]) rfl rfl rfl ?_
                                exact ev_st (congrArg (fun z => Value.int z :: [.ref 66]) (by rw [if_neg c_32, if_pos c_34, if_pos c_35])) J
                              · refine ev_b0 (t := 318) (p' := 314) rfl rfl rfl (if_neg c_35) ?_
                                refine ev_x (i := .iconst 1) (len := 1) (p' := 315) (s' := [.int 1, .ref 66]) rfl rfl rfl ?_
                                refine ev_x (i := .goto 40) (len := 3) (p' := 355) (s' := [.int 1, .ref 66]) rfl rfl rfl ?_
                                exact ev_st (congrArg (fun z => Value.int z :: [.ref 66]) (by rw [if_neg c_32, if_pos c_34, if_neg c_35])) J
                            · refine ev_b2 (t := 322) (p' := 322) rfl rfl rfl (if_pos c_34) ?_
                              refine ev_x (i := .iload_n 3) (len := 1) (p' := 323) (s' := [.int l_3, .ref 66]) rfl rfl (ld_i (vg_o2 (i := 7) (v := .long ((gL (p_15.2) 163 (((gI σ 66 23) - l_5) : Int32).toNatClampNeg) - (gL (p_15.2) 163 ((((gI σ 66 23) - l_5) + 1) : Int32).toNatClampNeg))) (vg_o (i := 6) (v := .int ((gI σ 66 23) - l_5)) g_3 (by decide) (Or.inl rfl)) (by decide) (by decide) (Or.inl rfl))) ?_
                              refine ev_x (i := .bipush 22) (len := 2) (p' := 325) (s' := [.int 22, .int l_3, .ref 66]) rfl rfl rfl ?_
                              by_cases c_36 : l_3 = 22
                              · refine ev_b2 (t := 343) (p' := 328) rfl rfl rfl (if_neg (fun q => q c_36)) ?_
                                refine ev_x (i := .lload 7) (len := 2) (p' := 330) (s' := [.long ((gL (p_15.2) 163 (((gI σ 66 23) - l_5) : Int32).toNatClampNeg) - (gL (p_15.2) 163 ((((gI σ 66 23) - l_5) + 1) : Int32).toNatClampNeg)), .ref 66]) rfl rfl (ld_l (vg_s2 (vz_s1 (lv) 6 (.int ((gI σ 66 23) - l_5))) 7 (.long ((gL (p_15.2) 163 (((gI σ 66 23) - l_5) : Int32).toNatClampNeg) - (gL (p_15.2) 163 ((((gI σ 66 23) - l_5) + 1) : Int32).toNatClampNeg))))) ?_
                                refine ev_x (i := .lconst 0) (len := 1) (p' := 331) (s' := [.long 0, .long ((gL (p_15.2) 163 (((gI σ 66 23) - l_5) : Int32).toNatClampNeg) - (gL (p_15.2) 163 ((((gI σ 66 23) - l_5) + 1) : Int32).toNatClampNeg)), .ref 66]) rfl rfl rfl ?_
                                refine ev_x (i := .lcmp) (len := 1) (p' := 332) (s' := [.int (lg_cmp ((gL (p_15.2) 163 (((gI σ 66 23) - l_5) : Int32).toNatClampNeg) - (gL (p_15.2) 163 ((((gI σ 66 23) - l_5) + 1) : Int32).toNatClampNeg)) 0), .ref 66]) rfl rfl rfl ?_
                                by_cases c_37 : (lg_cmp ((gL (p_15.2) 163 (((gI σ 66 23) - l_5) : Int32).toNatClampNeg) - (gL (p_15.2) 163 ((((gI σ 66 23) - l_5) + 1) : Int32).toNatClampNeg)) 0) ≤ 0
                                · refine ev_b0 (t := 339) (p' := 339) rfl rfl rfl (if_pos c_37) ?_
                                  refine ev_x (i := .iconst 0) (len := 1) (p' := 340) (s' := [.int 0, .ref 66]) rfl rfl rfl ?_
                                  refine ev_x (i := .goto 15) (len := 3) (p' := 355) (s' := [.int 0, .ref 66]) rfl rfl rfl ?_
                                  exact ev_st (congrArg (fun z => Value.int z :: [.ref 66]) (by rw [if_neg c_32, if_neg c_34, if_pos c_36, if_pos c_37])) J
                                · refine ev_b0 (t := 339) (p' := 335) rfl rfl rfl (if_neg c_37) ?_
                                  refine ev_x (i := .iconst 1) (len := 1) (p' := 336) (s' := [.int 1, .ref 66]) rfl rfl rfl ?_
                                  refine ev_x (i := .goto 19) (len := 3) (p' := 355) (s' := [.int 1, .ref 66]) rfl rfl rfl ?_
                                  exact ev_st (congrArg (fun z => Value.int z :: [.ref 66]) (by rw [if_neg c_32, if_neg c_34, if_pos c_36, if_neg c_37])) J
                              · refine ev_b2 (t := 343) (p' := 343) rfl rfl rfl (if_pos c_36) ?_
                                refine ev_x (i := .lload 7) (len := 2) (p' := 345) (s' := [.long ((gL (p_15.2) 163 (((gI σ 66 23) - l_5) : Int32).toNatClampNeg) - (gL (p_15.2) 163 ((((gI σ 66 23) - l_5) + 1) : Int32).toNatClampNeg)), .ref 66]) rfl rfl (ld_l (vg_s2 (vz_s1 (lv) 6 (.int ((gI σ 66 23) - l_5))) 7 (.long ((gL (p_15.2) 163 (((gI σ 66 23) - l_5) : Int32).toNatClampNeg) - (gL (p_15.2) 163 ((((gI σ 66 23) - l_5) + 1) : Int32).toNatClampNeg))))) ?_
                                refine ev_x (i := .lconst 0) (len := 1) (p' := 346) (s' := [.long 0, .long ((gL (p_15.2) 163 (((gI σ 66 23) - l_5) : Int32).toNatClampNeg) - (gL (p_15.2) 163 ((((gI σ 66 23) - l_5) + 1) : Int32).toNatClampNeg)), .ref 66]) rfl rfl rfl ?_
                                refine ev_x (i := .lcmp) (len := 1) (p' := 347) (s' := [.int (lg_cmp ((gL (p_15.2) 163 (((gI σ 66 23) - l_5) : Int32).toNatClampNeg) - (gL (p_15.2) 163 ((((gI σ 66 23) - l_5) + 1) : Int32).toNatClampNeg)) 0), .ref 66]) rfl rfl rfl ?_
                                by_cases c_38 : (lg_cmp ((gL (p_15.2) 163 (((gI σ 66 23) - l_5) : Int32).toNatClampNeg) - (gL (p_15.2) 163 ((((gI σ 66 23) - l_5) + 1) : Int32).toNatClampNeg)) 0) < 0
                                · refine ev_b0 (t := 354) (p' := 354) rfl rfl rfl (if_pos c_38) ?_
                                  refine ev_x (i := .iconst 0) (len := 1) (p' := 355) (s' := [.int 0, .ref 66]) rfl rfl rfl ?_
                                  exact ev_st (congrArg (fun z => Value.int z :: [.ref 66]) (by rw [if_neg c_32, if_neg c_34, if_neg c_36, if_pos c_38])) J
                                · refine ev_b0 (t := 354) (p' := 350) rfl rfl rfl (if_neg c_38) ?_
                                  refine ev_x (i := .iconst 1) (len := 1) (p' := 351) (s' := [.int 1, .ref 66]) rfl rfl rfl ?_
                                  refine ev_x (i := .goto 4) (len := 3) (p' := 355) (s' := [.int 1, .ref 66]) rfl rfl rfl ?_
                                  exact ev_st (congrArg (fun z => Value.int z :: [.ref 66]) (by rw [if_neg c_32, if_neg c_34, if_neg c_36, if_neg c_38])) J
                  · refine ev_b0 (t := 200) (p' := 200) rfl rfl rfl (if_pos c_23) ?_
                    refine ev_x (i := .aload_n 0) (len := 1) (p' := 201) (s' := [.ref 66]) rfl rfl (ld_a (vg_o (i := 6) (v := .int ((gI σ 66 23) - l_5)) g_0 (by decide) (Or.inl rfl))) ?_
                    refine ev_gc (p' := 204) (v := 163) rfl rfl rfl ly_66 rfl rfl ?_
                    refine ev_x (i := .iload 6) (len := 2) (p' := 206) (s' := [.int ((gI σ 66 23) - l_5), .ref 163]) rfl rfl (ld_i (vg_s (lv) 6 (.int ((gI σ 66 23) - l_5)))) ?_
                    obtain ⟨b_40, H⟩ := F_gd H
                    refine ev_gL (p' := 207) (v := (gL (p_15.2) 163 (((gI σ 66 23) - l_5) : Int32).toNatClampNeg)) rfl rfl ly_163 rfl (gd_in b_40) rfl ?_
                    refine ev_x (i := .aload_n 0) (len := 1) (p' := 208) (s' := [.ref 66, .long (gL (p_15.2) 163 (((gI σ 66 23) - l_5) : Int32).toNatClampNeg)]) rfl rfl (ld_a (vg_o (i := 6) (v := .int ((gI σ 66 23) - l_5)) g_0 (by decide) (Or.inl rfl))) ?_
                    refine ev_gc (p' := 211) (v := 164) rfl rfl rfl ly_66 rfl rfl ?_
                    refine ev_x (i := .iload 6) (len := 2) (p' := 213) (s' := [.int ((gI σ 66 23) - l_5), .ref 164, .long (gL (p_15.2) 163 (((gI σ 66 23) - l_5) : Int32).toNatClampNeg)]) rfl rfl (ld_i (vg_s (lv) 6 (.int ((gI σ 66 23) - l_5)))) ?_
                    refine ev_x (i := .iconst 1) (len := 1) (p' := 214) (s' := [.int 1, .int ((gI σ 66 23) - l_5), .ref 164, .long (gL (p_15.2) 163 (((gI σ 66 23) - l_5) : Int32).toNatClampNeg)]) rfl rfl rfl ?_
                    refine ev_x (i := .iadd) (len := 1) (p' := 215) (s' := [.int (((gI σ 66 23) - l_5) + 1), .ref 164, .long (gL (p_15.2) 163 (((gI σ 66 23) - l_5) : Int32).toNatClampNeg)]) rfl rfl rfl ?_
                    obtain ⟨b_41, H⟩ := F_gd H
                    refine ev_gL (p' := 216) (v := (gL (p_15.2) 164 ((((gI σ 66 23) - l_5) + 1) : Int32).toNatClampNeg)) rfl rfl ly_164 rfl (gd_in b_41) rfl ?_
                    refine ev_x (i := .lmul) (len := 1) (p' := 217) (s' := [.long ((gL (p_15.2) 163 (((gI σ 66 23) - l_5) : Int32).toNatClampNeg) * (gL (p_15.2) 164 ((((gI σ 66 23) - l_5) + 1) : Int32).toNatClampNeg))]) rfl rfl rfl ?_
                    refine ev_x (i := .aload_n 0) (len := 1) (p' := 218) (s' := [.ref 66, .long ((gL (p_15.2) 163 (((gI σ 66 23) - l_5) : Int32).toNatClampNeg) * (gL (p_15.2) 164 ((((gI σ 66 23) - l_5) + 1) : Int32).toNatClampNeg))]) rfl rfl (ld_a (vg_o (i := 6) (v := .int ((gI σ 66 23) - l_5)) g_0 (by decide) (Or.inl rfl))) ?_
                    refine ev_gc (p' := 221) (v := 163) rfl rfl rfl ly_66 rfl rfl ?_
                    refine ev_x (i := .iload 6) (len := 2) (p' := 223) (s' := [.int ((gI σ 66 23) - l_5), .ref 163, .long ((gL (p_15.2) 163 (((gI σ 66 23) - l_5) : Int32).toNatClampNeg) * (gL (p_15.2) 164 ((((gI σ 66 23) - l_5) + 1) : Int32).toNatClampNeg))]) rfl rfl (ld_i (vg_s (lv) 6 (.int ((gI σ 66 23) - l_5)))) ?_
                    refine ev_x (i := .iconst 1) (len := 1) (p' := 224) (s' := [.int 1, .int ((gI σ 66 23) - l_5), .ref 163, .long ((gL (p_15.2) 163 (((gI σ 66 23) - l_5) : Int32).toNatClampNeg) * (gL (p_15.2) 164 ((((gI σ 66 23) - l_5) + 1) : Int32).toNatClampNeg))]) rfl rfl rfl ?_
                    refine ev_x (i := .iadd) (len := 1) (p' := 225) (s' := [.int (((gI σ 66 23) - l_5) + 1), .ref 163, .long ((gL (p_15.2) 163 (((gI σ 66 23) - l_5) : Int32).toNatClampNeg) * (gL (p_15.2) 164 ((((gI σ 66 23) - l_5) + 1) : Int32).toNatClampNeg))]) rfl rfl rfl ?_
                    obtain ⟨b_42, H⟩ := F_gd H
                    refine ev_gL (p' := 226) (v := (gL (p_15.2) 163 ((((gI σ 66 23) - l_5) + 1) : Int32).toNatClampNeg)) rfl rfl ly_163 rfl (gd_in b_42) rfl ?_
                    refine ev_x (i := .aload_n 0) (len := 1) (p' := 227) (s' := [.ref 66, .long (gL (p_15.2) 163 ((((gI σ 66 23) - l_5) + 1) : Int32).toNatClampNeg), .long ((gL (p_15.2) 163 (((gI σ 66 23) - l_5) : Int32).toNatClampNeg) * (gL (p_15.2) 164 ((((gI σ 66 23) - l_5) + 1) : Int32).toNatClampNeg))]) rfl rfl (ld_a (vg_o (i := 6) (v := .int ((gI σ 66 23) - l_5)) g_0 (by decide) (Or.inl rfl))) ?_
                    refine ev_gc (p' := 230) (v := 164) rfl rfl rfl ly_66 rfl rfl ?_
                    refine ev_x (i := .iload 6) (len := 2) (p' := 232) (s' := [.int ((gI σ 66 23) - l_5), .ref 164, .long (gL (p_15.2) 163 ((((gI σ 66 23) - l_5) + 1) : Int32).toNatClampNeg), .long ((gL (p_15.2) 163 (((gI σ 66 23) - l_5) : Int32).toNatClampNeg) * (gL (p_15.2) 164 ((((gI σ 66 23) - l_5) + 1) : Int32).toNatClampNeg))]) rfl rfl (ld_i (vg_s (lv) 6 (.int ((gI σ 66 23) - l_5)))) ?_
                    refine ev_gL (p' := 233) (v := (gL (p_15.2) 164 (((gI σ 66 23) - l_5) : Int32).toNatClampNeg)) rfl rfl ly_164 rfl (gd_in b_22) rfl ?_
                    refine ev_x (i := .lmul) (len := 1) (p' := 234) (s' := [.long ((gL (p_15.2) 163 ((((gI σ 66 23) - l_5) + 1) : Int32).toNatClampNeg) * (gL (p_15.2) 164 (((gI σ 66 23) - l_5) : Int32).toNatClampNeg)), .long ((gL (p_15.2) 163 (((gI σ 66 23) - l_5) : Int32).toNatClampNeg) * (gL (p_15.2) 164 ((((gI σ 66 23) - l_5) + 1) : Int32).toNatClampNeg))]) rfl rfl rfl ?_
                    refine ev_x (i := .lsub) (len := 1) (p' := 235) (s' := [.long (((gL (p_15.2) 163 (((gI σ 66 23) - l_5) : Int32).toNatClampNeg) * (gL (p_15.2) 164 ((((gI σ 66 23) - l_5) + 1) : Int32).toNatClampNeg)) - ((gL (p_15.2) 163 ((((gI σ 66 23) - l_5) + 1) : Int32).toNatClampNeg) * (gL (p_15.2) 164 (((gI σ 66 23) - l_5) : Int32).toNatClampNeg)))]) rfl rfl rfl ?_
                    refine ev_x (i := .lstore 7) (len := 2) (p' := 237) (s' := []) (l' := vz_s2 (vz_s1 (lv) 6 (.int ((gI σ 66 23) - l_5))) 7 (.long (((gL (p_15.2) 163 (((gI σ 66 23) - l_5) : Int32).toNatClampNeg) * (gL (p_15.2) 164 ((((gI σ 66 23) - l_5) + 1) : Int32).toNatClampNeg)) - ((gL (p_15.2) 163 ((((gI σ 66 23) - l_5) + 1) : Int32).toNatClampNeg) * (gL (p_15.2) 164 (((gI σ 66 23) - l_5) : Int32).toNatClampNeg))))) rfl rfl rfl ?_
                    refine ev_x (i := .aload_n 0) (len := 1) (p' := 238) (s' := [.ref 66]) rfl rfl (ld_a (vg_o2 (i := 7) (v := .long (((gL (p_15.2) 163 (((gI σ 66 23) - l_5) : Int32).toNatClampNeg) * (gL (p_15.2) 164 ((((gI σ 66 23) - l_5) + 1) : Int32).toNatClampNeg)) - ((gL (p_15.2) 163 ((((gI σ 66 23) - l_5) + 1) : Int32).toNatClampNeg) * (gL (p_15.2) 164 (((gI σ 66 23) - l_5) : Int32).toNatClampNeg)))) (vg_o (i := 6) (v := .int ((gI σ 66 23) - l_5)) g_0 (by decide) (Or.inl rfl)) (by decide) (by decide) (Or.inl rfl))) ?_
                    refine ev_x (i := .iload_n 3) (len := 1) (p' := 239) (s' := [.int l_3, .ref 66]) rfl rfl (ld_i (vg_o2 (i := 7) (v := .long (((gL (p_15.2) 163 (((gI σ 66 23) - l_5) : Int32).toNatClampNeg) * (gL (p_15.2) 164 ((((gI σ 66 23) - l_5) + 1) : Int32).toNatClampNeg)) - ((gL (p_15.2) 163 ((((gI σ 66 23) - l_5) + 1) : Int32).toNatClampNeg) * (gL (p_15.2) 164 (((gI σ 66 23) - l_5) : Int32).toNatClampNeg)))) (vg_o (i := 6) (v := .int ((gI σ 66 23) - l_5)) g_3 (by decide) (Or.inl rfl)) (by decide) (by decide) (Or.inl rfl))) ?_
                    refine ev_x (i := .bipush 23) (len := 2) (p' := 241) (s' := [.int 23, .int l_3, .ref 66]) rfl rfl rfl ?_
                    refine F_if H (fun c_43 H => ?_) (fun c_43 H => ?_)
                    · refine ev_b2 (t := 259) (p' := 244) rfl rfl rfl (if_neg (fun q => q c_43)) ?_
                      refine ev_x (i := .lload 7) (len := 2) (p' := 246) (s' := [.long (((gL (p_15.2) 163 (((gI σ 66 23) - l_5) : Int32).toNatClampNeg) * (gL (p_15.2) 164 ((((gI σ 66 23) - l_5) + 1) : Int32).toNatClampNeg)) - ((gL (p_15.2) 163 ((((gI σ 66 23) - l_5) + 1) : Int32).toNatClampNeg) * (gL (p_15.2) 164 (((gI σ 66 23) - l_5) : Int32).toNatClampNeg))), .ref 66]) rfl rfl (ld_l (vg_s2 (vz_s1 (lv) 6 (.int ((gI σ 66 23) - l_5))) 7 (.long (((gL (p_15.2) 163 (((gI σ 66 23) - l_5) : Int32).toNatClampNeg) * (gL (p_15.2) 164 ((((gI σ 66 23) - l_5) + 1) : Int32).toNatClampNeg)) - ((gL (p_15.2) 163 ((((gI σ 66 23) - l_5) + 1) : Int32).toNatClampNeg) * (gL (p_15.2) 164 (((gI σ 66 23) - l_5) : Int32).toNatClampNeg)))))) ?_
                      refine ev_x (i := .lconst 0) (len := 1) (p' := 247) (s' := [.long 0, .long (((gL (p_15.2) 163 (((gI σ 66 23) - l_5) : Int32).toNatClampNeg) * (gL (p_15.2) 164 ((((gI σ 66 23) - l_5) + 1) : Int32).toNatClampNeg)) - ((gL (p_15.2) 163 ((((gI σ 66 23) - l_5) + 1) : Int32).toNatClampNeg) * (gL (p_15.2) 164 (((gI σ 66 23) - l_5) : Int32).toNatClampNeg))), .ref 66]) rfl rfl rfl ?_
                      refine ev_x (i := .lcmp) (len := 1) (p' := 248) (s' := [.int (lg_cmp (((gL (p_15.2) 163 (((gI σ 66 23) - l_5) : Int32).toNatClampNeg) * (gL (p_15.2) 164 ((((gI σ 66 23) - l_5) + 1) : Int32).toNatClampNeg)) - ((gL (p_15.2) 163 ((((gI σ 66 23) - l_5) + 1) : Int32).toNatClampNeg) * (gL (p_15.2) 164 (((gI σ 66 23) - l_5) : Int32).toNatClampNeg))) 0), .ref 66]) rfl rfl rfl ?_
                      refine F_jn (A := vz_ev P0 (d + 4) 192 355 (vz_s2 (vz_s1 (lv) 6 (.int ((gI σ 66 23) - l_5))) 7 (.long (((gL (p_15.2) 163 (((gI σ 66 23) - l_5) : Int32).toNatClampNeg) * (gL (p_15.2) 164 ((((gI σ 66 23) - l_5) + 1) : Int32).toNatClampNeg)) - ((gL (p_15.2) 163 ((((gI σ 66 23) - l_5) + 1) : Int32).toNatClampNeg) * (gL (p_15.2) 164 (((gI σ 66 23) - l_5) : Int32).toNatClampNeg))))) [.int (if (lg_cmp (((gL (p_15.2) 163 (((gI σ 66 23) - l_5) : Int32).toNatClampNeg) * (gL (p_15.2) 164 ((((gI σ 66 23) - l_5) + 1) : Int32).toNatClampNeg)) - ((gL (p_15.2) 163 ((((gI σ 66 23) - l_5) + 1) : Int32).toNatClampNeg) * (gL (p_15.2) 164 (((gI σ 66 23) - l_5) : Int32).toNatClampNeg))) 0) = 0 then 1 else 0 : Int32), .ref 66] (hp (p_15.2)) (.inl none, hp p)) ?_ (fun J => ?_)
                      · obtain ⟨p_45, G_45, H⟩ := F_bd H
                        refine ev_cv (d := d + 3) (As := [.int (if (lg_cmp (((gL (p_15.2) 163 (((gI σ 66 23) - l_5) : Int32).toNatClampNeg) * (gL (p_15.2) 164 ((((gI σ 66 23) - l_5) + 1) : Int32).toNatClampNeg)) - ((gL (p_15.2) 163 ((((gI σ 66 23) - l_5) + 1) : Int32).toNatClampNeg) * (gL (p_15.2) 164 (((gI σ 66 23) - l_5) : Int32).toNatClampNeg))) 0) = 0 then 1 else 0 : Int32)]) (a := 66) (p' := 358) rfl rfl rfl ly_66 rfl rfl rfl rfl rfl (nb_s2 (nb_s1 hnb rfl) rfl) rfl (F_189_ok (d := d + 1)   G_45) ?_
                        refine ev_st (st' := []) rfl ?_
                        have e_45 := F_189_R G_45
                        refine ev_x (i := .goto 42) (len := 3) (p' := 400) (s' := []) rfl rfl rfl ?_
                        obtain rfl := Option.some.inj H
                        exact ev_vret rfl rfl rfl
                      · by_cases c_44 : (lg_cmp (((gL (p_15.2) 163 (((gI σ 66 23) - l_5) : Int32).toNatClampNeg) * (gL (p_15.2) 164 ((((gI σ 66 23) - l_5) + 1) : Int32).toNatClampNeg)) - ((gL (p_15.2) 163 ((((gI σ 66 23) - l_5) + 1) : Int32).toNatClampNeg) * (gL (p_15.2) 164 (((gI σ 66 23) - l_5) : Int32).toNatClampNeg))) 0) = 0
                        · refine ev_b0 (t := 255) (p' := 251) rfl rfl rfl (if_neg (fun q => q c_44)) ?_
                          refine ev_x (i := .iconst 1) (len := 1) (p' := 252) (s' := [.int 1, .ref 66]) rfl rfl rfl ?_
                          refine ev_x (i := .goto 103) (len := 3) (p' := 355) (s' := [.int 1, .ref 66]) rfl rfl rfl ?_
                          exact ev_st (congrArg (fun z => Value.int z :: [.ref 66]) (by rw [if_pos c_44])) J
                        · refine ev_b0 (t := 255) (p' := 255) rfl rfl rfl (if_pos c_44) ?_
                          refine ev_x (i := .iconst 0) (len := 1) (p' := 256) (s' := [.int 0, .ref 66]) rfl rfl rfl ?_
                          refine ev_x (i := .goto 99) (len := 3) (p' := 355) (s' := [.int 0, .ref 66]) rfl rfl rfl ?_
                          exact ev_st (congrArg (fun z => Value.int z :: [.ref 66]) (by rw [if_neg c_44])) J
                    · refine ev_b2 (t := 259) (p' := 259) rfl rfl rfl (if_pos c_43) ?_
                      refine ev_x (i := .iload_n 3) (len := 1) (p' := 260) (s' := [.int l_3, .ref 66]) rfl rfl (ld_i (vg_o2 (i := 7) (v := .long (((gL (p_15.2) 163 (((gI σ 66 23) - l_5) : Int32).toNatClampNeg) * (gL (p_15.2) 164 ((((gI σ 66 23) - l_5) + 1) : Int32).toNatClampNeg)) - ((gL (p_15.2) 163 ((((gI σ 66 23) - l_5) + 1) : Int32).toNatClampNeg) * (gL (p_15.2) 164 (((gI σ 66 23) - l_5) : Int32).toNatClampNeg)))) (vg_o (i := 6) (v := .int ((gI σ 66 23) - l_5)) g_3 (by decide) (Or.inl rfl)) (by decide) (by decide) (Or.inl rfl))) ?_
                      refine ev_x (i := .bipush 18) (len := 2) (p' := 262) (s' := [.int 18, .int l_3, .ref 66]) rfl rfl rfl ?_
                      refine F_if H (fun c_46 H => ?_) (fun c_46 H => ?_)
                      · refine ev_b2 (t := 280) (p' := 265) rfl rfl rfl (if_neg (fun q => q c_46)) ?_
                        refine ev_x (i := .lload 7) (len := 2) (p' := 267) (s' := [.long (((gL (p_15.2) 163 (((gI σ 66 23) - l_5) : Int32).toNatClampNeg) * (gL (p_15.2) 164 ((((gI σ 66 23) - l_5) + 1) : Int32).toNatClampNeg)) - ((gL (p_15.2) 163 ((((gI σ 66 23) - l_5) + 1) : Int32).toNatClampNeg) * (gL (p_15.2) 164 (((gI σ 66 23) - l_5) : Int32).toNatClampNeg))), .ref 66]) rfl rfl (ld_l (vg_s2 (vz_s1 (lv) 6 (.int ((gI σ 66 23) - l_5))) 7 (.long (((gL (p_15.2) 163 (((gI σ 66 23) - l_5) : Int32).toNatClampNeg) * (gL (p_15.2) 164 ((((gI σ 66 23) - l_5) + 1) : Int32).toNatClampNeg)) - ((gL (p_15.2) 163 ((((gI σ 66 23) - l_5) + 1) : Int32).toNatClampNeg) * (gL (p_15.2) 164 (((gI σ 66 23) - l_5) : Int32).toNatClampNeg)))))) ?_
                        refine ev_x (i := .lconst 0) (len := 1) (p' := 268) (s' := [.long 0, .long (((gL (p_15.2) 163 (((gI σ 66 23) - l_5) : Int32).toNatClampNeg) * (gL (p_15.2) 164 ((((gI σ 66 23) - l_5) + 1) : Int32).toNatClampNeg)) - ((gL (p_15.2) 163 ((((gI σ 66 23) - l_5) + 1) : Int32).toNatClampNeg) * (gL (p_15.2) 164 (((gI σ 66 23) - l_5) : Int32).toNatClampNeg))), .ref 66]) rfl rfl rfl ?_
                        refine ev_x (i := .lcmp) (len := 1) (p' := 269) (s' := [.int (lg_cmp (((gL (p_15.2) 163 (((gI σ 66 23) - l_5) : Int32).toNatClampNeg) * (gL (p_15.2) 164 ((((gI σ 66 23) - l_5) + 1) : Int32).toNatClampNeg)) - ((gL (p_15.2) 163 ((((gI σ 66 23) - l_5) + 1) : Int32).toNatClampNeg) * (gL (p_15.2) 164 (((gI σ 66 23) - l_5) : Int32).toNatClampNeg))) 0), .ref 66]) rfl rfl rfl ?_
                        refine F_jn (A := vz_ev P0 (d + 4) 192 355 (vz_s2 (vz_s1 (lv) 6 (.int ((gI σ 66 23) - l_5))) 7 (.long (((gL (p_15.2) 163 (((gI σ 66 23) - l_5) : Int32).toNatClampNeg) * (gL (p_15.2) 164 ((((gI σ 66 23) - l_5) + 1) : Int32).toNatClampNeg)) - ((gL (p_15.2) 163 ((((gI σ 66 23) - l_5) + 1) : Int32).toNatClampNeg) * (gL (p_15.2) 164 (((gI σ 66 23) - l_5) : Int32).toNatClampNeg))))) [.int (if (lg_cmp (((gL (p_15.2) 163 (((gI σ 66 23) - l_5) : Int32).toNatClampNeg) * (gL (p_15.2) 164 ((((gI σ 66 23) - l_5) + 1) : Int32).toNatClampNeg)) - ((gL (p_15.2) 163 ((((gI σ 66 23) - l_5) + 1) : Int32).toNatClampNeg) * (gL (p_15.2) 164 (((gI σ 66 23) - l_5) : Int32).toNatClampNeg))) 0) = 0 then 0 else 1 : Int32), .ref 66] (hp (p_15.2)) (.inl none, hp p)) ?_ (fun J => ?_)
                        · obtain ⟨p_48, G_48, H⟩ := F_bd H
                          refine ev_cv (d := d + 3) (As := [.int (if (lg_cmp (((gL (p_15.2) 163 (((gI σ 66 23) - l_5) : Int32).toNatClampNeg) * (gL (p_15.2) 164 ((((gI σ 66 23) - l_5) + 1) : Int32).toNatClampNeg)) - ((gL (p_15.2) 163 ((((gI σ 66 23) - l_5) + 1) : Int32).toNatClampNeg) * (gL (p_15.2) 164 (((gI σ 66 23) - l_5) : Int32).toNatClampNeg))) 0) = 0 then 0 else 1 : Int32)]) (a := 66) (p' := 358) rfl rfl rfl ly_66 rfl rfl rfl rfl rfl (nb_s2 (nb_s1 hnb rfl) rfl) rfl (F_189_ok (d := d + 1)   G_48) ?_
                          refine ev_st (st' := []) rfl ?_
                          have e_48 := F_189_R G_48
                          refine ev_x (i := .goto 42) (len := 3) (p' := 400) (s' := []) rfl rfl rfl ?_
                          obtain rfl := Option.some.inj H
                          exact ev_vret rfl rfl rfl
                        · by_cases c_47 : (lg_cmp (((gL (p_15.2) 163 (((gI σ 66 23) - l_5) : Int32).toNatClampNeg) * (gL (p_15.2) 164 ((((gI σ 66 23) - l_5) + 1) : Int32).toNatClampNeg)) - ((gL (p_15.2) 163 ((((gI σ 66 23) - l_5) + 1) : Int32).toNatClampNeg) * (gL (p_15.2) 164 (((gI σ 66 23) - l_5) : Int32).toNatClampNeg))) 0) = 0
                          · refine ev_b0 (t := 276) (p' := 276) rfl rfl rfl (if_pos c_47) ?_
                            refine ev_x (i := .iconst 0) (len := 1) (p' := 277) (s' := [.int 0, .ref 66]) rfl rfl rfl ?_
                            refine ev_x (i := .goto 78) (len := 3) (p' := 355) (s' := [.int 0, .ref 66]) rfl rfl rfl ?_
                            exact ev_st (congrArg (fun z => Value.int z :: [.ref 66]) (by rw [if_pos c_47])) J
                          · refine ev_b0 (t := 276) (p' := 272) rfl rfl rfl (if_neg c_47) ?_
                            refine ev_x (i := .iconst 1) (len := 1) (p' := 273) (s' := [.int 1, .ref 66]) rfl rfl rfl ?_
                            refine ev_x (i := .goto 82) (len := 3) (p' := 355) (s' := [.int 1, .ref 66]) rfl rfl rfl ?_
                            exact ev_st (congrArg (fun z => Value.int z :: [.ref 66]) (by rw [if_neg c_47])) J
                      · refine ev_b2 (t := 280) (p' := 280) rfl rfl rfl (if_pos c_46) ?_
                        refine ev_x (i := .iload_n 3) (len := 1) (p' := 281) (s' := [.int l_3, .ref 66]) rfl rfl (ld_i (vg_o2 (i := 7) (v := .long (((gL (p_15.2) 163 (((gI σ 66 23) - l_5) : Int32).toNatClampNeg) * (gL (p_15.2) 164 ((((gI σ 66 23) - l_5) + 1) : Int32).toNatClampNeg)) - ((gL (p_15.2) 163 ((((gI σ 66 23) - l_5) + 1) : Int32).toNatClampNeg) * (gL (p_15.2) 164 (((gI σ 66 23) - l_5) : Int32).toNatClampNeg)))) (vg_o (i := 6) (v := .int ((gI σ 66 23) - l_5)) g_3 (by decide) (Or.inl rfl)) (by decide) (by decide) (Or.inl rfl))) ?_
                        refine ev_x (i := .bipush 21) (len := 2) (p' := 283) (s' := [.int 21, .int l_3, .ref 66]) rfl rfl rfl ?_
                        refine F_jn (A := vz_ev P0 (d + 4) 192 355 (vz_s2 (vz_s1 (lv) 6 (.int ((gI σ 66 23) - l_5))) 7 (.long (((gL (p_15.2) 163 (((gI σ 66 23) - l_5) : Int32).toNatClampNeg) * (gL (p_15.2) 164 ((((gI σ 66 23) - l_5) + 1) : Int32).toNatClampNeg)) - ((gL (p_15.2) 163 ((((gI σ 66 23) - l_5) + 1) : Int32).toNatClampNeg) * (gL (p_15.2) 164 (((gI σ 66 23) - l_5) : Int32).toNatClampNeg))))) [.int (if l_3 = 21 then (if 0 ≤ (lg_cmp (((gL (p_15.2) 163 (((gI σ 66 23) - l_5) : Int32).toNatClampNeg) * (gL (p_15.2) 164 ((((gI σ 66 23) - l_5) + 1) : Int32).toNatClampNeg)) - ((gL (p_15.2) 163 ((((gI σ 66 23) - l_5) + 1) : Int32).toNatClampNeg) * (gL (p_15.2) 164 (((gI σ 66 23) - l_5) : Int32).toNatClampNeg))) 0) then 0 else 1) else (if l_3 = 19 then (if 0 < (lg_cmp (((gL (p_15.2) 163 (((gI σ 66 23) - l_5) : Int32).toNatClampNeg) * (gL (p_15.2) 164 ((((gI σ 66 23) - l_5) + 1) : Int32).toNatClampNeg)) - ((gL (p_15.2) 163 ((((gI σ 66 23) - l_5) + 1) : Int32).toNatClampNeg) * (gL (p_15.2) 164 (((gI σ 66 23) - l_5) : Int32).toNatClampNeg))) 0) then 0 else 1) else (if l_3 = 22 then (if (lg_cmp (((gL (p_15.2) 163 (((gI σ 66 23) - l_5) : Int32).toNatClampNeg) * (gL (p_15.2) 164 ((((gI σ 66 23) - l_5) + 1) : Int32).toNatClampNeg)) - ((gL (p_15.2) 163 ((((gI σ 66 23) - l_5) + 1) : Int32).toNatClampNeg) * (gL (p_15.2) 164 (((gI σ 66 23) - l_5) : Int32).toNatClampNeg))) 0) ≤ 0 then 0 else 1) else (if (lg_cmp (((gL (p_15.2) 163 (((gI σ 66 23) - l_5) : Int32).toNatClampNeg) * (gL (p_15.2) 164 ((((gI σ 66 23) - l_5) + 1) : Int32).toNatClampNeg)) - ((gL (p_15.2) 163 ((((gI σ 66 23) - l_5) + 1) : Int32).toNatClampNeg) * (gL (p_15.2) 164 (((gI σ 66 23) - l_5) : Int32).toNatClampNeg))) 0) < 0 then 0 else 1))) : Int32), .ref 66] (hp (p_15.2)) (.inl none, hp p)) ?_ (fun J => ?_)
                        · obtain ⟨p_56, G_56, H⟩ := F_bd H
                          refine ev_cv (d := d + 3) (As := [.int (if l_3 = 21 then (if 0 ≤ (lg_cmp (((gL (p_15.2) 163 (((gI σ 66 23) - l_5) : Int32).toNatClampNeg) * (gL (p_15.2) 164 ((((gI σ 66 23) - l_5) + 1) : Int32).toNatClampNeg)) - ((gL (p_15.2) 163 ((((gI σ 66 23) - l_5) + 1) : Int32).toNatClampNeg) * (gL (p_15.2) 164 (((gI σ 66 23) - l_5) : Int32).toNatClampNeg))) 0) then 0 else 1) else (if l_3 = 19 then (if 0 < (lg_cmp (((gL (p_15.2) 163 (((gI σ 66 23) - l_5) : Int32).toNatClampNeg) * (gL (p_15.2) 164 ((((gI σ 66 23) - l_5) + 1) : Int32).toNatClampNeg)) - ((gL (p_15.2) 163 ((((gI σ 66 23) - l_5) + 1) : Int32).toNatClampNeg) * (gL (p_15.2) 164 (((gI σ 66 23) - l_5) : Int32).toNatClampNeg))) 0) then 0 else 1) else (if l_3 = 22 then (if (lg_cmp (((gL (p_15.2) 163 (((gI σ 66 23) - l_5) : Int32).toNatClampNeg) * (gL (p_15.2) 164 ((((gI σ 66 23) - l_5) + 1) : Int32).toNatClampNeg)) - ((gL (p_15.2) 163 ((((gI σ 66 23) - l_5) + 1) : Int32).toNatClampNeg) * (gL (p_15.2) 164 (((gI σ 66 23) - l_5) : Int32).toNatClampNeg))) 0) ≤ 0 then 0 else 1) else (if (lg_cmp (((gL (p_15.2) 163 (((gI σ 66 23) - l_5) : Int32).toNatClampNeg) * (gL (p_15.2) 164 ((((gI σ 66 23) - l_5) + 1) : Int32).toNatClampNeg)) - ((gL (p_15.2) 163 ((((gI σ 66 23) - l_5) + 1) : Int32).toNatClampNeg) * (gL (p_15.2) 164 (((gI σ 66 23) - l_5) : Int32).toNatClampNeg))) 0) < 0 then 0 else 1))) : Int32)]) (a := 66) (p' := 358) rfl rfl rfl ly_66 rfl rfl rfl rfl rfl (nb_s2 (nb_s1 hnb rfl) rfl) rfl (F_189_ok (d := d + 1)   G_56) ?_
                          refine ev_st (st' := []) rfl ?_
                          have e_56 := F_189_R G_56
                          refine ev_x (i := .goto 42) (len := 3) (p' := 400) (s' := []) rfl rfl rfl ?_
                          obtain rfl := Option.some.inj H
                          exact ev_vret rfl rfl rfl
                        · by_cases c_49 : l_3 = 21
                          · refine ev_b2 (t := 301) (p' := 286) rfl rfl rfl (if_neg (fun q => q c_49)) ?_
                            refine ev_x (i := .lload 7) (len := 2) (p' := 288) (s' := [.long (((gL (p_15.2) 163 (((gI σ 66 23) - l_5) : Int32).toNatClampNeg) * (gL (p_15.2) 164 ((((gI σ 66 23) - l_5) + 1) : Int32).toNatClampNeg)) - ((gL (p_15.2) 163 ((((gI σ 66 23) - l_5) + 1) : Int32).toNatClampNeg) * (gL (p_15.2) 164 (((gI σ 66 23) - l_5) : Int32).toNatClampNeg))), .ref 66]) rfl rfl (ld_l (vg_s2 (vz_s1 (lv) 6 (.int ((gI σ 66 23) - l_5))) 7 (.long (((gL (p_15.2) 163 (((gI σ 66 23) - l_5) : Int32).toNatClampNeg) * (gL (p_15.2) 164 ((((gI σ 66 23) - l_5) + 1) : Int32).toNatClampNeg)) - ((gL (p_15.2) 163 ((((gI σ 66 23) - l_5) + 1) : Int32).toNatClampNeg) * (gL (p_15.2) 164 (((gI σ 66 23) - l_5) : Int32).toNatClampNeg)))))) ?_
                            refine ev_x (i := .lconst 0) (len := 1) (p' := 289) (s' := [.long 0, .long (((gL (p_15.2) 163 (((gI σ 66 23) - l_5) : Int32).toNatClampNeg) * (gL (p_15.2) 164 ((((gI σ 66 23) - l_5) + 1) : Int32).toNatClampNeg)) - ((gL (p_15.2) 163 ((((gI σ 66 23) - l_5) + 1) : Int32).toNatClampNeg) * (gL (p_15.2) 164 (((gI σ 66 23) - l_5) : Int32).toNatClampNeg))), .ref 66]) rfl rfl rfl ?_
                            refine ev_x (i := .lcmp) (len := 1) (p' := 290) (s' := [.int (lg_cmp (((gL (p_15.2) 163 (((gI σ 66 23) - l_5) : Int32).toNatClampNeg) * (gL (p_15.2) 164 ((((gI σ 66 23) - l_5) + 1) : Int32).toNatClampNeg)) - ((gL (p_15.2) 163 ((((gI σ 66 23) - l_5) + 1) : Int32).toNatClampNeg) * (gL (p_15.2) 164 (((gI σ 66 23) - l_5) : Int32).toNatClampNeg))) 0), .ref 66]) rfl rfl rfl ?_
                            by_cases c_50 : 0 ≤ (lg_cmp (((gL (p_15.2) 163 (((gI σ 66 23) - l_5) : Int32).toNatClampNeg) * (gL (p_15.2) 164 ((((gI σ 66 23) - l_5) + 1) : Int32).toNatClampNeg)) - ((gL (p_15.2) 163 ((((gI σ 66 23) - l_5) + 1) : Int32).toNatClampNeg) * (gL (p_15.2) 164 (((gI σ 66 23) - l_5) : Int32).toNatClampNeg))) 0)
                            · refine ev_b0 (t := 297) (p' := 297) rfl rfl rfl (if_pos c_50) ?_
                              refine ev_x (i := .iconst 0) (len := 1) (p' := 298) (s' := [.int 0, .ref 66]) rfl rfl rfl ?_
                              refine ev_x (i := .goto 57) (len := 3) (p' := 355) (s' := [.int 0, .ref 66]) rfl rfl rfl ?_
                              exact ev_st (congrArg (fun z => Value.int z :: [.ref 66]) (by rw [if_pos c_49, if_pos c_50])) J
                            · refine ev_b0 (t := 297) (p' := 293) rfl rfl rfl (if_neg c_50) ?_
                              refine ev_x (i := .iconst 1) (len := 1) (p' := 294) (s' := [.int 1, .ref 66]) rfl rfl rfl ?_
                              refine ev_x (i := .goto 61) (len := 3) (p' := 355) (s' := [.int 1, .ref 66]) rfl rfl rfl ?_
                              exact ev_st (congrArg (fun z => Value.int z :: [.ref 66]) (by rw [if_pos c_49, if_neg c_50])) J
                          · refine ev_b2 (t := 301) (p' := 301) rfl rfl rfl (if_pos c_49) ?_
                            refine ev_x (i := .iload_n 3) (len := 1) (p' := 302) (s' := [.int l_3, .ref 66]) rfl rfl (ld_i (vg_o2 (i := 7) (v := .long (((gL (p_15.2) 163 (((gI σ 66 23) - l_5) : Int32).toNatClampNeg) * (gL (p_15.2) 164 ((((gI σ 66 23) - l_5) + 1) : Int32).toNatClampNeg)) - ((gL (p_15.2) 163 ((((gI σ 66 23) - l_5) + 1) : Int32).toNatClampNeg) * (gL (p_15.2) 164 (((gI σ 66 23) - l_5) : Int32).toNatClampNeg)))) (vg_o (i := 6) (v := .int ((gI σ 66 23) - l_5)) g_3 (by decide) (Or.inl rfl)) (by decide) (by decide) (Or.inl rfl))) ?_
                            refine ev_x (i := .bipush 19) (len := 2) (p' := 304) (s' := [.int 19, .int l_3, .ref 66]) rfl rfl rfl ?_
                            by_cases c_51 : l_3 = 19
                            · refine ev_b2 (t := 322) (p' := 307) rfl rfl rfl (if_neg (fun q => q c_51)) ?_
                              refine ev_x (i := .lload 7) (len := 2) (p' := 309) (s' := [.long (((gL (p_15.2) 163 (((gI σ 66 23) - l_5) : Int32).toNatClampNeg) * (gL (p_15.2) 164 ((((gI σ 66 23) - l_5) + 1) : Int32).toNatClampNeg)) - ((gL (p_15.2) 163 ((((gI σ 66 23) - l_5) + 1) : Int32).toNatClampNeg) * (gL (p_15.2) 164 (((gI σ 66 23) - l_5) : Int32).toNatClampNeg))), .ref 66]) rfl rfl (ld_l (vg_s2 (vz_s1 (lv) 6 (.int ((gI σ 66 23) - l_5))) 7 (.long (((gL (p_15.2) 163 (((gI σ 66 23) - l_5) : Int32).toNatClampNeg) * (gL (p_15.2) 164 ((((gI σ 66 23) - l_5) + 1) : Int32).toNatClampNeg)) - ((gL (p_15.2) 163 ((((gI σ 66 23) - l_5) + 1) : Int32).toNatClampNeg) * (gL (p_15.2) 164 (((gI σ 66 23) - l_5) : Int32).toNatClampNeg)))))) ?_
                              refine ev_x (i := .lconst 0) (len := 1) (p' := 310) (s' := [.long 0, .long (((gL (p_15.2) 163 (((gI σ 66 23) - l_5) : Int32).toNatClampNeg) * (gL (p_15.2) 164 ((((gI σ 66 23) - l_5) + 1) : Int32).toNatClampNeg)) - ((gL (p_15.2) 163 ((((gI σ 66 23) - l_5) + 1) : Int32).toNatClampNeg) * (gL (p_15.2) 164 (((gI σ 66 23) - l_5) : Int32).toNatClampNeg))), .ref 66]) rfl rfl rfl ?_
                              refine ev_x (i := .lcmp) (len := 1) (p' := 311) (s' := [.int (lg_cmp (((gL (p_15.2) 163 (((gI σ 66 23) - l_5) : Int32).toNatClampNeg) * (gL (p_15.2) 164 ((((gI σ 66 23) - l_5) + 1) : Int32).toNatClampNeg)) - ((gL (p_15.2) 163 ((((gI σ 66 23) - l_5) + 1) : Int32).toNatClampNeg) * (gL (p_15.2) 164 (((gI σ 66 23) - l_5) : Int32).toNatClampNeg))) 0), .ref 66]) rfl rfl rfl ?_
                              by_cases c_52 : 0 < (lg_cmp (((gL (p_15.2) 163 (((gI σ 66 23) - l_5) : Int32).toNatClampNeg) * (gL (p_15.2) 164 ((((gI σ 66 23) - l_5) + 1) : Int32).toNatClampNeg)) - ((gL (p_15.2) 163 ((((gI σ 66 23) - l_5) + 1) : Int32).toNatClampNeg) * (gL (p_15.2) 164 (((gI σ 66 23) - l_5) : Int32).toNatClampNeg))) 0)
                              · refine ev_b0 (t := 318) (p' := 318) rfl rfl rfl (if_pos c_52) ?_
                                refine ev_x (i := .iconst 0) (len := 1) (p' := 319) (s' := [.int 0, .ref 66]) rfl rfl rfl ?_
                                refine ev_x (i := .goto 36) (len := 3) (p' := 355) (s' := [.int 0, .ref 66]) rfl rfl rfl ?_
                                exact ev_st (congrArg (fun z => Value.int z :: [.ref 66]) (by rw [if_neg c_49, if_pos c_51, if_pos c_52])) J
                              · refine ev_b0 (t := 318) (p' := 314) rfl rfl rfl (if_neg c_52) ?_
                                refine ev_x (i := .iconst 1) (len := 1) (p' := 315) (s' := [.int 1, .ref 66]) rfl rfl rfl ?_
                                refine ev_x (i := .goto 40) (len := 3) (p' := 355) (s' := [.int 1, .ref 66]) rfl rfl rfl ?_
                                exact ev_st (congrArg (fun z => Value.int z :: [.ref 66]) (by rw [if_neg c_49, if_pos c_51, if_neg c_52])) J
                            · refine ev_b2 (t := 322) (p' := 322) rfl rfl rfl (if_pos c_51) ?_
                              refine ev_x (i := .iload_n 3) (len := 1) (p' := 323) (s' := [.int l_3, .ref 66]) rfl rfl (ld_i (vg_o2 (i := 7) (v := .long (((gL (p_15.2) 163 (((gI σ 66 23) - l_5) : Int32).toNatClampNeg) * (gL (p_15.2) 164 ((((gI σ 66 23) - l_5) + 1) : Int32).toNatClampNeg)) - ((gL (p_15.2) 163 ((((gI σ 66 23) - l_5) + 1) : Int32).toNatClampNeg) * (gL (p_15.2) 164 (((gI σ 66 23) - l_5) : Int32).toNatClampNeg)))) (vg_o (i := 6) (v := .int ((gI σ 66 23) - l_5)) g_3 (by decide) (Or.inl rfl)) (by decide) (by decide) (Or.inl rfl))) ?_
                              refine ev_x (i := .bipush 22) (len := 2) (p' := 325) (s' := [.int 22, .int l_3, .ref 66]) rfl rfl rfl ?_
                              by_cases c_53 : l_3 = 22
                              · refine ev_b2 (t := 343) (p' := 328) rfl rfl rfl (if_neg (fun q => q c_53)) ?_
                                refine ev_x (i := .lload 7) (len := 2) (p' := 330) (s' := [.long (((gL (p_15.2) 163 (((gI σ 66 23) - l_5) : Int32).toNatClampNeg) * (gL (p_15.2) 164 ((((gI σ 66 23) - l_5) + 1) : Int32).toNatClampNeg)) - ((gL (p_15.2) 163 ((((gI σ 66 23) - l_5) + 1) : Int32).toNatClampNeg) * (gL (p_15.2) 164 (((gI σ 66 23) - l_5) : Int32).toNatClampNeg))), .ref 66]) rfl rfl (ld_l (vg_s2 (vz_s1 (lv) 6 (.int ((gI σ 66 23) - l_5))) 7 (.long (((gL (p_15.2) 163 (((gI σ 66 23) - l_5) : Int32).toNatClampNeg) * (gL (p_15.2) 164 ((((gI σ 66 23) - l_5) + 1) : Int32).toNatClampNeg)) - ((gL (p_15.2) 163 ((((gI σ 66 23) - l_5) + 1) : Int32).toNatClampNeg) * (gL (p_15.2) 164 (((gI σ 66 23) - l_5) : Int32).toNatClampNeg)))))) ?_
                                refine ev_x (i := .lconst 0) (len := 1) (p' := 331) (s' := [.long 0, .long (((gL (p_15.2) 163 (((gI σ 66 23) - l_5) : Int32).toNatClampNeg) * (gL (p_15.2) 164 ((((gI σ 66 23) - l_5) + 1) : Int32).toNatClampNeg)) - ((gL (p_15.2) 163 ((((gI σ 66 23) - l_5) + 1) : Int32).toNatClampNeg) * (gL (p_15.2) 164 (((gI σ 66 23) - l_5) : Int32).toNatClampNeg))), .ref 66]) rfl rfl rfl ?_
                                refine ev_x (i := .lcmp) (len := 1) (p' := 332) (s' := [.int (lg_cmp (((gL (p_15.2) 163 (((gI σ 66 23) - l_5) : Int32).toNatClampNeg) * (gL (p_15.2) 164 ((((gI σ 66 23) - l_5) + 1) : Int32).toNatClampNeg)) - ((gL (p_15.2) 163 ((((gI σ 66 23) - l_5) + 1) : Int32).toNatClampNeg) * (gL (p_15.2) 164 (((gI σ 66 23) - l_5) : Int32).toNatClampNeg))) 0), .ref 66]) rfl rfl rfl ?_
                                by_cases c_54 : (lg_cmp (((gL (p_15.2) 163 (((gI σ 66 23) - l_5) : Int32).toNatClampNeg) * (gL (p_15.2) 164 ((((gI σ 66 23) - l_5) + 1) : Int32).toNatClampNeg)) - ((gL (p_15.2) 163 ((((gI σ 66 23) - l_5) + 1) : Int32).toNatClampNeg) * (gL (p_15.2) 164 (((gI σ 66 23) - l_5) : Int32).toNatClampNeg))) 0) ≤ 0
                                · refine ev_b0 (t := 339) (p' := 339) rfl rfl rfl (if_pos c_54) ?_
                                  refine ev_x (i := .iconst 0) (len := 1) (p' := 340) (s' := [.int 0, .ref 66]) rfl rfl rfl ?_
                                  refine ev_x (i := .goto 15) (len := 3) (p' := 355) (s' := [.int 0, .ref 66]) rfl rfl rfl ?_
                                  exact ev_st (congrArg (fun z => Value.int z :: [.ref 66]) (by rw [if_neg c_49, if_neg c_51, if_pos c_53, if_pos c_54])) J
                                · refine ev_b0 (t := 339) (p' := 335) rfl rfl rfl (if_neg c_54) ?_
                                  refine ev_x (i := .iconst 1) (len := 1) (p' := 336) (s' := [.int 1, .ref 66]) rfl rfl rfl ?_
                                  refine ev_x (i := .goto 19) (len := 3) (p' := 355) (s' := [.int 1, .ref 66]) rfl rfl rfl ?_
                                  exact ev_st (congrArg (fun z => Value.int z :: [.ref 66]) (by rw [if_neg c_49, if_neg c_51, if_pos c_53, if_neg c_54])) J
                              · refine ev_b2 (t := 343) (p' := 343) rfl rfl rfl (if_pos c_53) ?_
                                refine ev_x (i := .lload 7) (len := 2) (p' := 345) (s' := [.long (((gL (p_15.2) 163 (((gI σ 66 23) - l_5) : Int32).toNatClampNeg) * (gL (p_15.2) 164 ((((gI σ 66 23) - l_5) + 1) : Int32).toNatClampNeg)) - ((gL (p_15.2) 163 ((((gI σ 66 23) - l_5) + 1) : Int32).toNatClampNeg) * (gL (p_15.2) 164 (((gI σ 66 23) - l_5) : Int32).toNatClampNeg))), .ref 66]) rfl rfl (ld_l (vg_s2 (vz_s1 (lv) 6 (.int ((gI σ 66 23) - l_5))) 7 (.long (((gL (p_15.2) 163 (((gI σ 66 23) - l_5) : Int32).toNatClampNeg) * (gL (p_15.2) 164 ((((gI σ 66 23) - l_5) + 1) : Int32).toNatClampNeg)) - ((gL (p_15.2) 163 ((((gI σ 66 23) - l_5) + 1) : Int32).toNatClampNeg) * (gL (p_15.2) 164 (((gI σ 66 23) - l_5) : Int32).toNatClampNeg)))))) ?_
                                refine ev_x (i := .lconst 0) (len := 1) (p' := 346) (s' := [.long 0, .long (((gL (p_15.2) 163 (((gI σ 66 23) - l_5) : Int32).toNatClampNeg) * (gL (p_15.2) 164 ((((gI σ 66 23) - l_5) + 1) : Int32).toNatClampNeg)) - ((gL (p_15.2) 163 ((((gI σ 66 23) - l_5) + 1) : Int32).toNatClampNeg) * (gL (p_15.2) 164 (((gI σ 66 23) - l_5) : Int32).toNatClampNeg))), .ref 66]) rfl rfl rfl ?_
                                refine ev_x (i := .lcmp) (len := 1) (p' := 347) (s' := [.int (lg_cmp (((gL (p_15.2) 163 (((gI σ 66 23) - l_5) : Int32).toNatClampNeg) * (gL (p_15.2) 164 ((((gI σ 66 23) - l_5) + 1) : Int32).toNatClampNeg)) - ((gL (p_15.2) 163 ((((gI σ 66 23) - l_5) + 1) : Int32).toNatClampNeg) * (gL (p_15.2) 164 (((gI σ 66 23) - l_5) : Int32).toNatClampNeg))) 0), .ref 66]) rfl rfl rfl ?_
                                by_cases c_55 : (lg_cmp (((gL (p_15.2) 163 (((gI σ 66 23) - l_5) : Int32).toNatClampNeg) * (gL (p_15.2) 164 ((((gI σ 66 23) - l_5) + 1) : Int32).toNatClampNeg)) - ((gL (p_15.2) 163 ((((gI σ 66 23) - l_5) + 1) : Int32).toNatClampNeg) * (gL (p_15.2) 164 (((gI σ 66 23) - l_5) : Int32).toNatClampNeg))) 0) < 0
                                · refine ev_b0 (t := 354) (p' := 354) rfl rfl rfl (if_pos c_55) ?_
                                  refine ev_x (i := .iconst 0) (len := 1) (p' := 355) (s' := [.int 0, .ref 66]) rfl rfl rfl ?_
                                  exact ev_st (congrArg (fun z => Value.int z :: [.ref 66]) (by rw [if_neg c_49, if_neg c_51, if_neg c_53, if_pos c_55])) J
                                · refine ev_b0 (t := 354) (p' := 350) rfl rfl rfl (if_neg c_55) ?_
                                  refine ev_x (i := .iconst 1) (len := 1) (p' := 351) (s' := [.int 1, .ref 66]) rfl rfl rfl ?_
                                  refine ev_x (i := .goto 4) (len := 3) (p' := 355) (s' := [.int 1, .ref 66]) rfl rfl rfl ?_
                                  exact ev_st (congrArg (fun z => Value.int z :: [.ref 66]) (by rw [if_neg c_49, if_neg c_51, if_neg c_53, if_neg c_55])) J
      · refine ev_b0 (t := 54) (p' := 37) rfl rfl rfl (if_neg c_4) ?_
        refine ev_x (i := .iinc 5 1) (len := 3) (p' := 40) (s' := []) (l' := vz_s1 (lv) 5 (.int (l_5 + 1))) rfl rfl (ld_inc g_5 rfl) ?_
        refine ev_x (i := .aload_n 1) (len := 1) (p' := 41) (s' := [.ref 115]) rfl rfl (ld_a (vg_o (i := 5) (v := .int (l_5 + 1)) g_1 (by decide) (Or.inl rfl))) ?_
        refine ev_gc (p' := 44) (v := 126) rfl rfl rfl ly_115 rfl rfl ?_
        refine ev_x (i := .iload 6) (len := 2) (p' := 46) (s' := [.int l_6, .ref 126]) rfl rfl (ld_i (vg_o (i := 5) (v := .int (l_5 + 1)) g_6 (by decide) (Or.inl rfl))) ?_
        obtain ⟨p_57, G_57, H⟩ := F_bd H
        refine ev_cv (d := d + 3) (As := [.int l_6]) (a := 126) (p' := 49) rfl rfl rfl ly_126 rfl rfl rfl rfl rfl (nb_s1 hnb rfl) rfl (N_139_ok (d := d + 2) nm_126 G_57) ?_
        refine ev_st (st' := [.int p_57.1]) rfl ?_
        have e_57 := N_139_R G_57
        refine ev_x (i := .istore 6) (len := 2) (p' := 51) (s' := []) (l' := vz_s1 (vz_s1 (lv) 5 (.int (l_5 + 1))) 6 (.int p_57.1)) rfl rfl rfl ?_
        refine ev_x (i := .goto (-19)) (len := 3) (p' := 32) (s' := []) rfl rfl rfl ?_
        exact ih _ _ _ _ _ _ _ (vg_o (i := 6) (v := .int p_57.1) (vg_o (i := 5) (v := .int (l_5 + 1)) g_0 (by decide) (Or.inl rfl)) (by decide) (Or.inl rfl)) (vg_o (i := 6) (v := .int p_57.1) (vg_o (i := 5) (v := .int (l_5 + 1)) g_1 (by decide) (Or.inl rfl)) (by decide) (Or.inl rfl)) (vg_o (i := 6) (v := .int p_57.1) (vg_o (i := 5) (v := .int (l_5 + 1)) g_3 (by decide) (Or.inl rfl)) (by decide) (Or.inl rfl)) (vg_o (i := 6) (v := .int p_57.1) (vg_o (i := 5) (v := .int (l_5 + 1)) g_4 (by decide) (Or.inl rfl)) (by decide) (Or.inl rfl)) (vg_o (i := 6) (v := .int p_57.1) (vg_s (lv) 5 (.int (l_5 + 1))) (by decide) (Or.inl rfl)) (vg_s (vz_s1 (lv) 5 (.int (l_5 + 1))) 6 (.int p_57.1)) (nb_s1 (nb_s1 hnb rfl) rfl)  H
/-- GameTextModel.finish(LGameTextModel$Game;I)V -/
def F_192 (N : Nat) (g : Nat) (x_2 : Int32) (σ : st_S) : Option (st_S) :=
  (N_139 N (g + 1) x_2 (σ)).bind fun p_1 =>
  (N_139 N (g + 3) x_2 (p_1.2)).bind fun p_2 =>
  (N_139 N (g + 9) x_2 (p_2.2)).bind fun p_3 =>
  L_192 N g N p_1.1 p_2.1 0 p_3.1 (p_3.2)
set_option maxRecDepth 100000 in
theorem F_192_R {N : Nat} {g : Nat} {x_2 : Int32} {σ : st_S} {p : st_S} (H : F_192 N g x_2 σ = some p) : gR p = gR σ := by
  unfold F_192 at H
  obtain ⟨p_1, G_1, H⟩ := F_bd H
  obtain ⟨p_2, G_2, H⟩ := F_bd H
  obtain ⟨p_3, G_3, H⟩ := F_bd H
  exact (((L_192_R _ _ _ _ _ _ _ H)).trans ((N_139_R G_3).trans ((N_139_R G_2).trans ((N_139_R G_1).trans rfl))))
set_option maxHeartbeats 4000000 in
set_option maxRecDepth 100000 in
theorem F_192_ok {N d : Nat} {g : Nat} (hg : g = 79 ∨ g = 115) {x_2 : Int32} {σ : st_S} {p : st_S}  (H : F_192 N g x_2 σ = some p) : vz_ev P0 (d + 4) 192 0 (lv_args 0 [.ref 66, .ref g, .int x_2]) [] (hp σ) (.inl none, hp p) := by
  unfold F_192 at H
  rcases hg with rfl | rfl
  · refine ev_x (i := .aload_n 1) (len := 1) (p' := 1) (s' := [.ref 79]) rfl rfl rfl ?_
    refine ev_gc (p' := 4) (v := 80) rfl rfl rfl ly_79 rfl rfl ?_
    refine ev_x (i := .iload_n 2) (len := 1) (p' := 5) (s' := [.int x_2, .ref 80]) rfl rfl rfl ?_
    obtain ⟨p_1, G_1, H⟩ := F_bd H
    refine ev_cv (d := d + 3) (As := [.int x_2]) (a := 80) (p' := 8) rfl rfl rfl ly_80 rfl rfl rfl rfl rfl rfl rfl (N_139_ok (d := d + 2) nm_80 G_1) ?_
    refine ev_st (st' := [.int p_1.1]) rfl ?_
    have e_1 := N_139_R G_1
    refine ev_x (i := .istore_n 3) (len := 1) (p' := 9) (s' := []) (l' := [(3, .int p_1.1), (0, .ref 66), (1, .ref 79), (2, .int x_2)]) rfl rfl rfl ?_
    refine ev_x (i := .aload_n 1) (len := 1) (p' := 10) (s' := [.ref 79]) rfl rfl rfl ?_
    refine ev_gc (p' := 13) (v := 82) rfl rfl rfl ly_79 rfl rfl ?_
    refine ev_x (i := .iload_n 2) (len := 1) (p' := 14) (s' := [.int x_2, .ref 82]) rfl rfl rfl ?_
    obtain ⟨p_2, G_2, H⟩ := F_bd H
    refine ev_cv (d := d + 3) (As := [.int x_2]) (a := 82) (p' := 17) rfl rfl rfl ly_82 rfl rfl rfl rfl rfl rfl rfl (N_139_ok (d := d + 2) nm_82 G_2) ?_
    refine ev_st (st' := [.int p_2.1]) rfl ?_
    have e_2 := N_139_R G_2
    refine ev_x (i := .istore 4) (len := 2) (p' := 19) (s' := []) (l' := [(4, .int p_2.1), (3, .int p_1.1), (0, .ref 66), (1, .ref 79), (2, .int x_2)]) rfl rfl rfl ?_
    refine ev_x (i := .iconst 0) (len := 1) (p' := 20) (s' := [.int 0]) rfl rfl rfl ?_
    refine ev_x (i := .istore 5) (len := 2) (p' := 22) (s' := []) (l' := [(5, .int 0), (4, .int p_2.1), (3, .int p_1.1), (0, .ref 66), (1, .ref 79), (2, .int x_2)]) rfl rfl rfl ?_
    refine ev_x (i := .aload_n 1) (len := 1) (p' := 23) (s' := [.ref 79]) rfl rfl rfl ?_
    refine ev_gc (p' := 26) (v := 88) rfl rfl rfl ly_79 rfl rfl ?_
    refine ev_x (i := .iload_n 2) (len := 1) (p' := 27) (s' := [.int x_2, .ref 88]) rfl rfl rfl ?_
    obtain ⟨p_3, G_3, H⟩ := F_bd H
    refine ev_cv (d := d + 3) (As := [.int x_2]) (a := 88) (p' := 30) rfl rfl rfl ly_88 rfl rfl rfl rfl rfl rfl rfl (N_139_ok (d := d + 2) nm_88 G_3) ?_
    refine ev_st (st' := [.int p_3.1]) rfl ?_
    have e_3 := N_139_R G_3
    refine ev_x (i := .istore 6) (len := 2) (p' := 32) (s' := []) (l' := [(6, .int p_3.1), (5, .int 0), (4, .int p_2.1), (3, .int p_1.1), (0, .ref 66), (1, .ref 79), (2, .int x_2)]) rfl rfl rfl ?_
    exact (L_192_ok (d := d) (Or.inl rfl) N) _ _ _ _ _ _ _ rfl rfl rfl rfl rfl rfl rfl  H
  · refine ev_x (i := .aload_n 1) (len := 1) (p' := 1) (s' := [.ref 115]) rfl rfl rfl ?_
    refine ev_gc (p' := 4) (v := 116) rfl rfl rfl ly_115 rfl rfl ?_
    refine ev_x (i := .iload_n 2) (len := 1) (p' := 5) (s' := [.int x_2, .ref 116]) rfl rfl rfl ?_
    obtain ⟨p_1, G_1, H⟩ := F_bd H
    refine ev_cv (d := d + 3) (As := [.int x_2]) (a := 116) (p' := 8) rfl rfl rfl ly_116 rfl rfl rfl rfl rfl rfl rfl (N_139_ok (d := d + 2) nm_116 G_1) ?_
    refine ev_st (st' := [.int p_1.1]) rfl ?_
    have e_1 := N_139_R G_1
    refine ev_x (i := .istore_n 3) (len := 1) (p' := 9) (s' := []) (l' := [(3, .int p_1.1), (0, .ref 66), (1, .ref 115), (2, .int x_2)]) rfl rfl rfl ?_
    refine ev_x (i := .aload_n 1) (len := 1) (p' := 10) (s' := [.ref 115]) rfl rfl rfl ?_
    refine ev_gc (p' := 13) (v := 118) rfl rfl rfl ly_115 rfl rfl ?_
    refine ev_x (i := .iload_n 2) (len := 1) (p' := 14) (s' := [.int x_2, .ref 118]) rfl rfl rfl ?_
    obtain ⟨p_2, G_2, H⟩ := F_bd H
    refine ev_cv (d := d + 3) (As := [.int x_2]) (a := 118) (p' := 17) rfl rfl rfl ly_118 rfl rfl rfl rfl rfl rfl rfl (N_139_ok (d := d + 2) nm_118 G_2) ?_
    refine ev_st (st' := [.int p_2.1]) rfl ?_
    have e_2 := N_139_R G_2
    refine ev_x (i := .istore 4) (len := 2) (p' := 19) (s' := []) (l' := [(4, .int p_2.1), (3, .int p_1.1), (0, .ref 66), (1, .ref 115), (2, .int x_2)]) rfl rfl rfl ?_
    refine ev_x (i := .iconst 0) (len := 1) (p' := 20) (s' := [.int 0]) rfl rfl rfl ?_
    refine ev_x (i := .istore 5) (len := 2) (p' := 22) (s' := []) (l' := [(5, .int 0), (4, .int p_2.1), (3, .int p_1.1), (0, .ref 66), (1, .ref 115), (2, .int x_2)]) rfl rfl rfl ?_
    refine ev_x (i := .aload_n 1) (len := 1) (p' := 23) (s' := [.ref 115]) rfl rfl rfl ?_
    refine ev_gc (p' := 26) (v := 124) rfl rfl rfl ly_115 rfl rfl ?_
    refine ev_x (i := .iload_n 2) (len := 1) (p' := 27) (s' := [.int x_2, .ref 124]) rfl rfl rfl ?_
    obtain ⟨p_3, G_3, H⟩ := F_bd H
    refine ev_cv (d := d + 3) (As := [.int x_2]) (a := 124) (p' := 30) rfl rfl rfl ly_124 rfl rfl rfl rfl rfl rfl rfl (N_139_ok (d := d + 2) nm_124 G_3) ?_
    refine ev_st (st' := [.int p_3.1]) rfl ?_
    have e_3 := N_139_R G_3
    refine ev_x (i := .istore 6) (len := 2) (p' := 32) (s' := []) (l' := [(6, .int p_3.1), (5, .int 0), (4, .int p_2.1), (3, .int p_1.1), (0, .ref 66), (1, .ref 115), (2, .int x_2)]) rfl rfl rfl ?_
    exact (L_192_ok (d := d) (Or.inr rfl) N) _ _ _ _ _ _ _ rfl rfl rfl rfl rfl rfl rfl  H
/-- GameTextModel.choose(LGameTextModel$Game;I)V -/
def F_197 (N : Nat) (g : Nat) (x_2 : Int32) (σ : st_S) : Option (st_S) :=
  (N_139 N (g + 1) x_2 (σ)).bind fun p_1 =>
  if aB ((gI p_1.2 66 23) - 1) (gN p_1.2 163) then
  (N_139 N (g + 9) x_2 (p_1.2)).bind fun p_4 =>
  (N_139 N (g + 11) p_4.1 (p_4.2)).bind fun p_5 =>
  if p_1.1 = 32 then
    if (if (lg_cmp (gL (p_1.2) 163 (((gI p_1.2 66 23) - 1) : Int32).toNatClampNeg) 1) = 0 then 1 else 0 : Int32) = 0 then
      (N_139 N (g + 11) p_5.1 (st_i (p_5.2) 66 23 ((gI p_5.2 66 23) - 1))).bind fun p_8 =>
      (F_186 N 0 p_8.1 (p_8.2)).bind fun p_9 =>
      some (p_9)
    else
      (F_186 N 0 p_5.1 (st_i (p_5.2) 66 23 ((gI p_5.2 66 23) - 1))).bind fun p_10 =>
      some (p_10)
  else
    if (if (lg_cmp (gL (p_1.2) 163 (((gI p_1.2 66 23) - 1) : Int32).toNatClampNeg) 1) = 0 then 1 else 0 : Int32) = (if p_1.1 = 29 then 1 else 0 : Int32) then
      (F_186 N 0 p_5.1 (st_i (p_5.2) 66 23 ((gI p_5.2 66 23) - 1))).bind fun p_13 =>
      some (p_13)
    else
      some (p_5.2)
  else none
set_option maxRecDepth 100000 in
theorem F_197_R {N : Nat} {g : Nat} {x_2 : Int32} {σ : st_S} {p : st_S} (H : F_197 N g x_2 σ = some p) : gR p = gR σ := by
  unfold F_197 at H
  obtain ⟨p_1, G_1, H⟩ := F_bd H
  obtain ⟨_, H⟩ := F_gd H
  obtain ⟨p_4, G_4, H⟩ := F_bd H
  obtain ⟨p_5, G_5, H⟩ := F_bd H
  refine F_if H (fun _ H => ?_) (fun _ H => ?_)
  · refine F_if H (fun _ H => ?_) (fun _ H => ?_)
    · obtain ⟨p_8, G_8, H⟩ := F_bd H
      obtain ⟨p_9, G_9, H⟩ := F_bd H
      obtain rfl := Option.some.inj H
      exact ((F_186_R G_9).trans ((N_139_R G_8).trans ((N_139_R G_5).trans ((N_139_R G_4).trans ((N_139_R G_1).trans rfl)))))
    · obtain ⟨p_10, G_10, H⟩ := F_bd H
      obtain rfl := Option.some.inj H
      exact ((F_186_R G_10).trans ((N_139_R G_5).trans ((N_139_R G_4).trans ((N_139_R G_1).trans rfl))))
  · refine F_if H (fun _ H => ?_) (fun _ H => ?_)
    · obtain ⟨p_13, G_13, H⟩ := F_bd H
      obtain rfl := Option.some.inj H
      exact ((F_186_R G_13).trans ((N_139_R G_5).trans ((N_139_R G_4).trans ((N_139_R G_1).trans rfl))))
    · obtain rfl := Option.some.inj H
      exact ((N_139_R G_5).trans ((N_139_R G_4).trans ((N_139_R G_1).trans rfl)))
set_option maxHeartbeats 4000000 in
set_option maxRecDepth 100000 in
theorem F_197_ok {N d : Nat} {g : Nat} (hg : g = 79 ∨ g = 115) {x_2 : Int32} {σ : st_S} {p : st_S}  (H : F_197 N g x_2 σ = some p) : vz_ev P0 (d + 3) 197 0 (lv_args 0 [.ref 66, .ref g, .int x_2]) [] (hp σ) (.inl none, hp p) := by
  unfold F_197 at H
  rcases hg with rfl | rfl
  · refine ev_x (i := .aload_n 1) (len := 1) (p' := 1) (s' := [.ref 79]) rfl rfl rfl ?_
    refine ev_gc (p' := 4) (v := 80) rfl rfl rfl ly_79 rfl rfl ?_
    refine ev_x (i := .iload_n 2) (len := 1) (p' := 5) (s' := [.int x_2, .ref 80]) rfl rfl rfl ?_
    obtain ⟨p_1, G_1, H⟩ := F_bd H
    refine ev_cv (d := d + 2) (As := [.int x_2]) (a := 80) (p' := 8) rfl rfl rfl ly_80 rfl rfl rfl rfl rfl rfl rfl (N_139_ok (d := d + 1) nm_80 G_1) ?_
    refine ev_st (st' := [.int p_1.1]) rfl ?_
    have e_1 := N_139_R G_1
    refine ev_x (i := .istore_n 3) (len := 1) (p' := 9) (s' := []) (l' := [(3, .int p_1.1), (0, .ref 66), (1, .ref 79), (2, .int x_2)]) rfl rfl rfl ?_
    refine ev_x (i := .aload_n 0) (len := 1) (p' := 10) (s' := [.ref 66]) rfl rfl rfl ?_
    refine ev_gc (p' := 13) (v := 163) rfl rfl rfl ly_66 rfl rfl ?_
    refine ev_x (i := .aload_n 0) (len := 1) (p' := 14) (s' := [.ref 66, .ref 163]) rfl rfl rfl ?_
    refine ev_gi (p' := 17) (v := (gI p_1.2 66 23)) rfl rfl rfl ly_66 rfl rfl rfl ?_
    refine ev_x (i := .iconst 1) (len := 1) (p' := 18) (s' := [.int 1, .int (gI p_1.2 66 23), .ref 163]) rfl rfl rfl ?_
    refine ev_x (i := .isub) (len := 1) (p' := 19) (s' := [.int ((gI p_1.2 66 23) - 1), .ref 163]) rfl rfl rfl ?_
    obtain ⟨b_2, H⟩ := F_gd H
    refine ev_gL (p' := 20) (v := (gL (p_1.2) 163 (((gI p_1.2 66 23) - 1) : Int32).toNatClampNeg)) rfl rfl ly_163 rfl (gd_in b_2) rfl ?_
    refine ev_x (i := .lconst 1) (len := 1) (p' := 21) (s' := [.long 1, .long (gL (p_1.2) 163 (((gI p_1.2 66 23) - 1) : Int32).toNatClampNeg)]) rfl rfl rfl ?_
    refine ev_x (i := .lcmp) (len := 1) (p' := 22) (s' := [.int (lg_cmp (gL (p_1.2) 163 (((gI p_1.2 66 23) - 1) : Int32).toNatClampNeg) 1)]) rfl rfl rfl ?_
    refine F_jn (A := vz_ev P0 (d + 3) 197 30 [(3, .int p_1.1), (0, .ref 66), (1, .ref 79), (2, .int x_2)] [.int (if (lg_cmp (gL (p_1.2) 163 (((gI p_1.2 66 23) - 1) : Int32).toNatClampNeg) 1) = 0 then 1 else 0 : Int32)] (hp (p_1.2)) (.inl none, hp p)) ?_ (fun J => ?_)
    · refine ev_x (i := .istore 4) (len := 2) (p' := 32) (s' := []) (l' := [(4, .int (if (lg_cmp (gL (p_1.2) 163 (((gI p_1.2 66 23) - 1) : Int32).toNatClampNeg) 1) = 0 then 1 else 0 : Int32)), (3, .int p_1.1), (0, .ref 66), (1, .ref 79), (2, .int x_2)]) rfl rfl rfl ?_
      refine ev_x (i := .aload_n 1) (len := 1) (p' := 33) (s' := [.ref 79]) rfl rfl rfl ?_
      refine ev_gc (p' := 36) (v := 90) rfl rfl rfl ly_79 rfl rfl ?_
      refine ev_x (i := .aload_n 1) (len := 1) (p' := 37) (s' := [.ref 79, .ref 90]) rfl rfl rfl ?_
      refine ev_gc (p' := 40) (v := 88) rfl rfl rfl ly_79 rfl rfl ?_
      refine ev_x (i := .iload_n 2) (len := 1) (p' := 41) (s' := [.int x_2, .ref 88, .ref 90]) rfl rfl rfl ?_
      obtain ⟨p_4, G_4, H⟩ := F_bd H
      refine ev_cv (d := d + 2) (As := [.int x_2]) (a := 88) (p' := 44) rfl rfl rfl ly_88 rfl rfl rfl rfl rfl rfl rfl (N_139_ok (d := d + 1) nm_88 G_4) ?_
      refine ev_st (st' := [.int p_4.1, .ref 90]) rfl ?_
      have e_4 := N_139_R G_4
      obtain ⟨p_5, G_5, H⟩ := F_bd H
      refine ev_cv (d := d + 2) (As := [.int p_4.1]) (a := 90) (p' := 47) rfl rfl rfl ly_90 rfl rfl rfl rfl rfl rfl rfl (N_139_ok (d := d + 1) nm_90 G_5) ?_
      refine ev_st (st' := [.int p_5.1]) rfl ?_
      have e_5 := N_139_R G_5
      refine ev_x (i := .istore 5) (len := 2) (p' := 49) (s' := []) (l' := [(5, .int p_5.1), (4, .int (if (lg_cmp (gL (p_1.2) 163 (((gI p_1.2 66 23) - 1) : Int32).toNatClampNeg) 1) = 0 then 1 else 0 : Int32)), (3, .int p_1.1), (0, .ref 66), (1, .ref 79), (2, .int x_2)]) rfl rfl rfl ?_
      refine ev_x (i := .iload_n 3) (len := 1) (p' := 50) (s' := [.int p_1.1]) rfl rfl rfl ?_
      refine ev_x (i := .bipush 32) (len := 2) (p' := 52) (s' := [.int 32, .int p_1.1]) rfl rfl rfl ?_
      refine F_if H (fun c_6 H => ?_) (fun c_6 H => ?_)
      · refine ev_b2 (t := 92) (p' := 55) rfl rfl rfl (if_neg (fun q => q c_6)) ?_
        refine ev_x (i := .aload_n 0) (len := 1) (p' := 56) (s' := [.ref 66]) rfl rfl rfl ?_
        refine ev_x (i := .aload_n 0) (len := 1) (p' := 57) (s' := [.ref 66, .ref 66]) rfl rfl rfl ?_
        refine ev_gi (p' := 60) (v := (gI p_5.2 66 23)) rfl rfl rfl ly_66 rfl rfl rfl ?_
        refine ev_x (i := .iconst 1) (len := 1) (p' := 61) (s' := [.int 1, .int (gI p_5.2 66 23), .ref 66]) rfl rfl rfl ?_
        refine ev_x (i := .isub) (len := 1) (p' := 62) (s' := [.int ((gI p_5.2 66 23) - 1), .ref 66]) rfl rfl rfl ?_
        refine ev_pi (p' := 65) rfl rfl rfl ly_66 rfl rfl rfl rfl ?_
        refine ev_x (i := .aload_n 0) (len := 1) (p' := 66) (s' := [.ref 66]) rfl rfl rfl ?_
        refine ev_x (i := .iconst 0) (len := 1) (p' := 67) (s' := [.int 0, .ref 66]) rfl rfl rfl ?_
        refine ev_x (i := .iload 4) (len := 2) (p' := 69) (s' := [.int (if (lg_cmp (gL (p_1.2) 163 (((gI p_1.2 66 23) - 1) : Int32).toNatClampNeg) 1) = 0 then 1 else 0 : Int32), .int 0, .ref 66]) rfl rfl rfl ?_
        refine F_if H (fun c_7 H => ?_) (fun c_7 H => ?_)
        · refine ev_b0 (t := 77) (p' := 77) rfl rfl rfl (if_pos c_7) ?_
          refine ev_x (i := .aload_n 1) (len := 1) (p' := 78) (s' := [.ref 79, .int 0, .ref 66]) rfl rfl rfl ?_
          refine ev_gc (p' := 81) (v := 90) rfl rfl rfl ly_79 rfl rfl ?_
          refine ev_x (i := .iload 5) (len := 2) (p' := 83) (s' := [.int p_5.1, .ref 90, .int 0, .ref 66]) rfl rfl rfl ?_
          obtain ⟨p_8, G_8, H⟩ := F_bd H
          refine ev_cv (d := d + 2) (As := [.int p_5.1]) (a := 90) (p' := 86) rfl rfl rfl ly_90 rfl rfl rfl rfl rfl rfl rfl (N_139_ok (d := d + 1) nm_90 G_8) ?_
          refine ev_st (st' := [.int p_8.1, .int 0, .ref 66]) rfl ?_
          have e_8 := N_139_R G_8
          obtain ⟨p_9, G_9, H⟩ := F_bd H
          refine ev_cv (d := d + 2) (As := [.int 0, .int p_8.1]) (a := 66) (p' := 89) rfl rfl rfl ly_66 rfl rfl rfl rfl rfl rfl rfl (F_186_ok (d := d + 0)   G_9) ?_
          refine ev_st (st' := []) rfl ?_
          have e_9 := F_186_R G_9
          refine ev_x (i := .goto 36) (len := 3) (p' := 125) (s' := []) rfl rfl rfl ?_
          obtain rfl := Option.some.inj H
          exact ev_vret rfl rfl rfl
        · refine ev_b0 (t := 77) (p' := 72) rfl rfl rfl (if_neg c_7) ?_
          refine ev_x (i := .iload 5) (len := 2) (p' := 74) (s' := [.int p_5.1, .int 0, .ref 66]) rfl rfl rfl ?_
          refine ev_x (i := .goto 12) (len := 3) (p' := 86) (s' := [.int p_5.1, .int 0, .ref 66]) rfl rfl rfl ?_
          obtain ⟨p_10, G_10, H⟩ := F_bd H
          refine ev_cv (d := d + 2) (As := [.int 0, .int p_5.1]) (a := 66) (p' := 89) rfl rfl rfl ly_66 rfl rfl rfl rfl rfl rfl rfl (F_186_ok (d := d + 0)   G_10) ?_
          refine ev_st (st' := []) rfl ?_
          have e_10 := F_186_R G_10
          refine ev_x (i := .goto 36) (len := 3) (p' := 125) (s' := []) rfl rfl rfl ?_
          obtain rfl := Option.some.inj H
          exact ev_vret rfl rfl rfl
      · refine ev_b2 (t := 92) (p' := 92) rfl rfl rfl (if_pos c_6) ?_
        refine ev_x (i := .iload 4) (len := 2) (p' := 94) (s' := [.int (if (lg_cmp (gL (p_1.2) 163 (((gI p_1.2 66 23) - 1) : Int32).toNatClampNeg) 1) = 0 then 1 else 0 : Int32)]) rfl rfl rfl ?_
        refine ev_x (i := .iload_n 3) (len := 1) (p' := 95) (s' := [.int p_1.1, .int (if (lg_cmp (gL (p_1.2) 163 (((gI p_1.2 66 23) - 1) : Int32).toNatClampNeg) 1) = 0 then 1 else 0 : Int32)]) rfl rfl rfl ?_
        refine ev_x (i := .bipush 29) (len := 2) (p' := 97) (s' := [.int 29, .int p_1.1, .int (if (lg_cmp (gL (p_1.2) 163 (((gI p_1.2 66 23) - 1) : Int32).toNatClampNeg) 1) = 0 then 1 else 0 : Int32)]) rfl rfl rfl ?_
        refine F_jn (A := vz_ev P0 (d + 3) 197 105 [(5, .int p_5.1), (4, .int (if (lg_cmp (gL (p_1.2) 163 (((gI p_1.2 66 23) - 1) : Int32).toNatClampNeg) 1) = 0 then 1 else 0 : Int32)), (3, .int p_1.1), (0, .ref 66), (1, .ref 79), (2, .int x_2)] [.int (if p_1.1 = 29 then 1 else 0 : Int32), .int (if (lg_cmp (gL (p_1.2) 163 (((gI p_1.2 66 23) - 1) : Int32).toNatClampNeg) 1) = 0 then 1 else 0 : Int32)] (hp (p_5.2)) (.inl none, hp p)) ?_ (fun J => ?_)
        · refine F_if H (fun c_12 H => ?_) (fun c_12 H => ?_)
          · refine ev_b2 (t := 125) (p' := 108) rfl rfl rfl (if_neg (fun q => q c_12)) ?_
            refine ev_x (i := .aload_n 0) (len := 1) (p' := 109) (s' := [.ref 66]) rfl rfl rfl ?_
            refine ev_x (i := .aload_n 0) (len := 1) (p' := 110) (s' := [.ref 66, .ref 66]) rfl rfl rfl ?_
            refine ev_gi (p' := 113) (v := (gI p_5.2 66 23)) rfl rfl rfl ly_66 rfl rfl rfl ?_
            refine ev_x (i := .iconst 1) (len := 1) (p' := 114) (s' := [.int 1, .int (gI p_5.2 66 23), .ref 66]) rfl rfl rfl ?_
            refine ev_x (i := .isub) (len := 1) (p' := 115) (s' := [.int ((gI p_5.2 66 23) - 1), .ref 66]) rfl rfl rfl ?_
            refine ev_pi (p' := 118) rfl rfl rfl ly_66 rfl rfl rfl rfl ?_
            refine ev_x (i := .aload_n 0) (len := 1) (p' := 119) (s' := [.ref 66]) rfl rfl rfl ?_
            refine ev_x (i := .iconst 0) (len := 1) (p' := 120) (s' := [.int 0, .ref 66]) rfl rfl rfl ?_
            refine ev_x (i := .iload 5) (len := 2) (p' := 122) (s' := [.int p_5.1, .int 0, .ref 66]) rfl rfl rfl ?_
            obtain ⟨p_13, G_13, H⟩ := F_bd H
            refine ev_cv (d := d + 2) (As := [.int 0, .int p_5.1]) (a := 66) (p' := 125) rfl rfl rfl ly_66 rfl rfl rfl rfl rfl rfl rfl (F_186_ok (d := d + 0)   G_13) ?_
            refine ev_st (st' := []) rfl ?_
            have e_13 := F_186_R G_13
            obtain rfl := Option.some.inj H
            exact ev_vret rfl rfl rfl
          · refine ev_b2 (t := 125) (p' := 125) rfl rfl rfl (if_pos c_12) ?_
            obtain rfl := Option.some.inj H
            exact ev_vret rfl rfl rfl
        · by_cases c_11 : p_1.1 = 29
          · refine ev_b2 (t := 104) (p' := 100) rfl rfl rfl (if_neg (fun q => q c_11)) ?_
            refine ev_x (i := .iconst 1) (len := 1) (p' := 101) (s' := [.int 1, .int (if (lg_cmp (gL (p_1.2) 163 (((gI p_1.2 66 23) - 1) : Int32).toNatClampNeg) 1) = 0 then 1 else 0 : Int32)]) rfl rfl rfl ?_
            refine ev_x (i := .goto 4) (len := 3) (p' := 105) (s' := [.int 1, .int (if (lg_cmp (gL (p_1.2) 163 (((gI p_1.2 66 23) - 1) : Int32).toNatClampNeg) 1) = 0 then 1 else 0 : Int32)]) rfl rfl rfl ?_
            exact ev_st (congrArg (fun z => Value.int z :: [.int (if (lg_cmp (gL (p_1.2) 163 (((gI p_1.2 66 23) - 1) : Int32).toNatClampNeg) 1) = 0 then 1 else 0 : Int32)]) (by rw [if_pos c_11])) J
          · refine ev_b2 (t := 104) (p' := 104) rfl rfl rfl (if_pos c_11) ?_
            refine ev_x (i := .iconst 0) (len := 1) (p' := 105) (s' := [.int 0, .int (if (lg_cmp (gL (p_1.2) 163 (((gI p_1.2 66 23) - 1) : Int32).toNatClampNeg) 1) = 0 then 1 else 0 : Int32)]) rfl rfl rfl ?_
            exact ev_st (congrArg (fun z => Value.int z :: [.int (if (lg_cmp (gL (p_1.2) 163 (((gI p_1.2 66 23) - 1) : Int32).toNatClampNeg) 1) = 0 then 1 else 0 : Int32)]) (by rw [if_neg c_11])) J
    · by_cases c_3 : (lg_cmp (gL (p_1.2) 163 (((gI p_1.2 66 23) - 1) : Int32).toNatClampNeg) 1) = 0
      · refine ev_b0 (t := 29) (p' := 25) rfl rfl rfl (if_neg (fun q => q c_3)) ?_
        refine ev_x (i := .iconst 1) (len := 1) (p' := 26) (s' := [.int 1]) rfl rfl rfl ?_
        refine ev_x (i := .goto 4) (len := 3) (p' := 30) (s' := [.int 1]) rfl rfl rfl ?_
        exact ev_st (congrArg (fun z => Value.int z :: []) (by rw [if_pos c_3])) J
      · refine ev_b0 (t := 29) (p' := 29) rfl rfl rfl (if_pos c_3) ?_
        refine ev_x (i := .iconst 0) (len := 1) (p' := 30) (s' := [.int 0]) rfl rfl rfl ?_
        exact ev_st (congrArg (fun z => Value.int z :: []) (by rw [if_neg c_3])) J
  · refine ev_x (i := .aload_n 1) (len := 1) (p' := 1) (s' := [.ref 115]) rfl rfl rfl ?_
    refine ev_gc (p' := 4) (v := 116) rfl rfl rfl ly_115 rfl rfl ?_
    refine ev_x (i := .iload_n 2) (len := 1) (p' := 5) (s' := [.int x_2, .ref 116]) rfl rfl rfl ?_
    obtain ⟨p_1, G_1, H⟩ := F_bd H
    refine ev_cv (d := d + 2) (As := [.int x_2]) (a := 116) (p' := 8) rfl rfl rfl ly_116 rfl rfl rfl rfl rfl rfl rfl (N_139_ok (d := d + 1) nm_116 G_1) ?_
    refine ev_st (st' := [.int p_1.1]) rfl ?_
    have e_1 := N_139_R G_1
    refine ev_x (i := .istore_n 3) (len := 1) (p' := 9) (s' := []) (l' := [(3, .int p_1.1), (0, .ref 66), (1, .ref 115), (2, .int x_2)]) rfl rfl rfl ?_
    refine ev_x (i := .aload_n 0) (len := 1) (p' := 10) (s' := [.ref 66]) rfl rfl rfl ?_
    refine ev_gc (p' := 13) (v := 163) rfl rfl rfl ly_66 rfl rfl ?_
    refine ev_x (i := .aload_n 0) (len := 1) (p' := 14) (s' := [.ref 66, .ref 163]) rfl rfl rfl ?_
    refine ev_gi (p' := 17) (v := (gI p_1.2 66 23)) rfl rfl rfl ly_66 rfl rfl rfl ?_
    refine ev_x (i := .iconst 1) (len := 1) (p' := 18) (s' := [.int 1, .int (gI p_1.2 66 23), .ref 163]) rfl rfl rfl ?_
    refine ev_x (i := .isub) (len := 1) (p' := 19) (s' := [.int ((gI p_1.2 66 23) - 1), .ref 163]) rfl rfl rfl ?_
    obtain ⟨b_2, H⟩ := F_gd H
    refine ev_gL (p' := 20) (v := (gL (p_1.2) 163 (((gI p_1.2 66 23) - 1) : Int32).toNatClampNeg)) rfl rfl ly_163 rfl (gd_in b_2) rfl ?_
    refine ev_x (i := .lconst 1) (len := 1) (p' := 21) (s' := [.long 1, .long (gL (p_1.2) 163 (((gI p_1.2 66 23) - 1) : Int32).toNatClampNeg)]) rfl rfl rfl ?_
    refine ev_x (i := .lcmp) (len := 1) (p' := 22) (s' := [.int (lg_cmp (gL (p_1.2) 163 (((gI p_1.2 66 23) - 1) : Int32).toNatClampNeg) 1)]) rfl rfl rfl ?_
    refine F_jn (A := vz_ev P0 (d + 3) 197 30 [(3, .int p_1.1), (0, .ref 66), (1, .ref 115), (2, .int x_2)] [.int (if (lg_cmp (gL (p_1.2) 163 (((gI p_1.2 66 23) - 1) : Int32).toNatClampNeg) 1) = 0 then 1 else 0 : Int32)] (hp (p_1.2)) (.inl none, hp p)) ?_ (fun J => ?_)
    · refine ev_x (i := .istore 4) (len := 2) (p' := 32) (s' := []) (l' := [(4, .int (if (lg_cmp (gL (p_1.2) 163 (((gI p_1.2 66 23) - 1) : Int32).toNatClampNeg) 1) = 0 then 1 else 0 : Int32)), (3, .int p_1.1), (0, .ref 66), (1, .ref 115), (2, .int x_2)]) rfl rfl rfl ?_
      refine ev_x (i := .aload_n 1) (len := 1) (p' := 33) (s' := [.ref 115]) rfl rfl rfl ?_
      refine ev_gc (p' := 36) (v := 126) rfl rfl rfl ly_115 rfl rfl ?_
      refine ev_x (i := .aload_n 1) (len := 1) (p' := 37) (s' := [.ref 115, .ref 126]) rfl rfl rfl ?_
      refine ev_gc (p' := 40) (v := 124) rfl rfl rfl ly_115 rfl rfl ?_
      refine ev_x (i := .iload_n 2) (len := 1) (p' := 41) (s' := [.int x_2, .ref 124, .ref 126]) rfl rfl rfl ?_
      obtain ⟨p_4, G_4, H⟩ := F_bd H
      refine ev_cv (d := d + 2) (As := [.int x_2]) (a := 124) (p' := 44) rfl rfl rfl ly_124 rfl rfl rfl rfl rfl rfl rfl (N_139_ok (d := d + 1) nm_124 G_4) ?_
      refine ev_st (st' := [.int p_4.1, .ref 126]) rfl ?_
      have e_4 := N_139_R G_4
      obtain ⟨p_5, G_5, H⟩ := F_bd H
      refine ev_cv (d := d + 2) (As := [.int p_4.1]) (a := 126) (p' := 47) rfl rfl rfl ly_126 rfl rfl rfl rfl rfl rfl rfl (N_139_ok (d := d + 1) nm_126 G_5) ?_
      refine ev_st (st' := [.int p_5.1]) rfl ?_
      have e_5 := N_139_R G_5
      refine ev_x (i := .istore 5) (len := 2) (p' := 49) (s' := []) (l' := [(5, .int p_5.1), (4, .int (if (lg_cmp (gL (p_1.2) 163 (((gI p_1.2 66 23) - 1) : Int32).toNatClampNeg) 1) = 0 then 1 else 0 : Int32)), (3, .int p_1.1), (0, .ref 66), (1, .ref 115), (2, .int x_2)]) rfl rfl rfl ?_
      refine ev_x (i := .iload_n 3) (len := 1) (p' := 50) (s' := [.int p_1.1]) rfl rfl rfl ?_
      refine ev_x (i := .bipush 32) (len := 2) (p' := 52) (s' := [.int 32, .int p_1.1]) rfl rfl rfl ?_
      refine F_if H (fun c_6 H => ?_) (fun c_6 H => ?_)
      · refine ev_b2 (t := 92) (p' := 55) rfl rfl rfl (if_neg (fun q => q c_6)) ?_
        refine ev_x (i := .aload_n 0) (len := 1) (p' := 56) (s' := [.ref 66]) rfl rfl rfl ?_
        refine ev_x (i := .aload_n 0) (len := 1) (p' := 57) (s' := [.ref 66, .ref 66]) rfl rfl rfl ?_
        refine ev_gi (p' := 60) (v := (gI p_5.2 66 23)) rfl rfl rfl ly_66 rfl rfl rfl ?_
        refine ev_x (i := .iconst 1) (len := 1) (p' := 61) (s' := [.int 1, .int (gI p_5.2 66 23), .ref 66]) rfl rfl rfl ?_
        refine ev_x (i := .isub) (len := 1) (p' := 62) (s' := [.int ((gI p_5.2 66 23) - 1), .ref 66]) rfl rfl rfl ?_
        refine ev_pi (p' := 65) rfl rfl rfl ly_66 rfl rfl rfl rfl ?_
        refine ev_x (i := .aload_n 0) (len := 1) (p' := 66) (s' := [.ref 66]) rfl rfl rfl ?_
        refine ev_x (i := .iconst 0) (len := 1) (p' := 67) (s' := [.int 0, .ref 66]) rfl rfl rfl ?_
        refine ev_x (i := .iload 4) (len := 2) (p' := 69) (s' := [.int (if (lg_cmp (gL (p_1.2) 163 (((gI p_1.2 66 23) - 1) : Int32).toNatClampNeg) 1) = 0 then 1 else 0 : Int32), .int 0, .ref 66]) rfl rfl rfl ?_
        refine F_if H (fun c_7 H => ?_) (fun c_7 H => ?_)
        · refine ev_b0 (t := 77) (p' := 77) rfl rfl rfl (if_pos c_7) ?_
          refine ev_x (i := .aload_n 1) (len := 1) (p' := 78) (s' := [.ref 115, .int 0, .ref 66]) rfl rfl rfl ?_
          refine ev_gc (p' := 81) (v := 126) rfl rfl rfl ly_115 rfl rfl ?_
          refine ev_x (i := .iload 5) (len := 2) (p' := 83) (s' := [.int p_5.1, .ref 126, .int 0, .ref 66]) rfl rfl rfl ?_
          obtain ⟨p_8, G_8, H⟩ := F_bd H
          refine ev_cv (d := d + 2) (As := [.int p_5.1]) (a := 126) (p' := 86) rfl rfl rfl ly_126 rfl rfl rfl rfl rfl rfl rfl (N_139_ok (d := d + 1) nm_126 G_8) ?_
          refine ev_st (st' := [.int p_8.1, .int 0, .ref 66]) rfl ?_
          have e_8 := N_139_R G_8
          obtain ⟨p_9, G_9, H⟩ := F_bd H
          refine ev_cv (d := d + 2) (As := [.int 0, .int p_8.1]) (a := 66) (p' := 89) rfl rfl rfl ly_66 rfl rfl rfl rfl rfl rfl rfl (F_186_ok (d := d + 0)   G_9) ?_
          refine ev_st (st' := []) rfl ?_
          have e_9 := F_186_R G_9
          refine ev_x (i := .goto 36) (len := 3) (p' := 125) (s' := []) rfl rfl rfl ?_
          obtain rfl := Option.some.inj H
          exact ev_vret rfl rfl rfl
        · refine ev_b0 (t := 77) (p' := 72) rfl rfl rfl (if_neg c_7) ?_
          refine ev_x (i := .iload 5) (len := 2) (p' := 74) (s' := [.int p_5.1, .int 0, .ref 66]) rfl rfl rfl ?_
          refine ev_x (i := .goto 12) (len := 3) (p' := 86) (s' := [.int p_5.1, .int 0, .ref 66]) rfl rfl rfl ?_
          obtain ⟨p_10, G_10, H⟩ := F_bd H
          refine ev_cv (d := d + 2) (As := [.int 0, .int p_5.1]) (a := 66) (p' := 89) rfl rfl rfl ly_66 rfl rfl rfl rfl rfl rfl rfl (F_186_ok (d := d + 0)   G_10) ?_
          refine ev_st (st' := []) rfl ?_
          have e_10 := F_186_R G_10
          refine ev_x (i := .goto 36) (len := 3) (p' := 125) (s' := []) rfl rfl rfl ?_
          obtain rfl := Option.some.inj H
          exact ev_vret rfl rfl rfl
      · refine ev_b2 (t := 92) (p' := 92) rfl rfl rfl (if_pos c_6) ?_
        refine ev_x (i := .iload 4) (len := 2) (p' := 94) (s' := [.int (if (lg_cmp (gL (p_1.2) 163 (((gI p_1.2 66 23) - 1) : Int32).toNatClampNeg) 1) = 0 then 1 else 0 : Int32)]) rfl rfl rfl ?_
        refine ev_x (i := .iload_n 3) (len := 1) (p' := 95) (s' := [.int p_1.1, .int (if (lg_cmp (gL (p_1.2) 163 (((gI p_1.2 66 23) - 1) : Int32).toNatClampNeg) 1) = 0 then 1 else 0 : Int32)]) rfl rfl rfl ?_
        refine ev_x (i := .bipush 29) (len := 2) (p' := 97) (s' := [.int 29, .int p_1.1, .int (if (lg_cmp (gL (p_1.2) 163 (((gI p_1.2 66 23) - 1) : Int32).toNatClampNeg) 1) = 0 then 1 else 0 : Int32)]) rfl rfl rfl ?_
        refine F_jn (A := vz_ev P0 (d + 3) 197 105 [(5, .int p_5.1), (4, .int (if (lg_cmp (gL (p_1.2) 163 (((gI p_1.2 66 23) - 1) : Int32).toNatClampNeg) 1) = 0 then 1 else 0 : Int32)), (3, .int p_1.1), (0, .ref 66), (1, .ref 115), (2, .int x_2)] [.int (if p_1.1 = 29 then 1 else 0 : Int32), .int (if (lg_cmp (gL (p_1.2) 163 (((gI p_1.2 66 23) - 1) : Int32).toNatClampNeg) 1) = 0 then 1 else 0 : Int32)] (hp (p_5.2)) (.inl none, hp p)) ?_ (fun J => ?_)
        · refine F_if H (fun c_12 H => ?_) (fun c_12 H => ?_)
          · refine ev_b2 (t := 125) (p' := 108) rfl rfl rfl (if_neg (fun q => q c_12)) ?_
            refine ev_x (i := .aload_n 0) (len := 1) (p' := 109) (s' := [.ref 66]) rfl rfl rfl ?_
            refine ev_x (i := .aload_n 0) (len := 1) (p' := 110) (s' := [.ref 66, .ref 66]) rfl rfl rfl ?_
            refine ev_gi (p' := 113) (v := (gI p_5.2 66 23)) rfl rfl rfl ly_66 rfl rfl rfl ?_
            refine ev_x (i := .iconst 1) (len := 1) (p' := 114) (s' := [.int 1, .int (gI p_5.2 66 23), .ref 66]) rfl rfl rfl ?_
            refine ev_x (i := .isub) (len := 1) (p' := 115) (s' := [.int ((gI p_5.2 66 23) - 1), .ref 66]) rfl rfl rfl ?_
            refine ev_pi (p' := 118) rfl rfl rfl ly_66 rfl rfl rfl rfl ?_
            refine ev_x (i := .aload_n 0) (len := 1) (p' := 119) (s' := [.ref 66]) rfl rfl rfl ?_
            refine ev_x (i := .iconst 0) (len := 1) (p' := 120) (s' := [.int 0, .ref 66]) rfl rfl rfl ?_
            refine ev_x (i := .iload 5) (len := 2) (p' := 122) (s' := [.int p_5.1, .int 0, .ref 66]) rfl rfl rfl ?_
            obtain ⟨p_13, G_13, H⟩ := F_bd H
            refine ev_cv (d := d + 2) (As := [.int 0, .int p_5.1]) (a := 66) (p' := 125) rfl rfl rfl ly_66 rfl rfl rfl rfl rfl rfl rfl (F_186_ok (d := d + 0)   G_13) ?_
            refine ev_st (st' := []) rfl ?_
            have e_13 := F_186_R G_13
            obtain rfl := Option.some.inj H
            exact ev_vret rfl rfl rfl
          · refine ev_b2 (t := 125) (p' := 125) rfl rfl rfl (if_pos c_12) ?_
            obtain rfl := Option.some.inj H
            exact ev_vret rfl rfl rfl
        · by_cases c_11 : p_1.1 = 29
          · refine ev_b2 (t := 104) (p' := 100) rfl rfl rfl (if_neg (fun q => q c_11)) ?_
            refine ev_x (i := .iconst 1) (len := 1) (p' := 101) (s' := [.int 1, .int (if (lg_cmp (gL (p_1.2) 163 (((gI p_1.2 66 23) - 1) : Int32).toNatClampNeg) 1) = 0 then 1 else 0 : Int32)]) rfl rfl rfl ?_
            refine ev_x (i := .goto 4) (len := 3) (p' := 105) (s' := [.int 1, .int (if (lg_cmp (gL (p_1.2) 163 (((gI p_1.2 66 23) - 1) : Int32).toNatClampNeg) 1) = 0 then 1 else 0 : Int32)]) rfl rfl rfl ?_
            exact ev_st (congrArg (fun z => Value.int z :: [.int (if (lg_cmp (gL (p_1.2) 163 (((gI p_1.2 66 23) - 1) : Int32).toNatClampNeg) 1) = 0 then 1 else 0 : Int32)]) (by rw [if_pos c_11])) J
          · refine ev_b2 (t := 104) (p' := 104) rfl rfl rfl (if_pos c_11) ?_
            refine ev_x (i := .iconst 0) (len := 1) (p' := 105) (s' := [.int 0, .int (if (lg_cmp (gL (p_1.2) 163 (((gI p_1.2 66 23) - 1) : Int32).toNatClampNeg) 1) = 0 then 1 else 0 : Int32)]) rfl rfl rfl ?_
            exact ev_st (congrArg (fun z => Value.int z :: [.int (if (lg_cmp (gL (p_1.2) 163 (((gI p_1.2 66 23) - 1) : Int32).toNatClampNeg) 1) = 0 then 1 else 0 : Int32)]) (by rw [if_neg c_11])) J
    · by_cases c_3 : (lg_cmp (gL (p_1.2) 163 (((gI p_1.2 66 23) - 1) : Int32).toNatClampNeg) 1) = 0
      · refine ev_b0 (t := 29) (p' := 25) rfl rfl rfl (if_neg (fun q => q c_3)) ?_
        refine ev_x (i := .iconst 1) (len := 1) (p' := 26) (s' := [.int 1]) rfl rfl rfl ?_
        refine ev_x (i := .goto 4) (len := 3) (p' := 30) (s' := [.int 1]) rfl rfl rfl ?_
        exact ev_st (congrArg (fun z => Value.int z :: []) (by rw [if_pos c_3])) J
      · refine ev_b0 (t := 29) (p' := 29) rfl rfl rfl (if_pos c_3) ?_
        refine ev_x (i := .iconst 0) (len := 1) (p' := 30) (s' := [.int 0]) rfl rfl rfl ?_
        exact ev_st (congrArg (fun z => Value.int z :: []) (by rw [if_neg c_3])) J
/-- GameTextModel.workOut(LGameTextModel$Game;I)V, its loops -/
def L_185 (N : Nat) (g : Nat) : Nat → st_S → Option (st_S)
  | 0, _ => none
  | k + 1, σ =>
      if (gI σ 165 1) ≤ 0 then
        some (σ)
      else
        if (gI σ 66 16) = 0 then
          (N_148 N 165 (σ)).bind fun p_4 =>
          (N_148 N 165 (p_4.2)).bind fun p_5 =>
          if p_5.1 = 0 then
            (F_187 N g p_4.1 (p_5.2)).bind fun p_7 =>
            L_185 N g k (p_7)
          else
            if p_5.1 = 1 then
              (F_192 N g p_4.1 (p_5.2)).bind fun p_9 =>
              L_185 N g k (p_9)
            else
              if p_5.1 = 2 then
                (F_197 N g p_4.1 (p_5.2)).bind fun p_11 =>
                L_185 N g k (p_11)
              else
                if aB p_4.1 (gN p_5.2 168) then
                if aB ((gI p_5.2 66 23) - 1) (gN p_5.2 163) then
                if aB p_4.1 (gN p_5.2 169) then
                if aB ((gI p_5.2 66 23) - 1) (gN p_5.2 164) then
                if aB p_4.1 (gN p_5.2 170) then
                L_185 N g k (st_E (st_E (st_e (p_5.2) 168 ((p_4.1 : Int32).toNatClampNeg) (vp_nar .boolean 1)) 169 ((p_4.1 : Int32).toNatClampNeg) (gL (p_5.2) 163 (((gI p_5.2 66 23) - 1) : Int32).toNatClampNeg)) 170 ((p_4.1 : Int32).toNatClampNeg) (gL (p_5.2) 164 (((gI p_5.2 66 23) - 1) : Int32).toNatClampNeg))
                else none
                else none
                else none
                else none
                else none
        else
          some (σ)
set_option maxRecDepth 100000 in
theorem L_185_R {N : Nat} {g : Nat} : ∀ (k : Nat) (σ : st_S) (p : st_S), L_185 N g k σ = some p → gR p = gR σ := by
  intro k
  induction k with
  | zero => intro σ p H; unfold L_185 at H; cases H
  | succ k ih =>
    intro σ p H
    unfold L_185 at H
    refine F_if H (fun _ H => ?_) (fun _ H => ?_)
    · obtain rfl := Option.some.inj H
      exact rfl
    · refine F_if H (fun _ H => ?_) (fun _ H => ?_)
      · obtain ⟨p_4, G_4, H⟩ := F_bd H
        obtain ⟨p_5, G_5, H⟩ := F_bd H
        refine F_if H (fun _ H => ?_) (fun _ H => ?_)
        · obtain ⟨p_7, G_7, H⟩ := F_bd H
          exact (((ih _ _ H)).trans ((F_187_R G_7).trans ((N_148_R G_5).trans ((N_148_R G_4).trans rfl))))
        · refine F_if H (fun _ H => ?_) (fun _ H => ?_)
          · obtain ⟨p_9, G_9, H⟩ := F_bd H
            exact (((ih _ _ H)).trans ((F_192_R G_9).trans ((N_148_R G_5).trans ((N_148_R G_4).trans rfl))))
          · refine F_if H (fun _ H => ?_) (fun _ H => ?_)
            · obtain ⟨p_11, G_11, H⟩ := F_bd H
              exact (((ih _ _ H)).trans ((F_197_R G_11).trans ((N_148_R G_5).trans ((N_148_R G_4).trans rfl))))
            · obtain ⟨_, H⟩ := F_gd H
              obtain ⟨_, H⟩ := F_gd H
              obtain ⟨_, H⟩ := F_gd H
              obtain ⟨_, H⟩ := F_gd H
              obtain ⟨_, H⟩ := F_gd H
              exact (((ih _ _ H)).trans ((N_148_R G_5).trans ((N_148_R G_4).trans rfl)))
      · obtain rfl := Option.some.inj H
        exact rfl
set_option maxHeartbeats 4000000 in
set_option maxRecDepth 100000 in
theorem L_185_ok {N d : Nat} {g : Nat} (hg : g = 79 ∨ g = 115) : ∀ k : Nat, ∀ (σ : st_S) (lv : vz_L) (p : st_S), vz_g lv 0 = some (.ref 66) → vz_g lv 1 = some (.ref g) → vz_nbL (vz_gr P0) lv = true → L_185 N g k σ = some p → vz_ev P0 (d + 5) 185 19 lv [] (hp σ) (.inl none, hp p) := by
  rcases hg with rfl | rfl
  · intro k
    induction k with
    | zero => intro σ lv p g_0 g_1 hnb H; unfold L_185 at H; cases H
    | succ k ih =>
      intro σ lv p g_0 g_1 hnb H
      unfold L_185 at H
      refine ev_x (i := .aload_n 0) (len := 1) (p' := 20) (s' := [.ref 66]) rfl rfl (ld_a g_0) ?_
      refine ev_gc (p' := 23) (v := 165) rfl rfl rfl ly_66 rfl rfl ?_
      refine ev_gi (p' := 26) (v := (gI σ 165 1)) rfl rfl rfl ly_165 rfl rfl rfl ?_
      refine F_if H (fun c_2 H => ?_) (fun c_2 H => ?_)
      · refine ev_b0 (t := 141) (p' := 141) rfl rfl rfl (if_pos c_2) ?_
        obtain rfl := Option.some.inj H
        exact ev_vret rfl rfl rfl
      · refine ev_b0 (t := 141) (p' := 29) rfl rfl rfl (if_neg c_2) ?_
        refine ev_x (i := .aload_n 0) (len := 1) (p' := 30) (s' := [.ref 66]) rfl rfl (ld_a g_0) ?_
        refine ev_gi (p' := 33) (v := (gI σ 66 16)) rfl rfl rfl ly_66 rfl rfl rfl ?_
        refine F_if H (fun c_3 H => ?_) (fun c_3 H => ?_)
        · refine ev_b0 (t := 141) (p' := 36) rfl rfl rfl (if_neg (fun q => q c_3)) ?_
          refine ev_x (i := .aload_n 0) (len := 1) (p' := 37) (s' := [.ref 66]) rfl rfl (ld_a g_0) ?_
          refine ev_gc (p' := 40) (v := 165) rfl rfl rfl ly_66 rfl rfl ?_
          obtain ⟨p_4, G_4, H⟩ := F_bd H
          refine ev_cv (d := d + 4) (As := []) (a := 165) (p' := 43) rfl rfl rfl ly_165 rfl rfl rfl rfl rfl hnb rfl (N_148_ok (d := d + 3) nm_165 G_4) ?_
          refine ev_st (st' := [.int p_4.1]) rfl ?_
          have e_4 := N_148_R G_4
          refine ev_x (i := .istore_n 3) (len := 1) (p' := 44) (s' := []) (l' := vz_s1 (lv) 3 (.int p_4.1)) rfl rfl rfl ?_
          refine ev_x (i := .aload_n 0) (len := 1) (p' := 45) (s' := [.ref 66]) rfl rfl (ld_a (vg_o (i := 3) (v := .int p_4.1) g_0 (by decide) (Or.inl rfl))) ?_
          refine ev_gc (p' := 48) (v := 165) rfl rfl rfl ly_66 rfl rfl ?_
          obtain ⟨p_5, G_5, H⟩ := F_bd H
          refine ev_cv (d := d + 4) (As := []) (a := 165) (p' := 51) rfl rfl rfl ly_165 rfl rfl rfl rfl rfl (nb_s1 hnb rfl) rfl (N_148_ok (d := d + 3) nm_165 G_5) ?_
          refine ev_st (st' := [.int p_5.1]) rfl ?_
          have e_5 := N_148_R G_5
          refine ev_x (i := .istore 4) (len := 2) (p' := 53) (s' := []) (l' := vz_s1 (vz_s1 (lv) 3 (.int p_4.1)) 4 (.int p_5.1)) rfl rfl rfl ?_
          refine ev_x (i := .iload 4) (len := 2) (p' := 55) (s' := [.int p_5.1]) rfl rfl (ld_i (vg_s (vz_s1 (lv) 3 (.int p_4.1)) 4 (.int p_5.1))) ?_
          refine F_if H (fun c_6 H => ?_) (fun c_6 H => ?_)
          · refine ev_b0 (t := 67) (p' := 58) rfl rfl rfl (if_neg (fun q => q c_6)) ?_
            refine ev_x (i := .aload_n 0) (len := 1) (p' := 59) (s' := [.ref 66]) rfl rfl (ld_a (vg_o (i := 4) (v := .int p_5.1) (vg_o (i := 3) (v := .int p_4.1) g_0 (by decide) (Or.inl rfl)) (by decide) (Or.inl rfl))) ?_
            refine ev_x (i := .aload_n 1) (len := 1) (p' := 60) (s' := [.ref 79, .ref 66]) rfl rfl (ld_a (vg_o (i := 4) (v := .int p_5.1) (vg_o (i := 3) (v := .int p_4.1) g_1 (by decide) (Or.inl rfl)) (by decide) (Or.inl rfl))) ?_
            refine ev_x (i := .iload_n 3) (len := 1) (p' := 61) (s' := [.int p_4.1, .ref 79, .ref 66]) rfl rfl (ld_i (vg_o (i := 4) (v := .int p_5.1) (vg_s (lv) 3 (.int p_4.1)) (by decide) (Or.inl rfl))) ?_
            obtain ⟨p_7, G_7, H⟩ := F_bd H
            refine ev_cv (d := d + 4) (As := [.ref 79, .int p_4.1]) (a := 66) (p' := 64) rfl rfl rfl ly_66 rfl rfl rfl rfl rfl (nb_s1 (nb_s1 hnb rfl) rfl) rfl (F_187_ok (d := d + 0) (hg := (Or.inl rfl))  G_7) ?_
            refine ev_st (st' := []) rfl ?_
            have e_7 := F_187_R G_7
            refine ev_x (i := .goto 74) (len := 3) (p' := 138) (s' := []) rfl rfl rfl ?_
            refine ev_x (i := .goto (-119)) (len := 3) (p' := 19) (s' := []) rfl rfl rfl ?_
            exact ih _ _ _ (vg_o (i := 4) (v := .int p_5.1) (vg_o (i := 3) (v := .int p_4.1) g_0 (by decide) (Or.inl rfl)) (by decide) (Or.inl rfl)) (vg_o (i := 4) (v := .int p_5.1) (vg_o (i := 3) (v := .int p_4.1) g_1 (by decide) (Or.inl rfl)) (by decide) (Or.inl rfl)) (nb_s1 (nb_s1 hnb rfl) rfl)  H
          · refine ev_b0 (t := 67) (p' := 67) rfl rfl rfl (if_pos c_6) ?_
            refine ev_x (i := .iload 4) (len := 2) (p' := 69) (s' := [.int p_5.1]) rfl rfl (ld_i (vg_s (vz_s1 (lv) 3 (.int p_4.1)) 4 (.int p_5.1))) ?_
            refine ev_x (i := .iconst 1) (len := 1) (p' := 70) (s' := [.int 1, .int p_5.1]) rfl rfl rfl ?_
            refine F_if H (fun c_8 H => ?_) (fun c_8 H => ?_)
            · refine ev_b2 (t := 82) (p' := 73) rfl rfl rfl (if_neg (fun q => q c_8)) ?_
              refine ev_x (i := .aload_n 0) (len := 1) (p' := 74) (s' := [.ref 66]) rfl rfl (ld_a (vg_o (i := 4) (v := .int p_5.1) (vg_o (i := 3) (v := .int p_4.1) g_0 (by decide) (Or.inl rfl)) (by decide) (Or.inl rfl))) ?_
              refine ev_x (i := .aload_n 1) (len := 1) (p' := 75) (s' := [.ref 79, .ref 66]) rfl rfl (ld_a (vg_o (i := 4) (v := .int p_5.1) (vg_o (i := 3) (v := .int p_4.1) g_1 (by decide) (Or.inl rfl)) (by decide) (Or.inl rfl))) ?_
              refine ev_x (i := .iload_n 3) (len := 1) (p' := 76) (s' := [.int p_4.1, .ref 79, .ref 66]) rfl rfl (ld_i (vg_o (i := 4) (v := .int p_5.1) (vg_s (lv) 3 (.int p_4.1)) (by decide) (Or.inl rfl))) ?_
              obtain ⟨p_9, G_9, H⟩ := F_bd H
              refine ev_cv (d := d + 4) (As := [.ref 79, .int p_4.1]) (a := 66) (p' := 79) rfl rfl rfl ly_66 rfl rfl rfl rfl rfl (nb_s1 (nb_s1 hnb rfl) rfl) rfl (F_192_ok (d := d + 0) (hg := (Or.inl rfl))  G_9) ?_
              refine ev_st (st' := []) rfl ?_
              have e_9 := F_192_R G_9
              refine ev_x (i := .goto 59) (len := 3) (p' := 138) (s' := []) rfl rfl rfl ?_
              refine ev_x (i := .goto (-119)) (len := 3) (p' := 19) (s' := []) rfl rfl rfl ?_
              exact ih _ _ _ (vg_o (i := 4) (v := .int p_5.1) (vg_o (i := 3) (v := .int p_4.1) g_0 (by decide) (Or.inl rfl)) (by decide) (Or.inl rfl)) (vg_o (i := 4) (v := .int p_5.1) (vg_o (i := 3) (v := .int p_4.1) g_1 (by decide) (Or.inl rfl)) (by decide) (Or.inl rfl)) (nb_s1 (nb_s1 hnb rfl) rfl)  H
            · refine ev_b2 (t := 82) (p' := 82) rfl rfl rfl (if_pos c_8) ?_
              refine ev_x (i := .iload 4) (len := 2) (p' := 84) (s' := [.int p_5.1]) rfl rfl (ld_i (vg_s (vz_s1 (lv) 3 (.int p_4.1)) 4 (.int p_5.1))) ?_
              refine ev_x (i := .iconst 2) (len := 1) (p' := 85) (s' := [.int 2, .int p_5.1]) rfl rfl rfl ?_
              refine F_if H (fun c_10 H => ?_) (fun c_10 H => ?_)
              · refine ev_b2 (t := 97) (p' := 88) rfl rfl rfl (if_neg (fun q => q c_10)) ?_
                refine ev_x (i := .aload_n 0) (len := 1) (p' := 89) (s' := [.ref 66]) rfl rfl (ld_a (vg_o (i := 4) (v := .int p_5.1) (vg_o (i := 3) (v := .int p_4.1) g_0 (by decide) (Or.inl rfl)) (by decide) (Or.inl rfl))) ?_
                refine ev_x (i := .aload_n 1) (len := 1) (p' := 90) (s' := [.ref 79, .ref 66]) rfl rfl (ld_a (vg_o (i := 4) (v := .int p_5.1) (vg_o (i := 3) (v := .int p_4.1) g_1 (by decide) (Or.inl rfl)) (by decide) (Or.inl rfl))) ?_
                refine ev_x (i := .iload_n 3) (len := 1) (p' := 91) (s' := [.int p_4.1, .ref 79, .ref 66]) rfl rfl (ld_i (vg_o (i := 4) (v := .int p_5.1) (vg_s (lv) 3 (.int p_4.1)) (by decide) (Or.inl rfl))) ?_
                obtain ⟨p_11, G_11, H⟩ := F_bd H
                refine ev_cv (d := d + 4) (As := [.ref 79, .int p_4.1]) (a := 66) (p' := 94) rfl rfl rfl ly_66 rfl rfl rfl rfl rfl (nb_s1 (nb_s1 hnb rfl) rfl) rfl (F_197_ok (d := d + 1) (hg := (Or.inl rfl))  G_11) ?_
                refine ev_st (st' := []) rfl ?_
                have e_11 := F_197_R G_11
                refine ev_x (i := .goto 44) (len := 3) (p' := 138) (s' := []) rfl rfl rfl ?_
                refine ev_x (i := .goto (-119)) (len := 3) (p' := 19) (s' := []) rfl rfl rfl ?_
                exact ih _ _ _ (vg_o (i := 4) (v := .int p_5.1) (vg_o (i := 3) (v := .int p_4.1) g_0 (by decide) (Or.inl rfl)) (by decide) (Or.inl rfl)) (vg_o (i := 4) (v := .int p_5.1) (vg_o (i := 3) (v := .int p_4.1) g_1 (by decide) (Or.inl rfl)) (by decide) (Or.inl rfl)) (nb_s1 (nb_s1 hnb rfl) rfl)  H
              · refine ev_b2 (t := 97) (p' := 97) rfl rfl rfl (if_pos c_10) ?_
                refine ev_x (i := .aload_n 0) (len := 1) (p' := 98) (s' := [.ref 66]) rfl rfl (ld_a (vg_o (i := 4) (v := .int p_5.1) (vg_o (i := 3) (v := .int p_4.1) g_0 (by decide) (Or.inl rfl)) (by decide) (Or.inl rfl))) ?_
                refine ev_gc (p' := 101) (v := 168) rfl rfl rfl ly_66 rfl rfl ?_
                refine ev_x (i := .iload_n 3) (len := 1) (p' := 102) (s' := [.int p_4.1, .ref 168]) rfl rfl (ld_i (vg_o (i := 4) (v := .int p_5.1) (vg_s (lv) 3 (.int p_4.1)) (by decide) (Or.inl rfl))) ?_
                refine ev_x (i := .iconst 1) (len := 1) (p' := 103) (s' := [.int 1, .int p_4.1, .ref 168]) rfl rfl rfl ?_
                obtain ⟨b_12, H⟩ := F_gd H
                refine ev_pb (j := (p_4.1 : Int32).toNatClampNeg) (p' := 104) rfl rfl ly_168 rfl (gd_in b_12) rfl ?_
                refine ev_x (i := .aload_n 0) (len := 1) (p' := 105) (s' := [.ref 66]) rfl rfl (ld_a (vg_o (i := 4) (v := .int p_5.1) (vg_o (i := 3) (v := .int p_4.1) g_0 (by decide) (Or.inl rfl)) (by decide) (Or.inl rfl))) ?_
                refine ev_gc (p' := 108) (v := 169) rfl rfl rfl ly_66 rfl rfl ?_
                refine ev_x (i := .iload_n 3) (len := 1) (p' := 109) (s' := [.int p_4.1, .ref 169]) rfl rfl (ld_i (vg_o (i := 4) (v := .int p_5.1) (vg_s (lv) 3 (.int p_4.1)) (by decide) (Or.inl rfl))) ?_
                refine ev_x (i := .aload_n 0) (len := 1) (p' := 110) (s' := [.ref 66, .int p_4.1, .ref 169]) rfl rfl (ld_a (vg_o (i := 4) (v := .int p_5.1) (vg_o (i := 3) (v := .int p_4.1) g_0 (by decide) (Or.inl rfl)) (by decide) (Or.inl rfl))) ?_
                refine ev_gc (p' := 113) (v := 163) rfl rfl rfl ly_66 rfl rfl ?_
                refine ev_x (i := .aload_n 0) (len := 1) (p' := 114) (s' := [.ref 66, .ref 163, .int p_4.1, .ref 169]) rfl rfl (ld_a (vg_o (i := 4) (v := .int p_5.1) (vg_o (i := 3) (v := .int p_4.1) g_0 (by decide) (Or.inl rfl)) (by decide) (Or.inl rfl))) ?_
                refine ev_gi (p' := 117) (v := (gI p_5.2 66 23)) rfl rfl rfl ly_66 rfl rfl rfl ?_
                refine ev_x (i := .iconst 1) (len := 1) (p' := 118) (s' := [.int 1, .int (gI p_5.2 66 23), .ref 163, .int p_4.1, .ref 169]) rfl rfl rfl ?_
                refine ev_x (i := .isub) (len := 1) (p' := 119) (s' := [.int ((gI p_5.2 66 23) - 1), .ref 163, .int p_4.1, .ref 169]) rfl rfl rfl ?_
                obtain ⟨b_13, H⟩ := F_gd H
                refine ev_gL (p' := 120) (v := (gL (p_5.2) 163 (((gI p_5.2 66 23) - 1) : Int32).toNatClampNeg)) rfl rfl ly_163 rfl (gd_in b_13) rfl ?_
                obtain ⟨b_14, H⟩ := F_gd H
                refine ev_pL (j := (p_4.1 : Int32).toNatClampNeg) (p' := 121) rfl rfl ly_169 rfl (gd_in b_14) rfl ?_
                refine ev_x (i := .aload_n 0) (len := 1) (p' := 122) (s' := [.ref 66]) rfl rfl (ld_a (vg_o (i := 4) (v := .int p_5.1) (vg_o (i := 3) (v := .int p_4.1) g_0 (by decide) (Or.inl rfl)) (by decide) (Or.inl rfl))) ?_
                refine ev_gc (p' := 125) (v := 170) rfl rfl rfl ly_66 rfl rfl ?_
                refine ev_x (i := .iload_n 3) (len := 1) (p' := 126) (s' := [.int p_4.1, .ref 170]) rfl rfl (ld_i (vg_o (i := 4) (v := .int p_5.1) (vg_s (lv) 3 (.int p_4.1)) (by decide) (Or.inl rfl))) ?_
                refine ev_x (i := .aload_n 0) (len := 1) (p' := 127) (s' := [.ref 66, .int p_4.1, .ref 170]) rfl rfl (ld_a (vg_o (i := 4) (v := .int p_5.1) (vg_o (i := 3) (v := .int p_4.1) g_0 (by decide) (Or.inl rfl)) (by decide) (Or.inl rfl))) ?_
                refine ev_gc (p' := 130) (v := 164) rfl rfl rfl ly_66 rfl rfl ?_
                refine ev_x (i := .aload_n 0) (len := 1) (p' := 131) (s' := [.ref 66, .ref 164, .int p_4.1, .ref 170]) rfl rfl (ld_a (vg_o (i := 4) (v := .int p_5.1) (vg_o (i := 3) (v := .int p_4.1) g_0 (by decide) (Or.inl rfl)) (by decide) (Or.inl rfl))) ?_
                refine ev_gi (p' := 134) (v := (gI p_5.2 66 23)) rfl rfl rfl ly_66 rfl rfl rfl ?_
                refine ev_x (i := .iconst 1) (len := 1) (p' := 135) (s' := [.int 1, .int (gI p_5.2 66 23), .ref 164, .int p_4.1, .ref 170]) rfl rfl rfl ?_
                refine ev_x (i := .isub) (len := 1) (p' := 136) (s' := [.int ((gI p_5.2 66 23) - 1), .ref 164, .int p_4.1, .ref 170]) rfl rfl rfl ?_
                obtain ⟨b_15, H⟩ := F_gd H
                refine ev_gL (p' := 137) (v := (gL (p_5.2) 164 (((gI p_5.2 66 23) - 1) : Int32).toNatClampNeg)) rfl rfl ly_164 rfl (gd_in b_15) rfl ?_
                obtain ⟨b_16, H⟩ := F_gd H
                refine ev_pL (j := (p_4.1 : Int32).toNatClampNeg) (p' := 138) rfl rfl ly_170 rfl (gd_in b_16) rfl ?_
                refine ev_x (i := .goto (-119)) (len := 3) (p' := 19) (s' := []) rfl rfl rfl ?_
                exact ih _ _ _ (vg_o (i := 4) (v := .int p_5.1) (vg_o (i := 3) (v := .int p_4.1) g_0 (by decide) (Or.inl rfl)) (by decide) (Or.inl rfl)) (vg_o (i := 4) (v := .int p_5.1) (vg_o (i := 3) (v := .int p_4.1) g_1 (by decide) (Or.inl rfl)) (by decide) (Or.inl rfl)) (nb_s1 (nb_s1 hnb rfl) rfl)  H
        · refine ev_b0 (t := 141) (p' := 141) rfl rfl rfl (if_pos c_3) ?_
          obtain rfl := Option.some.inj H
          exact ev_vret rfl rfl rfl
  · intro k
    induction k with
    | zero => intro σ lv p g_0 g_1 hnb H; unfold L_185 at H; cases H
    | succ k ih =>
      intro σ lv p g_0 g_1 hnb H
      unfold L_185 at H
      refine ev_x (i := .aload_n 0) (len := 1) (p' := 20) (s' := [.ref 66]) rfl rfl (ld_a g_0) ?_
      refine ev_gc (p' := 23) (v := 165) rfl rfl rfl ly_66 rfl rfl ?_
      refine ev_gi (p' := 26) (v := (gI σ 165 1)) rfl rfl rfl ly_165 rfl rfl rfl ?_
      refine F_if H (fun c_2 H => ?_) (fun c_2 H => ?_)
      · refine ev_b0 (t := 141) (p' := 141) rfl rfl rfl (if_pos c_2) ?_
        obtain rfl := Option.some.inj H
        exact ev_vret rfl rfl rfl
      · refine ev_b0 (t := 141) (p' := 29) rfl rfl rfl (if_neg c_2) ?_
        refine ev_x (i := .aload_n 0) (len := 1) (p' := 30) (s' := [.ref 66]) rfl rfl (ld_a g_0) ?_
        refine ev_gi (p' := 33) (v := (gI σ 66 16)) rfl rfl rfl ly_66 rfl rfl rfl ?_
        refine F_if H (fun c_3 H => ?_) (fun c_3 H => ?_)
        · refine ev_b0 (t := 141) (p' := 36) rfl rfl rfl (if_neg (fun q => q c_3)) ?_
          refine ev_x (i := .aload_n 0) (len := 1) (p' := 37) (s' := [.ref 66]) rfl rfl (ld_a g_0) ?_
          refine ev_gc (p' := 40) (v := 165) rfl rfl rfl ly_66 rfl rfl ?_
          obtain ⟨p_4, G_4, H⟩ := F_bd H
          refine ev_cv (d := d + 4) (As := []) (a := 165) (p' := 43) rfl rfl rfl ly_165 rfl rfl rfl rfl rfl hnb rfl (N_148_ok (d := d + 3) nm_165 G_4) ?_
          refine ev_st (st' := [.int p_4.1]) rfl ?_
          have e_4 := N_148_R G_4
          refine ev_x (i := .istore_n 3) (len := 1) (p' := 44) (s' := []) (l' := vz_s1 (lv) 3 (.int p_4.1)) rfl rfl rfl ?_
          refine ev_x (i := .aload_n 0) (len := 1) (p' := 45) (s' := [.ref 66]) rfl rfl (ld_a (vg_o (i := 3) (v := .int p_4.1) g_0 (by decide) (Or.inl rfl))) ?_
          refine ev_gc (p' := 48) (v := 165) rfl rfl rfl ly_66 rfl rfl ?_
          obtain ⟨p_5, G_5, H⟩ := F_bd H
          refine ev_cv (d := d + 4) (As := []) (a := 165) (p' := 51) rfl rfl rfl ly_165 rfl rfl rfl rfl rfl (nb_s1 hnb rfl) rfl (N_148_ok (d := d + 3) nm_165 G_5) ?_
          refine ev_st (st' := [.int p_5.1]) rfl ?_
          have e_5 := N_148_R G_5
          refine ev_x (i := .istore 4) (len := 2) (p' := 53) (s' := []) (l' := vz_s1 (vz_s1 (lv) 3 (.int p_4.1)) 4 (.int p_5.1)) rfl rfl rfl ?_
          refine ev_x (i := .iload 4) (len := 2) (p' := 55) (s' := [.int p_5.1]) rfl rfl (ld_i (vg_s (vz_s1 (lv) 3 (.int p_4.1)) 4 (.int p_5.1))) ?_
          refine F_if H (fun c_6 H => ?_) (fun c_6 H => ?_)
          · refine ev_b0 (t := 67) (p' := 58) rfl rfl rfl (if_neg (fun q => q c_6)) ?_
            refine ev_x (i := .aload_n 0) (len := 1) (p' := 59) (s' := [.ref 66]) rfl rfl (ld_a (vg_o (i := 4) (v := .int p_5.1) (vg_o (i := 3) (v := .int p_4.1) g_0 (by decide) (Or.inl rfl)) (by decide) (Or.inl rfl))) ?_
            refine ev_x (i := .aload_n 1) (len := 1) (p' := 60) (s' := [.ref 115, .ref 66]) rfl rfl (ld_a (vg_o (i := 4) (v := .int p_5.1) (vg_o (i := 3) (v := .int p_4.1) g_1 (by decide) (Or.inl rfl)) (by decide) (Or.inl rfl))) ?_
            refine ev_x (i := .iload_n 3) (len := 1) (p' := 61) (s' := [.int p_4.1, .ref 115, .ref 66]) rfl rfl (ld_i (vg_o (i := 4) (v := .int p_5.1) (vg_s (lv) 3 (.int p_4.1)) (by decide) (Or.inl rfl))) ?_
            obtain ⟨p_7, G_7, H⟩ := F_bd H
            refine ev_cv (d := d + 4) (As := [.ref 115, .int p_4.1]) (a := 66) (p' := 64) rfl rfl rfl ly_66 rfl rfl rfl rfl rfl (nb_s1 (nb_s1 hnb rfl) rfl) rfl (F_187_ok (d := d + 0) (hg := (Or.inr rfl))  G_7) ?_
            refine ev_st (st' := []) rfl ?_
            have e_7 := F_187_R G_7
            refine ev_x (i := .goto 74) (len := 3) (p' := 138) (s' := []) rfl rfl rfl ?_
            refine ev_x (i := .goto (-119)) (len := 3) (p' := 19) (s' := []) rfl rfl rfl ?_
            exact ih _ _ _ (vg_o (i := 4) (v := .int p_5.1) (vg_o (i := 3) (v := .int p_4.1) g_0 (by decide) (Or.inl rfl)) (by decide) (Or.inl rfl)) (vg_o (i := 4) (v := .int p_5.1) (vg_o (i := 3) (v := .int p_4.1) g_1 (by decide) (Or.inl rfl)) (by decide) (Or.inl rfl)) (nb_s1 (nb_s1 hnb rfl) rfl)  H
          · refine ev_b0 (t := 67) (p' := 67) rfl rfl rfl (if_pos c_6) ?_
            refine ev_x (i := .iload 4) (len := 2) (p' := 69) (s' := [.int p_5.1]) rfl rfl (ld_i (vg_s (vz_s1 (lv) 3 (.int p_4.1)) 4 (.int p_5.1))) ?_
            refine ev_x (i := .iconst 1) (len := 1) (p' := 70) (s' := [.int 1, .int p_5.1]) rfl rfl rfl ?_
            refine F_if H (fun c_8 H => ?_) (fun c_8 H => ?_)
            · refine ev_b2 (t := 82) (p' := 73) rfl rfl rfl (if_neg (fun q => q c_8)) ?_
              refine ev_x (i := .aload_n 0) (len := 1) (p' := 74) (s' := [.ref 66]) rfl rfl (ld_a (vg_o (i := 4) (v := .int p_5.1) (vg_o (i := 3) (v := .int p_4.1) g_0 (by decide) (Or.inl rfl)) (by decide) (Or.inl rfl))) ?_
              refine ev_x (i := .aload_n 1) (len := 1) (p' := 75) (s' := [.ref 115, .ref 66]) rfl rfl (ld_a (vg_o (i := 4) (v := .int p_5.1) (vg_o (i := 3) (v := .int p_4.1) g_1 (by decide) (Or.inl rfl)) (by decide) (Or.inl rfl))) ?_
              refine ev_x (i := .iload_n 3) (len := 1) (p' := 76) (s' := [.int p_4.1, .ref 115, .ref 66]) rfl rfl (ld_i (vg_o (i := 4) (v := .int p_5.1) (vg_s (lv) 3 (.int p_4.1)) (by decide) (Or.inl rfl))) ?_
              obtain ⟨p_9, G_9, H⟩ := F_bd H
              refine ev_cv (d := d + 4) (As := [.ref 115, .int p_4.1]) (a := 66) (p' := 79) rfl rfl rfl ly_66 rfl rfl rfl rfl rfl (nb_s1 (nb_s1 hnb rfl) rfl) rfl (F_192_ok (d := d + 0) (hg := (Or.inr rfl))  G_9) ?_
              refine ev_st (st' := []) rfl ?_
              have e_9 := F_192_R G_9
              refine ev_x (i := .goto 59) (len := 3) (p' := 138) (s' := []) rfl rfl rfl ?_
              refine ev_x (i := .goto (-119)) (len := 3) (p' := 19) (s' := []) rfl rfl rfl ?_
              exact ih _ _ _ (vg_o (i := 4) (v := .int p_5.1) (vg_o (i := 3) (v := .int p_4.1) g_0 (by decide) (Or.inl rfl)) (by decide) (Or.inl rfl)) (vg_o (i := 4) (v := .int p_5.1) (vg_o (i := 3) (v := .int p_4.1) g_1 (by decide) (Or.inl rfl)) (by decide) (Or.inl rfl)) (nb_s1 (nb_s1 hnb rfl) rfl)  H
            · refine ev_b2 (t := 82) (p' := 82) rfl rfl rfl (if_pos c_8) ?_
              refine ev_x (i := .iload 4) (len := 2) (p' := 84) (s' := [.int p_5.1]) rfl rfl (ld_i (vg_s (vz_s1 (lv) 3 (.int p_4.1)) 4 (.int p_5.1))) ?_
              refine ev_x (i := .iconst 2) (len := 1) (p' := 85) (s' := [.int 2, .int p_5.1]) rfl rfl rfl ?_
              refine F_if H (fun c_10 H => ?_) (fun c_10 H => ?_)
              · refine ev_b2 (t := 97) (p' := 88) rfl rfl rfl (if_neg (fun q => q c_10)) ?_
                refine ev_x (i := .aload_n 0) (len := 1) (p' := 89) (s' := [.ref 66]) rfl rfl (ld_a (vg_o (i := 4) (v := .int p_5.1) (vg_o (i := 3) (v := .int p_4.1) g_0 (by decide) (Or.inl rfl)) (by decide) (Or.inl rfl))) ?_
                refine ev_x (i := .aload_n 1) (len := 1) (p' := 90) (s' := [.ref 115, .ref 66]) rfl rfl (ld_a (vg_o (i := 4) (v := .int p_5.1) (vg_o (i := 3) (v := .int p_4.1) g_1 (by decide) (Or.inl rfl)) (by decide) (Or.inl rfl))) ?_
                refine ev_x (i := .iload_n 3) (len := 1) (p' := 91) (s' := [.int p_4.1, .ref 115, .ref 66]) rfl rfl (ld_i (vg_o (i := 4) (v := .int p_5.1) (vg_s (lv) 3 (.int p_4.1)) (by decide) (Or.inl rfl))) ?_
                obtain ⟨p_11, G_11, H⟩ := F_bd H
                refine ev_cv (d := d + 4) (As := [.ref 115, .int p_4.1]) (a := 66) (p' := 94) rfl rfl rfl ly_66 rfl rfl rfl rfl rfl (nb_s1 (nb_s1 hnb rfl) rfl) rfl (F_197_ok (d := d + 1) (hg := (Or.inr rfl))  G_11) ?_
                refine ev_st (st' := []) rfl ?_
                have e_11 := F_197_R G_11
                refine ev_x (i := .goto 44) (len := 3) (p' := 138) (s' := []) rfl rfl rfl ?_
                refine ev_x (i := .goto (-119)) (len := 3) (p' := 19) (s' := []) rfl rfl rfl ?_
                exact ih _ _ _ (vg_o (i := 4) (v := .int p_5.1) (vg_o (i := 3) (v := .int p_4.1) g_0 (by decide) (Or.inl rfl)) (by decide) (Or.inl rfl)) (vg_o (i := 4) (v := .int p_5.1) (vg_o (i := 3) (v := .int p_4.1) g_1 (by decide) (Or.inl rfl)) (by decide) (Or.inl rfl)) (nb_s1 (nb_s1 hnb rfl) rfl)  H
              · refine ev_b2 (t := 97) (p' := 97) rfl rfl rfl (if_pos c_10) ?_
                refine ev_x (i := .aload_n 0) (len := 1) (p' := 98) (s' := [.ref 66]) rfl rfl (ld_a (vg_o (i := 4) (v := .int p_5.1) (vg_o (i := 3) (v := .int p_4.1) g_0 (by decide) (Or.inl rfl)) (by decide) (Or.inl rfl))) ?_
                refine ev_gc (p' := 101) (v := 168) rfl rfl rfl ly_66 rfl rfl ?_
                refine ev_x (i := .iload_n 3) (len := 1) (p' := 102) (s' := [.int p_4.1, .ref 168]) rfl rfl (ld_i (vg_o (i := 4) (v := .int p_5.1) (vg_s (lv) 3 (.int p_4.1)) (by decide) (Or.inl rfl))) ?_
                refine ev_x (i := .iconst 1) (len := 1) (p' := 103) (s' := [.int 1, .int p_4.1, .ref 168]) rfl rfl rfl ?_
                obtain ⟨b_12, H⟩ := F_gd H
                refine ev_pb (j := (p_4.1 : Int32).toNatClampNeg) (p' := 104) rfl rfl ly_168 rfl (gd_in b_12) rfl ?_
                refine ev_x (i := .aload_n 0) (len := 1) (p' := 105) (s' := [.ref 66]) rfl rfl (ld_a (vg_o (i := 4) (v := .int p_5.1) (vg_o (i := 3) (v := .int p_4.1) g_0 (by decide) (Or.inl rfl)) (by decide) (Or.inl rfl))) ?_
                refine ev_gc (p' := 108) (v := 169) rfl rfl rfl ly_66 rfl rfl ?_
                refine ev_x (i := .iload_n 3) (len := 1) (p' := 109) (s' := [.int p_4.1, .ref 169]) rfl rfl (ld_i (vg_o (i := 4) (v := .int p_5.1) (vg_s (lv) 3 (.int p_4.1)) (by decide) (Or.inl rfl))) ?_
                refine ev_x (i := .aload_n 0) (len := 1) (p' := 110) (s' := [.ref 66, .int p_4.1, .ref 169]) rfl rfl (ld_a (vg_o (i := 4) (v := .int p_5.1) (vg_o (i := 3) (v := .int p_4.1) g_0 (by decide) (Or.inl rfl)) (by decide) (Or.inl rfl))) ?_
                refine ev_gc (p' := 113) (v := 163) rfl rfl rfl ly_66 rfl rfl ?_
                refine ev_x (i := .aload_n 0) (len := 1) (p' := 114) (s' := [.ref 66, .ref 163, .int p_4.1, .ref 169]) rfl rfl (ld_a (vg_o (i := 4) (v := .int p_5.1) (vg_o (i := 3) (v := .int p_4.1) g_0 (by decide) (Or.inl rfl)) (by decide) (Or.inl rfl))) ?_
                refine ev_gi (p' := 117) (v := (gI p_5.2 66 23)) rfl rfl rfl ly_66 rfl rfl rfl ?_
                refine ev_x (i := .iconst 1) (len := 1) (p' := 118) (s' := [.int 1, .int (gI p_5.2 66 23), .ref 163, .int p_4.1, .ref 169]) rfl rfl rfl ?_
                refine ev_x (i := .isub) (len := 1) (p' := 119) (s' := [.int ((gI p_5.2 66 23) - 1), .ref 163, .int p_4.1, .ref 169]) rfl rfl rfl ?_
                obtain ⟨b_13, H⟩ := F_gd H
                refine ev_gL (p' := 120) (v := (gL (p_5.2) 163 (((gI p_5.2 66 23) - 1) : Int32).toNatClampNeg)) rfl rfl ly_163 rfl (gd_in b_13) rfl ?_
                obtain ⟨b_14, H⟩ := F_gd H
                refine ev_pL (j := (p_4.1 : Int32).toNatClampNeg) (p' := 121) rfl rfl ly_169 rfl (gd_in b_14) rfl ?_
                refine ev_x (i := .aload_n 0) (len := 1) (p' := 122) (s' := [.ref 66]) rfl rfl (ld_a (vg_o (i := 4) (v := .int p_5.1) (vg_o (i := 3) (v := .int p_4.1) g_0 (by decide) (Or.inl rfl)) (by decide) (Or.inl rfl))) ?_
                refine ev_gc (p' := 125) (v := 170) rfl rfl rfl ly_66 rfl rfl ?_
                refine ev_x (i := .iload_n 3) (len := 1) (p' := 126) (s' := [.int p_4.1, .ref 170]) rfl rfl (ld_i (vg_o (i := 4) (v := .int p_5.1) (vg_s (lv) 3 (.int p_4.1)) (by decide) (Or.inl rfl))) ?_
                refine ev_x (i := .aload_n 0) (len := 1) (p' := 127) (s' := [.ref 66, .int p_4.1, .ref 170]) rfl rfl (ld_a (vg_o (i := 4) (v := .int p_5.1) (vg_o (i := 3) (v := .int p_4.1) g_0 (by decide) (Or.inl rfl)) (by decide) (Or.inl rfl))) ?_
                refine ev_gc (p' := 130) (v := 164) rfl rfl rfl ly_66 rfl rfl ?_
                refine ev_x (i := .aload_n 0) (len := 1) (p' := 131) (s' := [.ref 66, .ref 164, .int p_4.1, .ref 170]) rfl rfl (ld_a (vg_o (i := 4) (v := .int p_5.1) (vg_o (i := 3) (v := .int p_4.1) g_0 (by decide) (Or.inl rfl)) (by decide) (Or.inl rfl))) ?_
                refine ev_gi (p' := 134) (v := (gI p_5.2 66 23)) rfl rfl rfl ly_66 rfl rfl rfl ?_
                refine ev_x (i := .iconst 1) (len := 1) (p' := 135) (s' := [.int 1, .int (gI p_5.2 66 23), .ref 164, .int p_4.1, .ref 170]) rfl rfl rfl ?_
                refine ev_x (i := .isub) (len := 1) (p' := 136) (s' := [.int ((gI p_5.2 66 23) - 1), .ref 164, .int p_4.1, .ref 170]) rfl rfl rfl ?_
                obtain ⟨b_15, H⟩ := F_gd H
                refine ev_gL (p' := 137) (v := (gL (p_5.2) 164 (((gI p_5.2 66 23) - 1) : Int32).toNatClampNeg)) rfl rfl ly_164 rfl (gd_in b_15) rfl ?_
                obtain ⟨b_16, H⟩ := F_gd H
                refine ev_pL (j := (p_4.1 : Int32).toNatClampNeg) (p' := 138) rfl rfl ly_170 rfl (gd_in b_16) rfl ?_
                refine ev_x (i := .goto (-119)) (len := 3) (p' := 19) (s' := []) rfl rfl rfl ?_
                exact ih _ _ _ (vg_o (i := 4) (v := .int p_5.1) (vg_o (i := 3) (v := .int p_4.1) g_0 (by decide) (Or.inl rfl)) (by decide) (Or.inl rfl)) (vg_o (i := 4) (v := .int p_5.1) (vg_o (i := 3) (v := .int p_4.1) g_1 (by decide) (Or.inl rfl)) (by decide) (Or.inl rfl)) (nb_s1 (nb_s1 hnb rfl) rfl)  H
        · refine ev_b0 (t := 141) (p' := 141) rfl rfl rfl (if_pos c_3) ?_
          obtain rfl := Option.some.inj H
          exact ev_vret rfl rfl rfl
/-- GameTextModel.workOut(LGameTextModel$Game;I)V -/
def F_185 (N : Nat) (g : Nat) (x_2 : Int32) (σ : st_S) : Option (st_S) :=
  (F_186 N 0 x_2 (st_i (st_i (σ) 66 23 0) 165 1 0)).bind fun p_1 =>
  L_185 N g N (p_1)
set_option maxRecDepth 100000 in
theorem F_185_R {N : Nat} {g : Nat} {x_2 : Int32} {σ : st_S} {p : st_S} (H : F_185 N g x_2 σ = some p) : gR p = gR σ := by
  unfold F_185 at H
  obtain ⟨p_1, G_1, H⟩ := F_bd H
  exact (((L_185_R _ _ _ H)).trans ((F_186_R G_1).trans rfl))
set_option maxHeartbeats 4000000 in
set_option maxRecDepth 100000 in
theorem F_185_ok {N d : Nat} {g : Nat} (hg : g = 79 ∨ g = 115) {x_2 : Int32} {σ : st_S} {p : st_S}  (H : F_185 N g x_2 σ = some p) : vz_ev P0 (d + 5) 185 0 (lv_args 0 [.ref 66, .ref g, .int x_2]) [] (hp σ) (.inl none, hp p) := by
  unfold F_185 at H
  rcases hg with rfl | rfl
  · refine ev_x (i := .aload_n 0) (len := 1) (p' := 1) (s' := [.ref 66]) rfl rfl rfl ?_
    refine ev_x (i := .iconst 0) (len := 1) (p' := 2) (s' := [.int 0, .ref 66]) rfl rfl rfl ?_
    refine ev_pi (p' := 5) rfl rfl rfl ly_66 rfl rfl rfl rfl ?_
    refine ev_x (i := .aload_n 0) (len := 1) (p' := 6) (s' := [.ref 66]) rfl rfl rfl ?_
    refine ev_gc (p' := 9) (v := 165) rfl rfl rfl ly_66 rfl rfl ?_
    refine ev_x (i := .iconst 0) (len := 1) (p' := 10) (s' := [.int 0, .ref 165]) rfl rfl rfl ?_
    refine ev_pi (p' := 13) rfl rfl rfl ly_165 rfl rfl rfl rfl ?_
    refine ev_x (i := .aload_n 0) (len := 1) (p' := 14) (s' := [.ref 66]) rfl rfl rfl ?_
    refine ev_x (i := .iconst 0) (len := 1) (p' := 15) (s' := [.int 0, .ref 66]) rfl rfl rfl ?_
    refine ev_x (i := .iload_n 2) (len := 1) (p' := 16) (s' := [.int x_2, .int 0, .ref 66]) rfl rfl rfl ?_
    obtain ⟨p_1, G_1, H⟩ := F_bd H
    refine ev_cv (d := d + 4) (As := [.int 0, .int x_2]) (a := 66) (p' := 19) rfl rfl rfl ly_66 rfl rfl rfl rfl rfl rfl rfl (F_186_ok (d := d + 2)   G_1) ?_
    refine ev_st (st' := []) rfl ?_
    have e_1 := F_186_R G_1
    exact (L_185_ok (d := d) (Or.inl rfl) N) _ _ _ rfl rfl rfl  H
  · refine ev_x (i := .aload_n 0) (len := 1) (p' := 1) (s' := [.ref 66]) rfl rfl rfl ?_
    refine ev_x (i := .iconst 0) (len := 1) (p' := 2) (s' := [.int 0, .ref 66]) rfl rfl rfl ?_
    refine ev_pi (p' := 5) rfl rfl rfl ly_66 rfl rfl rfl rfl ?_
    refine ev_x (i := .aload_n 0) (len := 1) (p' := 6) (s' := [.ref 66]) rfl rfl rfl ?_
    refine ev_gc (p' := 9) (v := 165) rfl rfl rfl ly_66 rfl rfl ?_
    refine ev_x (i := .iconst 0) (len := 1) (p' := 10) (s' := [.int 0, .ref 165]) rfl rfl rfl ?_
    refine ev_pi (p' := 13) rfl rfl rfl ly_165 rfl rfl rfl rfl ?_
    refine ev_x (i := .aload_n 0) (len := 1) (p' := 14) (s' := [.ref 66]) rfl rfl rfl ?_
    refine ev_x (i := .iconst 0) (len := 1) (p' := 15) (s' := [.int 0, .ref 66]) rfl rfl rfl ?_
    refine ev_x (i := .iload_n 2) (len := 1) (p' := 16) (s' := [.int x_2, .int 0, .ref 66]) rfl rfl rfl ?_
    obtain ⟨p_1, G_1, H⟩ := F_bd H
    refine ev_cv (d := d + 4) (As := [.int 0, .int x_2]) (a := 66) (p' := 19) rfl rfl rfl ly_66 rfl rfl rfl rfl rfl rfl rfl (F_186_ok (d := d + 2)   G_1) ?_
    refine ev_st (st' := []) rfl ?_
    have e_1 := F_186_R G_1
    exact (L_185_ok (d := d) (Or.inr rfl) N) _ _ _ rfl rfl rfl  H
