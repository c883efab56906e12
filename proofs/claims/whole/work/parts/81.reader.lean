/-! methods as functions of the store. Written by wip/prog/dec2.py, gen_all.py -/
/-- GameTextModel.want(III)V -/
def F_151 (N : Nat) (x_1 : Int32) (x_2 : Int32) (x_3 : Int32) (σ : st_S) : Option (st_S) :=
  (N_133 N 77 x_3 (σ)).bind fun p_1 =>
  (N_133 N 77 x_2 (p_1)).bind fun p_2 =>
  (N_133 N 77 x_1 (p_2)).bind fun p_3 =>
  some (p_3)
set_option maxRecDepth 100000 in
theorem F_151_R {N : Nat} {x_1 : Int32} {x_2 : Int32} {x_3 : Int32} {σ : st_S} {p : st_S} (H : F_151 N x_1 x_2 x_3 σ = some p) : gR p = gR σ := by
  unfold F_151 at H
  obtain ⟨p_1, G_1, H⟩ := F_bd H
  obtain ⟨p_2, G_2, H⟩ := F_bd H
  obtain ⟨p_3, G_3, H⟩ := F_bd H
  obtain rfl := Option.some.inj H
  exact ((N_133_R G_3).trans ((N_133_R G_2).trans ((N_133_R G_1).trans rfl)))
set_option maxHeartbeats 4000000 in
set_option maxRecDepth 100000 in
theorem F_151_ok {N d : Nat} {x_1 : Int32} {x_2 : Int32} {x_3 : Int32} {σ : st_S} {p : st_S}  (H : F_151 N x_1 x_2 x_3 σ = some p) : vz_ev P0 (d + 2) 151 0 (lv_args 0 [.ref 66, .int x_1, .int x_2, .int x_3]) [] (hp σ) (.inl none, hp p) := by
  unfold F_151 at H
  refine ev_x (i := .aload_n 0) (len := 1) (p' := 1) (s' := [.ref 66]) rfl rfl rfl ?_
  refine ev_gc (p' := 4) (v := 77) rfl rfl rfl ly_66 rfl rfl ?_
  refine ev_x (i := .iload_n 3) (len := 1) (p' := 5) (s' := [.int x_3, .ref 77]) rfl rfl rfl ?_
  obtain ⟨p_1, G_1, H⟩ := F_bd H
  refine ev_cv (d := d + 1) (As := [.int x_3]) (a := 77) (p' := 8) rfl rfl rfl ly_77 rfl rfl rfl rfl rfl rfl rfl (N_133_ok (d := d + 0) nm_77 G_1) ?_
  refine ev_st (st' := []) rfl ?_
  have e_1 := N_133_R G_1
  refine ev_x (i := .aload_n 0) (len := 1) (p' := 9) (s' := [.ref 66]) rfl rfl rfl ?_
  refine ev_gc (p' := 12) (v := 77) rfl rfl rfl ly_66 rfl rfl ?_
  refine ev_x (i := .iload_n 2) (len := 1) (p' := 13) (s' := [.int x_2, .ref 77]) rfl rfl rfl ?_
  obtain ⟨p_2, G_2, H⟩ := F_bd H
  refine ev_cv (d := d + 1) (As := [.int x_2]) (a := 77) (p' := 16) rfl rfl rfl ly_77 rfl rfl rfl rfl rfl rfl rfl (N_133_ok (d := d + 0) nm_77 G_2) ?_
  refine ev_st (st' := []) rfl ?_
  have e_2 := N_133_R G_2
  refine ev_x (i := .aload_n 0) (len := 1) (p' := 17) (s' := [.ref 66]) rfl rfl rfl ?_
  refine ev_gc (p' := 20) (v := 77) rfl rfl rfl ly_66 rfl rfl ?_
  refine ev_x (i := .iload_n 1) (len := 1) (p' := 21) (s' := [.int x_1, .ref 77]) rfl rfl rfl ?_
  obtain ⟨p_3, G_3, H⟩ := F_bd H
  refine ev_cv (d := d + 1) (As := [.int x_1]) (a := 77) (p' := 24) rfl rfl rfl ly_77 rfl rfl rfl rfl rfl rfl rfl (N_133_ok (d := d + 0) nm_77 G_3) ?_
  refine ev_st (st' := []) rfl ?_
  have e_3 := N_133_R G_3
  obtain rfl := Option.some.inj H
  exact ev_vret rfl rfl rfl
/-- GameTextModel.anItem(I)I -/
def F_150 (N : Nat) (x_1 : Int32) (σ : st_S) : Option (Int32 × st_S) :=
  if x_1 = 0 then
    some (1, σ)
  else
    (N_133 N 77 50 (σ)).bind fun p_2 =>
    (N_133 N 77 34 (p_2)).bind fun p_3 =>
    if x_1 = 3 then
      (N_133 N 77 51 (p_3)).bind fun p_5 =>
      some (1, p_5)
    else
    if x_1 = 4 then
      (N_133 N 77 54 (p_3)).bind fun p_7 =>
      (F_151 N 1 33 53 (p_7)).bind fun p_8 =>
      some (1, p_8)
    else
    if x_1 = 6 then
      (N_133 N 77 51 (p_3)).bind fun p_10 =>
      some (1, p_10)
    else
    if x_1 = 7 then
      (N_133 N 77 57 (p_3)).bind fun p_12 =>
      (F_151 N 61 17 56 (p_12)).bind fun p_13 =>
      some (1, p_13)
    else
    if x_1 = 8 then
      (N_133 N 77 57 (p_3)).bind fun p_15 =>
      (F_151 N 61 17 56 (p_15)).bind fun p_16 =>
      some (1, p_16)
    else
    if x_1 = 11 then
      (N_133 N 77 61 (p_3)).bind fun p_18 =>
      some (1, p_18)
    else
      some ((-1), p_3)
set_option maxRecDepth 100000 in
theorem F_150_R {N : Nat} {x_1 : Int32} {σ : st_S} {p : Int32 × st_S} (H : F_150 N x_1 σ = some p) : gR p.2 = gR σ := by
  unfold F_150 at H
  refine F_if H (fun _ H => ?_) (fun _ H => ?_)
  · obtain rfl := Option.some.inj H
    exact rfl
  · obtain ⟨p_2, G_2, H⟩ := F_bd H
    obtain ⟨p_3, G_3, H⟩ := F_bd H
    refine F_if H (fun _ H => ?_) (fun _ H => ?_)
    · obtain ⟨p_5, G_5, H⟩ := F_bd H
      obtain rfl := Option.some.inj H
      exact ((N_133_R G_5).trans ((N_133_R G_3).trans ((N_133_R G_2).trans rfl)))
    · refine F_if H (fun _ H => ?_) (fun _ H => ?_)
      · obtain ⟨p_7, G_7, H⟩ := F_bd H
        obtain ⟨p_8, G_8, H⟩ := F_bd H
        obtain rfl := Option.some.inj H
        exact ((F_151_R G_8).trans ((N_133_R G_7).trans ((N_133_R G_3).trans ((N_133_R G_2).trans rfl))))
      · refine F_if H (fun _ H => ?_) (fun _ H => ?_)
        · obtain ⟨p_10, G_10, H⟩ := F_bd H
          obtain rfl := Option.some.inj H
          exact ((N_133_R G_10).trans ((N_133_R G_3).trans ((N_133_R G_2).trans rfl)))
        · refine F_if H (fun _ H => ?_) (fun _ H => ?_)
          · obtain ⟨p_12, G_12, H⟩ := F_bd H
            obtain ⟨p_13, G_13, H⟩ := F_bd H
            obtain rfl := Option.some.inj H
            exact ((F_151_R G_13).trans ((N_133_R G_12).trans ((N_133_R G_3).trans ((N_133_R G_2).trans rfl))))
          · refine F_if H (fun _ H => ?_) (fun _ H => ?_)
            · obtain ⟨p_15, G_15, H⟩ := F_bd H
              obtain ⟨p_16, G_16, H⟩ := F_bd H
              obtain rfl := Option.some.inj H
              exact ((F_151_R G_16).trans ((N_133_R G_15).trans ((N_133_R G_3).trans ((N_133_R G_2).trans rfl))))
            · refine F_if H (fun _ H => ?_) (fun _ H => ?_)
              · obtain ⟨p_18, G_18, H⟩ := F_bd H
                obtain rfl := Option.some.inj H
                exact ((N_133_R G_18).trans ((N_133_R G_3).trans ((N_133_R G_2).trans rfl)))
              · obtain rfl := Option.some.inj H
                exact ((N_133_R G_3).trans ((N_133_R G_2).trans rfl))
set_option maxHeartbeats 4000000 in
set_option maxRecDepth 100000 in
theorem F_150_ok {N d : Nat} {x_1 : Int32} {σ : st_S} {p : Int32 × st_S}  (H : F_150 N x_1 σ = some p) : vz_ev P0 (d + 3) 150 0 (lv_args 0 [.ref 66, .int x_1]) [] (hp σ) (.inl (some (.int p.1)), hp p.2) := by
  unfold F_150 at H
  refine ev_x (i := .iload_n 1) (len := 1) (p' := 1) (s' := [.int x_1]) rfl rfl rfl ?_
  refine F_if H (fun c_1 H => ?_) (fun c_1 H => ?_)
  · refine ev_b0 (t := 6) (p' := 4) rfl rfl rfl (if_neg (fun q => q c_1)) ?_
    refine ev_x (i := .iconst 1) (len := 1) (p' := 5) (s' := [.int 1]) rfl rfl rfl ?_
    obtain rfl := Option.some.inj H
    exact ev_iret rfl rfl rfl rfl
  · refine ev_b0 (t := 6) (p' := 6) rfl rfl rfl (if_pos c_1) ?_
    refine ev_x (i := .aload_n 0) (len := 1) (p' := 7) (s' := [.ref 66]) rfl rfl rfl ?_
    refine ev_gc (p' := 10) (v := 77) rfl rfl rfl ly_66 rfl rfl ?_
    refine ev_x (i := .bipush 50) (len := 2) (p' := 12) (s' := [.int 50, .ref 77]) rfl rfl rfl ?_
    obtain ⟨p_2, G_2, H⟩ := F_bd H
    refine ev_cv (d := d + 2) (As := [.int 50]) (a := 77) (p' := 15) rfl rfl rfl ly_77 rfl rfl rfl rfl rfl rfl rfl (N_133_ok (d := d + 1) nm_77 G_2) ?_
    refine ev_st (st' := []) rfl ?_
    have e_2 := N_133_R G_2
    refine ev_x (i := .aload_n 0) (len := 1) (p' := 16) (s' := [.ref 66]) rfl rfl rfl ?_
    refine ev_gc (p' := 19) (v := 77) rfl rfl rfl ly_66 rfl rfl ?_
    refine ev_x (i := .bipush 34) (len := 2) (p' := 21) (s' := [.int 34, .ref 77]) rfl rfl rfl ?_
    obtain ⟨p_3, G_3, H⟩ := F_bd H
    refine ev_cv (d := d + 2) (As := [.int 34]) (a := 77) (p' := 24) rfl rfl rfl ly_77 rfl rfl rfl rfl rfl rfl rfl (N_133_ok (d := d + 1) nm_77 G_3) ?_
    refine ev_st (st' := []) rfl ?_
    have e_3 := N_133_R G_3
    refine ev_x (i := .iload_n 1) (len := 1) (p' := 25) (s' := [.int x_1]) rfl rfl rfl ?_
    refine F_if H (fun c_4 H => ?_) (fun c_4 H => ?_)
    · refine ev_st (st' := [.int 3]) (congrArg (fun z => Value.int z :: []) c_4) ?_
      refine ev_ts (off := 51) (t := 76) rfl rfl (by decide) rfl ?_
      refine ev_x (i := .aload_n 0) (len := 1) (p' := 77) (s' := [.ref 66]) rfl rfl rfl ?_
      refine ev_gc (p' := 80) (v := 77) rfl rfl rfl ly_66 rfl rfl ?_
      refine ev_x (i := .bipush 51) (len := 2) (p' := 82) (s' := [.int 51, .ref 77]) rfl rfl rfl ?_
      obtain ⟨p_5, G_5, H⟩ := F_bd H
      refine ev_cv (d := d + 2) (As := [.int 51]) (a := 77) (p' := 85) rfl rfl rfl ly_77 rfl rfl rfl rfl rfl rfl rfl (N_133_ok (d := d + 1) nm_77 G_5) ?_
      refine ev_st (st' := []) rfl ?_
      have e_5 := N_133_R G_5
      refine ev_x (i := .iconst 1) (len := 1) (p' := 86) (s' := [.int 1]) rfl rfl rfl ?_
      obtain rfl := Option.some.inj H
      exact ev_iret rfl rfl rfl rfl
    · refine F_if H (fun c_6 H => ?_) (fun c_6 H => ?_)
      · refine ev_st (st' := [.int 4]) (congrArg (fun z => Value.int z :: []) c_6) ?_
        refine ev_ts (off := 62) (t := 87) rfl rfl (by decide) rfl ?_
        refine ev_x (i := .aload_n 0) (len := 1) (p' := 88) (s' := [.ref 66]) rfl rfl rfl ?_
        refine ev_gc (p' := 91) (v := 77) rfl rfl rfl ly_66 rfl rfl ?_
        refine ev_x (i := .bipush 54) (len := 2) (p' := 93) (s' := [.int 54, .ref 77]) rfl rfl rfl ?_
        obtain ⟨p_7, G_7, H⟩ := F_bd H
        refine ev_cv (d := d + 2) (As := [.int 54]) (a := 77) (p' := 96) rfl rfl rfl ly_77 rfl rfl rfl rfl rfl rfl rfl (N_133_ok (d := d + 1) nm_77 G_7) ?_
        refine ev_st (st' := []) rfl ?_
        have e_7 := N_133_R G_7
        refine ev_x (i := .aload_n 0) (len := 1) (p' := 97) (s' := [.ref 66]) rfl rfl rfl ?_
        refine ev_x (i := .iconst 1) (len := 1) (p' := 98) (s' := [.int 1, .ref 66]) rfl rfl rfl ?_
        refine ev_x (i := .bipush 33) (len := 2) (p' := 100) (s' := [.int 33, .int 1, .ref 66]) rfl rfl rfl ?_
        refine ev_x (i := .bipush 53) (len := 2) (p' := 102) (s' := [.int 53, .int 33, .int 1, .ref 66]) rfl rfl rfl ?_
        obtain ⟨p_8, G_8, H⟩ := F_bd H
        refine ev_cv (d := d + 2) (As := [.int 1, .int 33, .int 53]) (a := 66) (p' := 105) rfl rfl rfl ly_66 rfl rfl rfl rfl rfl rfl rfl (F_151_ok (d := d + 0)   G_8) ?_
        refine ev_st (st' := []) rfl ?_
        have e_8 := F_151_R G_8
        refine ev_x (i := .iconst 1) (len := 1) (p' := 106) (s' := [.int 1]) rfl rfl rfl ?_
        obtain rfl := Option.some.inj H
        exact ev_iret rfl rfl rfl rfl
      · refine F_if H (fun c_9 H => ?_) (fun c_9 H => ?_)
        · refine ev_st (st' := [.int 6]) (congrArg (fun z => Value.int z :: []) c_9) ?_
          refine ev_ts (off := 51) (t := 76) rfl rfl (by decide) rfl ?_
          refine ev_x (i := .aload_n 0) (len := 1) (p' := 77) (s' := [.ref 66]) rfl rfl rfl ?_
          refine ev_gc (p' := 80) (v := 77) rfl rfl rfl ly_66 rfl rfl ?_
          refine ev_x (i := .bipush 51) (len := 2) (p' := 82) (s' := [.int 51, .ref 77]) rfl rfl rfl ?_
          obtain ⟨p_10, G_10, H⟩ := F_bd H
          refine ev_cv (d := d + 2) (As := [.int 51]) (a := 77) (p' := 85) rfl rfl rfl ly_77 rfl rfl rfl rfl rfl rfl rfl (N_133_ok (d := d + 1) nm_77 G_10) ?_
          refine ev_st (st' := []) rfl ?_
          have e_10 := N_133_R G_10
          refine ev_x (i := .iconst 1) (len := 1) (p' := 86) (s' := [.int 1]) rfl rfl rfl ?_
          obtain rfl := Option.some.inj H
          exact ev_iret rfl rfl rfl rfl
        · refine F_if H (fun c_11 H => ?_) (fun c_11 H => ?_)
          · refine ev_st (st' := [.int 7]) (congrArg (fun z => Value.int z :: []) c_11) ?_
            refine ev_ts (off := 93) (t := 118) rfl rfl (by decide) rfl ?_
            refine ev_x (i := .aload_n 0) (len := 1) (p' := 119) (s' := [.ref 66]) rfl rfl rfl ?_
            refine ev_gc (p' := 122) (v := 77) rfl rfl rfl ly_66 rfl rfl ?_
            refine ev_x (i := .bipush 57) (len := 2) (p' := 124) (s' := [.int 57, .ref 77]) rfl rfl rfl ?_
            obtain ⟨p_12, G_12, H⟩ := F_bd H
            refine ev_cv (d := d + 2) (As := [.int 57]) (a := 77) (p' := 127) rfl rfl rfl ly_77 rfl rfl rfl rfl rfl rfl rfl (N_133_ok (d := d + 1) nm_77 G_12) ?_
            refine ev_st (st' := []) rfl ?_
            have e_12 := N_133_R G_12
            refine ev_x (i := .aload_n 0) (len := 1) (p' := 128) (s' := [.ref 66]) rfl rfl rfl ?_
            refine ev_x (i := .bipush 61) (len := 2) (p' := 130) (s' := [.int 61, .ref 66]) rfl rfl rfl ?_
            refine ev_x (i := .bipush 17) (len := 2) (p' := 132) (s' := [.int 17, .int 61, .ref 66]) rfl rfl rfl ?_
            refine ev_x (i := .bipush 56) (len := 2) (p' := 134) (s' := [.int 56, .int 17, .int 61, .ref 66]) rfl rfl rfl ?_
            obtain ⟨p_13, G_13, H⟩ := F_bd H
            refine ev_cv (d := d + 2) (As := [.int 61, .int 17, .int 56]) (a := 66) (p' := 137) rfl rfl rfl ly_66 rfl rfl rfl rfl rfl rfl rfl (F_151_ok (d := d + 0)   G_13) ?_
            refine ev_st (st' := []) rfl ?_
            have e_13 := F_151_R G_13
            refine ev_x (i := .iconst 1) (len := 1) (p' := 138) (s' := [.int 1]) rfl rfl rfl ?_
            obtain rfl := Option.some.inj H
            exact ev_iret rfl rfl rfl rfl
          · refine F_if H (fun c_14 H => ?_) (fun c_14 H => ?_)
            · refine ev_st (st' := [.int 8]) (congrArg (fun z => Value.int z :: []) c_14) ?_
              refine ev_ts (off := 93) (t := 118) rfl rfl (by decide) rfl ?_
              refine ev_x (i := .aload_n 0) (len := 1) (p' := 119) (s' := [.ref 66]) rfl rfl rfl ?_
              refine ev_gc (p' := 122) (v := 77) rfl rfl rfl ly_66 rfl rfl ?_
              refine ev_x (i := .bipush 57) (len := 2) (p' := 124) (s' := [.int 57, .ref 77]) rfl rfl rfl ?_
              obtain ⟨p_15, G_15, H⟩ := F_bd H
              refine ev_cv (d := d + 2) (As := [.int 57]) (a := 77) (p' := 127) rfl rfl rfl ly_77 rfl rfl rfl rfl rfl rfl rfl (N_133_ok (d := d + 1) nm_77 G_15) ?_
              refine ev_st (st' := []) rfl ?_
              have e_15 := N_133_R G_15
              refine ev_x (i := .aload_n 0) (len := 1) (p' := 128) (s' := [.ref 66]) rfl rfl rfl ?_
              refine ev_x (i := .bipush 61) (len := 2) (p' := 130) (s' := [.int 61, .ref 66]) rfl rfl rfl ?_
              refine ev_x (i := .bipush 17) (len := 2) (p' := 132) (s' := [.int 17, .int 61, .ref 66]) rfl rfl rfl ?_
              refine ev_x (i := .bipush 56) (len := 2) (p' := 134) (s' := [.int 56, .int 17, .int 61, .ref 66]) rfl rfl rfl ?_
              obtain ⟨p_16, G_16, H⟩ := F_bd H
              refine ev_cv (d := d + 2) (As := [.int 61, .int 17, .int 56]) (a := 66) (p' := 137) rfl rfl rfl ly_66 rfl rfl rfl rfl rfl rfl rfl (F_151_ok (d := d + 0)   G_16) ?_
              refine ev_st (st' := []) rfl ?_
              have e_16 := F_151_R G_16
              refine ev_x (i := .iconst 1) (len := 1) (p' := 138) (s' := [.int 1]) rfl rfl rfl ?_
              obtain rfl := Option.some.inj H
              exact ev_iret rfl rfl rfl rfl
            · refine F_if H (fun c_17 H => ?_) (fun c_17 H => ?_)
              · refine ev_st (st' := [.int 11]) (congrArg (fun z => Value.int z :: []) c_17) ?_
                refine ev_ts (off := 82) (t := 107) rfl rfl (by decide) rfl ?_
                refine ev_x (i := .aload_n 0) (len := 1) (p' := 108) (s' := [.ref 66]) rfl rfl rfl ?_
                refine ev_gc (p' := 111) (v := 77) rfl rfl rfl ly_66 rfl rfl ?_
                refine ev_x (i := .bipush 61) (len := 2) (p' := 113) (s' := [.int 61, .ref 77]) rfl rfl rfl ?_
                obtain ⟨p_18, G_18, H⟩ := F_bd H
                refine ev_cv (d := d + 2) (As := [.int 61]) (a := 77) (p' := 116) rfl rfl rfl ly_77 rfl rfl rfl rfl rfl rfl rfl (N_133_ok (d := d + 1) nm_77 G_18) ?_
                refine ev_st (st' := []) rfl ?_
                have e_18 := N_133_R G_18
                refine ev_x (i := .iconst 1) (len := 1) (p' := 117) (s' := [.int 1]) rfl rfl rfl ?_
                obtain rfl := Option.some.inj H
                exact ev_iret rfl rfl rfl rfl
              · have n_3 : (3 : Int) ≠ (x_1 : Int32).toInt := i32_ne (k := 3) (by decide) c_4
                have n_4 : (4 : Int) ≠ (x_1 : Int32).toInt := i32_ne (k := 4) (by decide) c_6
                have n_6 : (6 : Int) ≠ (x_1 : Int32).toInt := i32_ne (k := 6) (by decide) c_9
                have n_7 : (7 : Int) ≠ (x_1 : Int32).toInt := i32_ne (k := 7) (by decide) c_11
                have n_8 : (8 : Int) ≠ (x_1 : Int32).toInt := i32_ne (k := 8) (by decide) c_14
                have n_11 : (11 : Int) ≠ (x_1 : Int32).toInt := i32_ne (k := 11) (by decide) c_17
                refine ev_ts (off := 114) (t := 139) rfl rfl ?hsw rfl ?_
                case hsw =>
                  by_cases hq : (x_1 : Int32).toInt < 3 ∨ 11 < (x_1 : Int32).toInt
                  · exact if_pos hq
                  · rw [if_neg hq]
                    have hw : (x_1 : Int32).toInt = 5 ∨ (x_1 : Int32).toInt = 9 ∨ (x_1 : Int32).toInt = 10 := by omega
                    rcases hw with hw | hw | hw <;> rw [hw] <;> rfl
                refine ev_x (i := .iconst (-1)) (len := 1) (p' := 140) (s' := [.int (-1)]) rfl rfl rfl ?_
                obtain rfl := Option.some.inj H
                exact ev_iret rfl rfl rfl rfl
/-- GameTextModel.again(ZII)I -/
def F_152 (N : Nat) (x_1 : Int32) (x_2 : Int32) (x_3 : Int32) (σ : st_S) : Option (Int32 × st_S) :=
  if x_1 = 0 then
    some (0, σ)
  else
    (N_133 N 77 x_2 (σ)).bind fun p_2 =>
    (N_133 N 77 x_3 (p_2)).bind fun p_3 =>
    some (1, p_3)
set_option maxRecDepth 100000 in
theorem F_152_R {N : Nat} {x_1 : Int32} {x_2 : Int32} {x_3 : Int32} {σ : st_S} {p : Int32 × st_S} (H : F_152 N x_1 x_2 x_3 σ = some p) : gR p.2 = gR σ := by
  unfold F_152 at H
  refine F_if H (fun _ H => ?_) (fun _ H => ?_)
  · obtain rfl := Option.some.inj H
    exact rfl
  · obtain ⟨p_2, G_2, H⟩ := F_bd H
    obtain ⟨p_3, G_3, H⟩ := F_bd H
    obtain rfl := Option.some.inj H
    exact ((N_133_R G_3).trans ((N_133_R G_2).trans rfl))
set_option maxHeartbeats 4000000 in
set_option maxRecDepth 100000 in
theorem F_152_ok {N d : Nat} {x_1 : Int32} {x_2 : Int32} {x_3 : Int32} {σ : st_S} {p : Int32 × st_S}  (H : F_152 N x_1 x_2 x_3 σ = some p) : vz_ev P0 (d + 2) 152 0 (lv_args 0 [.ref 66, .int x_1, .int x_2, .int x_3]) [] (hp σ) (.inl (some (.int p.1)), hp p.2) := by
  unfold F_152 at H
  refine ev_x (i := .iload_n 1) (len := 1) (p' := 1) (s' := [.int x_1]) rfl rfl rfl ?_
  refine F_if H (fun c_1 H => ?_) (fun c_1 H => ?_)
  · refine ev_b0 (t := 6) (p' := 4) rfl rfl rfl (if_neg (fun q => q c_1)) ?_
    refine ev_x (i := .iconst 0) (len := 1) (p' := 5) (s' := [.int 0]) rfl rfl rfl ?_
    obtain rfl := Option.some.inj H
    exact ev_iret rfl rfl rfl rfl
  · refine ev_b0 (t := 6) (p' := 6) rfl rfl rfl (if_pos c_1) ?_
    refine ev_x (i := .aload_n 0) (len := 1) (p' := 7) (s' := [.ref 66]) rfl rfl rfl ?_
    refine ev_gc (p' := 10) (v := 77) rfl rfl rfl ly_66 rfl rfl ?_
    refine ev_x (i := .iload_n 2) (len := 1) (p' := 11) (s' := [.int x_2, .ref 77]) rfl rfl rfl ?_
    obtain ⟨p_2, G_2, H⟩ := F_bd H
    refine ev_cv (d := d + 1) (As := [.int x_2]) (a := 77) (p' := 14) rfl rfl rfl ly_77 rfl rfl rfl rfl rfl rfl rfl (N_133_ok (d := d + 0) nm_77 G_2) ?_
    refine ev_st (st' := []) rfl ?_
    have e_2 := N_133_R G_2
    refine ev_x (i := .aload_n 0) (len := 1) (p' := 15) (s' := [.ref 66]) rfl rfl rfl ?_
    refine ev_gc (p' := 18) (v := 77) rfl rfl rfl ly_66 rfl rfl ?_
    refine ev_x (i := .iload_n 3) (len := 1) (p' := 19) (s' := [.int x_3, .ref 77]) rfl rfl rfl ?_
    obtain ⟨p_3, G_3, H⟩ := F_bd H
    refine ev_cv (d := d + 1) (As := [.int x_3]) (a := 77) (p' := 22) rfl rfl rfl ly_77 rfl rfl rfl rfl rfl rfl rfl (N_133_ok (d := d + 0) nm_77 G_3) ?_
    refine ev_st (st' := []) rfl ?_
    have e_3 := N_133_R G_3
    refine ev_x (i := .iconst 1) (len := 1) (p' := 23) (s' := [.int 1]) rfl rfl rfl ?_
    obtain rfl := Option.some.inj H
    exact ev_iret rfl rfl rfl rfl
/-- GameTextModel.level()Z -/
def F_154 (N : Nat) (σ : st_S) : Option (Int32 × st_S) :=
  some ((if 40 < ((gI σ 66 7) + 1) then 0 else 1 : Int32), st_i (σ) 66 7 ((gI σ 66 7) + 1))
set_option maxRecDepth 100000 in
theorem F_154_R {N : Nat} {σ : st_S} {p : Int32 × st_S} (H : F_154 N σ = some p) : gR p.2 = gR σ := by
  unfold F_154 at H
  obtain rfl := Option.some.inj H
  exact rfl
set_option maxHeartbeats 4000000 in
set_option maxRecDepth 100000 in
theorem F_154_ok {N d : Nat} {σ : st_S} {p : Int32 × st_S}  (H : F_154 N σ = some p) : vz_ev P0 (d + 1) 154 0 (lv_args 0 [.ref 66]) [] (hp σ) (.inl (some (.int p.1)), hp p.2) := by
  unfold F_154 at H
  refine ev_x (i := .aload_n 0) (len := 1) (p' := 1) (s' := [.ref 66]) rfl rfl rfl ?_
  refine ev_x (i := .aload_n 0) (len := 1) (p' := 2) (s' := [.ref 66, .ref 66]) rfl rfl rfl ?_
  refine ev_gi (p' := 5) (v := (gI σ 66 7)) rfl rfl rfl ly_66 rfl rfl rfl ?_
  refine ev_x (i := .iconst 1) (len := 1) (p' := 6) (s' := [.int 1, .int (gI σ 66 7), .ref 66]) rfl rfl rfl ?_
  refine ev_x (i := .iadd) (len := 1) (p' := 7) (s' := [.int ((gI σ 66 7) + 1), .ref 66]) rfl rfl rfl ?_
  refine ev_pi (p' := 10) rfl rfl rfl ly_66 rfl rfl rfl rfl ?_
  refine ev_x (i := .aload_n 0) (len := 1) (p' := 11) (s' := [.ref 66]) rfl rfl rfl ?_
  refine ev_gi (p' := 14) (v := ((gI σ 66 7) + 1)) rfl rfl rfl ly_66 rfl rfl rfl ?_
  refine ev_x (i := .bipush 40) (len := 2) (p' := 16) (s' := [.int 40, .int ((gI σ 66 7) + 1)]) rfl rfl rfl ?_
  refine F_jn (A := vz_ev P0 (d + 1) 154 24 [(0, .ref 66)] [.int (if 40 < ((gI σ 66 7) + 1) then 0 else 1 : Int32)] (hp (st_i (σ) 66 7 ((gI σ 66 7) + 1))) (.inl (some (.int p.1)), hp p.2)) ?_ (fun J => ?_)
  · obtain rfl := Option.some.inj H
    exact ev_iret rfl rfl rfl (fit_b (by (repeat' split) <;> decide))
  · by_cases c_1 : 40 < ((gI σ 66 7) + 1)
    · refine ev_b2 (t := 23) (p' := 23) rfl rfl rfl (if_pos c_1) ?_
      refine ev_x (i := .iconst 0) (len := 1) (p' := 24) (s' := [.int 0]) rfl rfl rfl ?_
      exact ev_st (congrArg (fun z => Value.int z :: []) (by rw [if_pos c_1])) J
    · refine ev_b2 (t := 23) (p' := 19) rfl rfl rfl (if_neg c_1) ?_
      refine ev_x (i := .iconst 1) (len := 1) (p' := 20) (s' := [.int 1]) rfl rfl rfl ?_
      refine ev_x (i := .goto 4) (len := 3) (p' := 24) (s' := [.int 1]) rfl rfl rfl ?_
      exact ev_st (congrArg (fun z => Value.int z :: []) (by rw [if_neg c_1])) J
/-- GameTextModel.set(I)I -/
def F_153 (N : Nat) (x_1 : Int32) (σ : st_S) : Option (Int32 × st_S) :=
  if x_1 = 36 then
    (F_154 N (σ)).bind fun p_2 =>
    if p_2.1 = 0 then
      some ((-1), p_2.2)
    else
      (N_133 N 77 75 (p_2.2)).bind fun p_4 =>
      (N_133 N 77 37 (p_4)).bind fun p_5 =>
      (N_133 N 77 61 (p_5)).bind fun p_6 =>
      (F_151 N 1 38 23 (p_6)).bind fun p_7 =>
      some (1, p_7)
  else
    some ((-1), σ)
set_option maxRecDepth 100000 in
theorem F_153_R {N : Nat} {x_1 : Int32} {σ : st_S} {p : Int32 × st_S} (H : F_153 N x_1 σ = some p) : gR p.2 = gR σ := by
  unfold F_153 at H
  refine F_if H (fun _ H => ?_) (fun _ H => ?_)
  · obtain ⟨p_2, G_2, H⟩ := F_bd H
    refine F_if H (fun _ H => ?_) (fun _ H => ?_)
    · obtain rfl := Option.some.inj H
      exact ((F_154_R G_2).trans rfl)
    · obtain ⟨p_4, G_4, H⟩ := F_bd H
      obtain ⟨p_5, G_5, H⟩ := F_bd H
      obtain ⟨p_6, G_6, H⟩ := F_bd H
      obtain ⟨p_7, G_7, H⟩ := F_bd H
      obtain rfl := Option.some.inj H
      exact ((F_151_R G_7).trans ((N_133_R G_6).trans ((N_133_R G_5).trans ((N_133_R G_4).trans ((F_154_R G_2).trans rfl)))))
  · obtain rfl := Option.some.inj H
    exact rfl
set_option maxHeartbeats 4000000 in
set_option maxRecDepth 100000 in
theorem F_153_ok {N d : Nat} {x_1 : Int32} {σ : st_S} {p : Int32 × st_S}  (H : F_153 N x_1 σ = some p) : vz_ev P0 (d + 3) 153 0 (lv_args 0 [.ref 66, .int x_1]) [] (hp σ) (.inl (some (.int p.1)), hp p.2) := by
  unfold F_153 at H
  refine ev_x (i := .iload_n 1) (len := 1) (p' := 1) (s' := [.int x_1]) rfl rfl rfl ?_
  refine ev_x (i := .bipush 36) (len := 2) (p' := 3) (s' := [.int 36, .int x_1]) rfl rfl rfl ?_
  refine F_if H (fun c_1 H => ?_) (fun c_1 H => ?_)
  · refine ev_b2 (t := 13) (p' := 6) rfl rfl rfl (if_neg (fun q => q c_1)) ?_
    refine ev_x (i := .aload_n 0) (len := 1) (p' := 7) (s' := [.ref 66]) rfl rfl rfl ?_
    obtain ⟨p_2, G_2, H⟩ := F_bd H
    refine ev_cv (d := d + 2) (As := []) (a := 66) (p' := 10) rfl rfl rfl ly_66 rfl rfl rfl rfl rfl rfl rfl (F_154_ok (d := d + 1)   G_2) ?_
    refine ev_st (st' := [.int p_2.1]) rfl ?_
    have e_2 := F_154_R G_2
    refine F_if H (fun c_3 H => ?_) (fun c_3 H => ?_)
    · refine ev_b0 (t := 15) (p' := 13) rfl rfl rfl (if_neg (fun q => q c_3)) ?_
      refine ev_x (i := .iconst (-1)) (len := 1) (p' := 14) (s' := [.int (-1)]) rfl rfl rfl ?_
      obtain rfl := Option.some.inj H
      exact ev_iret rfl rfl rfl rfl
    · refine ev_b0 (t := 15) (p' := 15) rfl rfl rfl (if_pos c_3) ?_
      refine ev_x (i := .aload_n 0) (len := 1) (p' := 16) (s' := [.ref 66]) rfl rfl rfl ?_
      refine ev_gc (p' := 19) (v := 77) rfl rfl rfl ly_66 rfl rfl ?_
      refine ev_x (i := .bipush 75) (len := 2) (p' := 21) (s' := [.int 75, .ref 77]) rfl rfl rfl ?_
      obtain ⟨p_4, G_4, H⟩ := F_bd H
      refine ev_cv (d := d + 2) (As := [.int 75]) (a := 77) (p' := 24) rfl rfl rfl ly_77 rfl rfl rfl rfl rfl rfl rfl (N_133_ok (d := d + 1) nm_77 G_4) ?_
      refine ev_st (st' := []) rfl ?_
      have e_4 := N_133_R G_4
      refine ev_x (i := .aload_n 0) (len := 1) (p' := 25) (s' := [.ref 66]) rfl rfl rfl ?_
      refine ev_gc (p' := 28) (v := 77) rfl rfl rfl ly_66 rfl rfl ?_
      refine ev_x (i := .bipush 37) (len := 2) (p' := 30) (s' := [.int 37, .ref 77]) rfl rfl rfl ?_
      obtain ⟨p_5, G_5, H⟩ := F_bd H
      refine ev_cv (d := d + 2) (As := [.int 37]) (a := 77) (p' := 33) rfl rfl rfl ly_77 rfl rfl rfl rfl rfl rfl rfl (N_133_ok (d := d + 1) nm_77 G_5) ?_
      refine ev_st (st' := []) rfl ?_
      have e_5 := N_133_R G_5
      refine ev_x (i := .aload_n 0) (len := 1) (p' := 34) (s' := [.ref 66]) rfl rfl rfl ?_
      refine ev_gc (p' := 37) (v := 77) rfl rfl rfl ly_66 rfl rfl ?_
      refine ev_x (i := .bipush 61) (len := 2) (p' := 39) (s' := [.int 61, .ref 77]) rfl rfl rfl ?_
      obtain ⟨p_6, G_6, H⟩ := F_bd H
      refine ev_cv (d := d + 2) (As := [.int 61]) (a := 77) (p' := 42) rfl rfl rfl ly_77 rfl rfl rfl rfl rfl rfl rfl (N_133_ok (d := d + 1) nm_77 G_6) ?_
      refine ev_st (st' := []) rfl ?_
      have e_6 := N_133_R G_6
      refine ev_x (i := .aload_n 0) (len := 1) (p' := 43) (s' := [.ref 66]) rfl rfl rfl ?_
      refine ev_x (i := .iconst 1) (len := 1) (p' := 44) (s' := [.int 1, .ref 66]) rfl rfl rfl ?_
      refine ev_x (i := .bipush 38) (len := 2) (p' := 46) (s' := [.int 38, .int 1, .ref 66]) rfl rfl rfl ?_
      refine ev_x (i := .bipush 23) (len := 2) (p' := 48) (s' := [.int 23, .int 38, .int 1, .ref 66]) rfl rfl rfl ?_
      obtain ⟨p_7, G_7, H⟩ := F_bd H
      refine ev_cv (d := d + 2) (As := [.int 1, .int 38, .int 23]) (a := 66) (p' := 51) rfl rfl rfl ly_66 rfl rfl rfl rfl rfl rfl rfl (F_151_ok (d := d + 0)   G_7) ?_
      refine ev_st (st' := []) rfl ?_
      have e_7 := F_151_R G_7
      refine ev_x (i := .iconst 1) (len := 1) (p' := 52) (s' := [.int 1]) rfl rfl rfl ?_
      obtain rfl := Option.some.inj H
      exact ev_iret rfl rfl rfl rfl
  · refine ev_b2 (t := 13) (p' := 13) rfl rfl rfl (if_pos c_1) ?_
    refine ev_x (i := .iconst (-1)) (len := 1) (p' := 14) (s' := [.int (-1)]) rfl rfl rfl ?_
    obtain rfl := Option.some.inj H
    exact ev_iret rfl rfl rfl rfl
/-- GameTextModel.item(II)I -/
def F_149 (N : Nat) (x_1 : Int32) (x_2 : Int32) (σ : st_S) : Option (Int32 × st_S) :=
  if x_1 = 50 then
    (F_150 N x_2 (σ)).bind fun p_2 =>
    some (p_2.1, p_2.2)
  else
  if x_1 = 51 then
    (F_151 N 1 23 61 (σ)).bind fun p_4 =>
    some (0, p_4)
  else
  if x_1 = 53 then
    if x_2 = 5 then
      some (1, σ)
    else
      (F_151 N 61 16 61 (σ)).bind fun p_7 =>
      some (0, p_7)
  else
  if x_1 = 54 then
    if x_2 = 9 then
      (N_133 N 77 61 (σ)).bind fun p_10 =>
      some (1, p_10)
    else
      some (0, σ)
  else
  if x_1 = 56 then
    (F_151 N 63 33 58 (σ)).bind fun p_12 =>
    some (0, p_12)
  else
  if x_1 = 57 then
    (F_152 N (if x_2 = 24 then 1 else 0 : Int32) 57 56 (σ)).bind fun p_15 =>
    some (p_15.1, p_15.2)
  else
  if x_1 = 58 then
    if x_2 = 10 then
      some (1, σ)
    else
      (N_133 N 77 60 (σ)).bind fun p_18 =>
      (N_133 N 77 59 (p_18)).bind fun p_19 =>
      some (0, p_19)
  else
  if x_1 = 60 then
    (F_152 N (if x_2 = 29 then 1 else 0 : Int32) 60 59 (σ)).bind fun p_22 =>
    some (p_22.1, p_22.2)
  else
    (F_153 N x_2 (σ)).bind fun p_23 =>
    some (p_23.1, p_23.2)
set_option maxRecDepth 100000 in
theorem F_149_R {N : Nat} {x_1 : Int32} {x_2 : Int32} {σ : st_S} {p : Int32 × st_S} (H : F_149 N x_1 x_2 σ = some p) : gR p.2 = gR σ := by
  unfold F_149 at H
  refine F_if H (fun _ H => ?_) (fun _ H => ?_)
  · obtain ⟨p_2, G_2, H⟩ := F_bd H
    obtain rfl := Option.some.inj H
    exact ((F_150_R G_2).trans rfl)
  · refine F_if H (fun _ H => ?_) (fun _ H => ?_)
    · obtain ⟨p_4, G_4, H⟩ := F_bd H
      obtain rfl := Option.some.inj H
      exact ((F_151_R G_4).trans rfl)
    · refine F_if H (fun _ H => ?_) (fun _ H => ?_)
      · refine F_if H (fun _ H => ?_) (fun _ H => ?_)
        · obtain rfl := Option.some.inj H
          exact rfl
        · obtain ⟨p_7, G_7, H⟩ := F_bd H
          obtain rfl := Option.some.inj H
          exact ((F_151_R G_7).trans rfl)
      · refine F_if H (fun _ H => ?_) (fun _ H => ?_)
        · refine F_if H (fun _ H => ?_) (fun _ H => ?_)
          · obtain ⟨p_10, G_10, H⟩ := F_bd H
            obtain rfl := Option.some.inj H
            exact ((N_133_R G_10).trans rfl)
          · obtain rfl := Option.some.inj H
            exact rfl
        · refine F_if H (fun _ H => ?_) (fun _ H => ?_)
          · obtain ⟨p_12, G_12, H⟩ := F_bd H
            obtain rfl := Option.some.inj H
            exact ((F_151_R G_12).trans rfl)
          · refine F_if H (fun _ H => ?_) (fun _ H => ?_)
            · obtain ⟨p_15, G_15, H⟩ := F_bd H
              obtain rfl := Option.some.inj H
              exact ((F_152_R G_15).trans rfl)
            · refine F_if H (fun _ H => ?_) (fun _ H => ?_)
              · refine F_if H (fun _ H => ?_) (fun _ H => ?_)
                · obtain rfl := Option.some.inj H
                  exact rfl
                · obtain ⟨p_18, G_18, H⟩ := F_bd H
                  obtain ⟨p_19, G_19, H⟩ := F_bd H
                  obtain rfl := Option.some.inj H
                  exact ((N_133_R G_19).trans ((N_133_R G_18).trans rfl))
              · refine F_if H (fun _ H => ?_) (fun _ H => ?_)
                · obtain ⟨p_22, G_22, H⟩ := F_bd H
                  obtain rfl := Option.some.inj H
                  exact ((F_152_R G_22).trans rfl)
                · obtain ⟨p_23, G_23, H⟩ := F_bd H
                  obtain rfl := Option.some.inj H
                  exact ((F_153_R G_23).trans rfl)
set_option maxHeartbeats 4000000 in
set_option maxRecDepth 100000 in
theorem F_149_ok {N d : Nat} {x_1 : Int32} {x_2 : Int32} {σ : st_S} {p : Int32 × st_S}  (H : F_149 N x_1 x_2 σ = some p) : vz_ev P0 (d + 4) 149 0 (lv_args 0 [.ref 66, .int x_1, .int x_2]) [] (hp σ) (.inl (some (.int p.1)), hp p.2) := by
  unfold F_149 at H
  refine ev_x (i := .iload_n 1) (len := 1) (p' := 1) (s' := [.int x_1]) rfl rfl rfl ?_
  refine F_if H (fun c_1 H => ?_) (fun c_1 H => ?_)
  · refine ev_st (st' := [.int 50]) (congrArg (fun z => Value.int z :: []) c_1) ?_
    refine ev_ts (off := 59) (t := 60) rfl rfl (by decide) rfl ?_
    refine ev_x (i := .aload_n 0) (len := 1) (p' := 61) (s' := [.ref 66]) rfl rfl rfl ?_
    refine ev_x (i := .iload_n 2) (len := 1) (p' := 62) (s' := [.int x_2, .ref 66]) rfl rfl rfl ?_
    obtain ⟨p_2, G_2, H⟩ := F_bd H
    refine ev_cv (d := d + 3) (As := [.int x_2]) (a := 66) (p' := 65) rfl rfl rfl ly_66 rfl rfl rfl rfl rfl rfl rfl (F_150_ok (d := d + 0)   G_2) ?_
    refine ev_st (st' := [.int p_2.1]) rfl ?_
    have e_2 := F_150_R G_2
    obtain rfl := Option.some.inj H
    exact ev_iret rfl rfl rfl rfl
  · refine F_if H (fun c_3 H => ?_) (fun c_3 H => ?_)
    · refine ev_st (st' := [.int 51]) (congrArg (fun z => Value.int z :: []) c_3) ?_
      refine ev_ts (off := 65) (t := 66) rfl rfl (by decide) rfl ?_
      refine ev_x (i := .aload_n 0) (len := 1) (p' := 67) (s' := [.ref 66]) rfl rfl rfl ?_
      refine ev_x (i := .iconst 1) (len := 1) (p' := 68) (s' := [.int 1, .ref 66]) rfl rfl rfl ?_
      refine ev_x (i := .bipush 23) (len := 2) (p' := 70) (s' := [.int 23, .int 1, .ref 66]) rfl rfl rfl ?_
      refine ev_x (i := .bipush 61) (len := 2) (p' := 72) (s' := [.int 61, .int 23, .int 1, .ref 66]) rfl rfl rfl ?_
      obtain ⟨p_4, G_4, H⟩ := F_bd H
      refine ev_cv (d := d + 3) (As := [.int 1, .int 23, .int 61]) (a := 66) (p' := 75) rfl rfl rfl ly_66 rfl rfl rfl rfl rfl rfl rfl (F_151_ok (d := d + 1)   G_4) ?_
      refine ev_st (st' := []) rfl ?_
      have e_4 := F_151_R G_4
      refine ev_x (i := .iconst 0) (len := 1) (p' := 76) (s' := [.int 0]) rfl rfl rfl ?_
      obtain rfl := Option.some.inj H
      exact ev_iret rfl rfl rfl rfl
    · refine F_if H (fun c_5 H => ?_) (fun c_5 H => ?_)
      · refine ev_st (st' := [.int 53]) (congrArg (fun z => Value.int z :: []) c_5) ?_
        refine ev_ts (off := 76) (t := 77) rfl rfl (by decide) rfl ?_
        refine ev_x (i := .iload_n 2) (len := 1) (p' := 78) (s' := [.int x_2]) rfl rfl rfl ?_
        refine ev_x (i := .iconst 5) (len := 1) (p' := 79) (s' := [.int 5, .int x_2]) rfl rfl rfl ?_
        refine F_if H (fun c_6 H => ?_) (fun c_6 H => ?_)
        · refine ev_b2 (t := 84) (p' := 82) rfl rfl rfl (if_neg (fun q => q c_6)) ?_
          refine ev_x (i := .iconst 1) (len := 1) (p' := 83) (s' := [.int 1]) rfl rfl rfl ?_
          obtain rfl := Option.some.inj H
          exact ev_iret rfl rfl rfl rfl
        · refine ev_b2 (t := 84) (p' := 84) rfl rfl rfl (if_pos c_6) ?_
          refine ev_x (i := .aload_n 0) (len := 1) (p' := 85) (s' := [.ref 66]) rfl rfl rfl ?_
          refine ev_x (i := .bipush 61) (len := 2) (p' := 87) (s' := [.int 61, .ref 66]) rfl rfl rfl ?_
          refine ev_x (i := .bipush 16) (len := 2) (p' := 89) (s' := [.int 16, .int 61, .ref 66]) rfl rfl rfl ?_
          refine ev_x (i := .bipush 61) (len := 2) (p' := 91) (s' := [.int 61, .int 16, .int 61, .ref 66]) rfl rfl rfl ?_
          obtain ⟨p_7, G_7, H⟩ := F_bd H
          refine ev_cv (d := d + 3) (As := [.int 61, .int 16, .int 61]) (a := 66) (p' := 94) rfl rfl rfl ly_66 rfl rfl rfl rfl rfl rfl rfl (F_151_ok (d := d + 1)   G_7) ?_
          refine ev_st (st' := []) rfl ?_
          have e_7 := F_151_R G_7
          refine ev_x (i := .iconst 0) (len := 1) (p' := 95) (s' := [.int 0]) rfl rfl rfl ?_
          obtain rfl := Option.some.inj H
          exact ev_iret rfl rfl rfl rfl
      · refine F_if H (fun c_8 H => ?_) (fun c_8 H => ?_)
        · refine ev_st (st' := [.int 54]) (congrArg (fun z => Value.int z :: []) c_8) ?_
          refine ev_ts (off := 95) (t := 96) rfl rfl (by decide) rfl ?_
          refine ev_x (i := .iload_n 2) (len := 1) (p' := 97) (s' := [.int x_2]) rfl rfl rfl ?_
          refine ev_x (i := .bipush 9) (len := 2) (p' := 99) (s' := [.int 9, .int x_2]) rfl rfl rfl ?_
          refine F_if H (fun c_9 H => ?_) (fun c_9 H => ?_)
          · refine ev_b2 (t := 113) (p' := 102) rfl rfl rfl (if_neg (fun q => q c_9)) ?_
            refine ev_x (i := .aload_n 0) (len := 1) (p' := 103) (s' := [.ref 66]) rfl rfl rfl ?_
            refine ev_gc (p' := 106) (v := 77) rfl rfl rfl ly_66 rfl rfl ?_
            refine ev_x (i := .bipush 61) (len := 2) (p' := 108) (s' := [.int 61, .ref 77]) rfl rfl rfl ?_
            obtain ⟨p_10, G_10, H⟩ := F_bd H
            refine ev_cv (d := d + 3) (As := [.int 61]) (a := 77) (p' := 111) rfl rfl rfl ly_77 rfl rfl rfl rfl rfl rfl rfl (N_133_ok (d := d + 2) nm_77 G_10) ?_
            refine ev_st (st' := []) rfl ?_
            have e_10 := N_133_R G_10
            refine ev_x (i := .iconst 1) (len := 1) (p' := 112) (s' := [.int 1]) rfl rfl rfl ?_
            obtain rfl := Option.some.inj H
            exact ev_iret rfl rfl rfl rfl
          · refine ev_b2 (t := 113) (p' := 113) rfl rfl rfl (if_pos c_9) ?_
            refine ev_x (i := .iconst 0) (len := 1) (p' := 114) (s' := [.int 0]) rfl rfl rfl ?_
            obtain rfl := Option.some.inj H
            exact ev_iret rfl rfl rfl rfl
        · refine F_if H (fun c_11 H => ?_) (fun c_11 H => ?_)
          · refine ev_st (st' := [.int 56]) (congrArg (fun z => Value.int z :: []) c_11) ?_
            refine ev_ts (off := 114) (t := 115) rfl rfl (by decide) rfl ?_
            refine ev_x (i := .aload_n 0) (len := 1) (p' := 116) (s' := [.ref 66]) rfl rfl rfl ?_
            refine ev_x (i := .bipush 63) (len := 2) (p' := 118) (s' := [.int 63, .ref 66]) rfl rfl rfl ?_
            refine ev_x (i := .bipush 33) (len := 2) (p' := 120) (s' := [.int 33, .int 63, .ref 66]) rfl rfl rfl ?_
            refine ev_x (i := .bipush 58) (len := 2) (p' := 122) (s' := [.int 58, .int 33, .int 63, .ref 66]) rfl rfl rfl ?_
            obtain ⟨p_12, G_12, H⟩ := F_bd H
            refine ev_cv (d := d + 3) (As := [.int 63, .int 33, .int 58]) (a := 66) (p' := 125) rfl rfl rfl ly_66 rfl rfl rfl rfl rfl rfl rfl (F_151_ok (d := d + 1)   G_12) ?_
            refine ev_st (st' := []) rfl ?_
            have e_12 := F_151_R G_12
            refine ev_x (i := .iconst 0) (len := 1) (p' := 126) (s' := [.int 0]) rfl rfl rfl ?_
            obtain rfl := Option.some.inj H
            exact ev_iret rfl rfl rfl rfl
          · refine F_if H (fun c_13 H => ?_) (fun c_13 H => ?_)
            · refine ev_st (st' := [.int 57]) (congrArg (fun z => Value.int z :: []) c_13) ?_
              refine ev_ts (off := 126) (t := 127) rfl rfl (by decide) rfl ?_
              refine ev_x (i := .aload_n 0) (len := 1) (p' := 128) (s' := [.ref 66]) rfl rfl rfl ?_
              refine ev_x (i := .iload_n 2) (len := 1) (p' := 129) (s' := [.int x_2, .ref 66]) rfl rfl rfl ?_
              refine ev_x (i := .bipush 24) (len := 2) (p' := 131) (s' := [.int 24, .int x_2, .ref 66]) rfl rfl rfl ?_
              refine F_jn (A := vz_ev P0 (d + 4) 149 139 [(0, .ref 66), (1, .int x_1), (2, .int x_2)] [.int (if x_2 = 24 then 1 else 0 : Int32), .ref 66] (hp (σ)) (.inl (some (.int p.1)), hp p.2)) ?_ (fun J => ?_)
              · refine ev_x (i := .bipush 57) (len := 2) (p' := 141) (s' := [.int 57, .int (if x_2 = 24 then 1 else 0 : Int32), .ref 66]) rfl rfl rfl ?_
                refine ev_x (i := .bipush 56) (len := 2) (p' := 143) (s' := [.int 56, .int 57, .int (if x_2 = 24 then 1 else 0 : Int32), .ref 66]) rfl rfl rfl ?_
                obtain ⟨p_15, G_15, H⟩ := F_bd H
                refine ev_cv (d := d + 3) (As := [.int (if x_2 = 24 then 1 else 0 : Int32), .int 57, .int 56]) (a := 66) (p' := 146) rfl rfl rfl ly_66 rfl rfl rfl rfl rfl rfl rfl (F_152_ok (d := d + 1)   G_15) ?_
                refine ev_st (st' := [.int p_15.1]) rfl ?_
                have e_15 := F_152_R G_15
                obtain rfl := Option.some.inj H
                exact ev_iret rfl rfl rfl rfl
              · by_cases c_14 : x_2 = 24
                · refine ev_b2 (t := 138) (p' := 134) rfl rfl rfl (if_neg (fun q => q c_14)) ?_
                  refine ev_x (i := .iconst 1) (len := 1) (p' := 135) (s' := [.int 1, .ref 66]) rfl rfl rfl ?_
                  refine ev_x (i := .goto 4) (len := 3) (p' := 139) (s' := [.int 1, .ref 66]) rfl rfl rfl ?_
                  exact ev_st (congrArg (fun z => Value.int z :: [.ref 66]) (by rw [if_pos c_14])) J
                · refine ev_b2 (t := 138) (p' := 138) rfl rfl rfl (if_pos c_14) ?_
                  refine ev_x (i := .iconst 0) (len := 1) (p' := 139) (s' := [.int 0, .ref 66]) rfl rfl rfl ?_
                  exact ev_st (congrArg (fun z => Value.int z :: [.ref 66]) (by rw [if_neg c_14])) J
            · refine F_if H (fun c_16 H => ?_) (fun c_16 H => ?_)
              · refine ev_st (st' := [.int 58]) (congrArg (fun z => Value.int z :: []) c_16) ?_
                refine ev_ts (off := 146) (t := 147) rfl rfl (by decide) rfl ?_
                refine ev_x (i := .iload_n 2) (len := 1) (p' := 148) (s' := [.int x_2]) rfl rfl rfl ?_
                refine ev_x (i := .bipush 10) (len := 2) (p' := 150) (s' := [.int 10, .int x_2]) rfl rfl rfl ?_
                refine F_if H (fun c_17 H => ?_) (fun c_17 H => ?_)
                · refine ev_b2 (t := 155) (p' := 153) rfl rfl rfl (if_neg (fun q => q c_17)) ?_
                  refine ev_x (i := .iconst 1) (len := 1) (p' := 154) (s' := [.int 1]) rfl rfl rfl ?_
                  obtain rfl := Option.some.inj H
                  exact ev_iret rfl rfl rfl rfl
                · refine ev_b2 (t := 155) (p' := 155) rfl rfl rfl (if_pos c_17) ?_
                  refine ev_x (i := .aload_n 0) (len := 1) (p' := 156) (s' := [.ref 66]) rfl rfl rfl ?_
                  refine ev_gc (p' := 159) (v := 77) rfl rfl rfl ly_66 rfl rfl ?_
                  refine ev_x (i := .bipush 60) (len := 2) (p' := 161) (s' := [.int 60, .ref 77]) rfl rfl rfl ?_
                  obtain ⟨p_18, G_18, H⟩ := F_bd H
                  refine ev_cv (d := d + 3) (As := [.int 60]) (a := 77) (p' := 164) rfl rfl rfl ly_77 rfl rfl rfl rfl rfl rfl rfl (N_133_ok (d := d + 2) nm_77 G_18) ?_
                  refine ev_st (st' := []) rfl ?_
                  have e_18 := N_133_R G_18
                  refine ev_x (i := .aload_n 0) (len := 1) (p' := 165) (s' := [.ref 66]) rfl rfl rfl ?_
                  refine ev_gc (p' := 168) (v := 77) rfl rfl rfl ly_66 rfl rfl ?_
                  refine ev_x (i := .bipush 59) (len := 2) (p' := 170) (s' := [.int 59, .ref 77]) rfl rfl rfl ?_
                  obtain ⟨p_19, G_19, H⟩ := F_bd H
                  refine ev_cv (d := d + 3) (As := [.int 59]) (a := 77) (p' := 173) rfl rfl rfl ly_77 rfl rfl rfl rfl rfl rfl rfl (N_133_ok (d := d + 2) nm_77 G_19) ?_
                  refine ev_st (st' := []) rfl ?_
                  have e_19 := N_133_R G_19
                  refine ev_x (i := .iconst 0) (len := 1) (p' := 174) (s' := [.int 0]) rfl rfl rfl ?_
                  obtain rfl := Option.some.inj H
                  exact ev_iret rfl rfl rfl rfl
              · refine F_if H (fun c_20 H => ?_) (fun c_20 H => ?_)
                · refine ev_st (st' := [.int 60]) (congrArg (fun z => Value.int z :: []) c_20) ?_
                  refine ev_ts (off := 174) (t := 175) rfl rfl (by decide) rfl ?_
                  refine ev_x (i := .aload_n 0) (len := 1) (p' := 176) (s' := [.ref 66]) rfl rfl rfl ?_
                  refine ev_x (i := .iload_n 2) (len := 1) (p' := 177) (s' := [.int x_2, .ref 66]) rfl rfl rfl ?_
                  refine ev_x (i := .bipush 29) (len := 2) (p' := 179) (s' := [.int 29, .int x_2, .ref 66]) rfl rfl rfl ?_
                  refine F_jn (A := vz_ev P0 (d + 4) 149 187 [(0, .ref 66), (1, .int x_1), (2, .int x_2)] [.int (if x_2 = 29 then 1 else 0 : Int32), .ref 66] (hp (σ)) (.inl (some (.int p.1)), hp p.2)) ?_ (fun J => ?_)
                  · refine ev_x (i := .bipush 60) (len := 2) (p' := 189) (s' := [.int 60, .int (if x_2 = 29 then 1 else 0 : Int32), .ref 66]) rfl rfl rfl ?_
                    refine ev_x (i := .bipush 59) (len := 2) (p' := 191) (s' := [.int 59, .int 60, .int (if x_2 = 29 then 1 else 0 : Int32), .ref 66]) rfl rfl rfl ?_
                    obtain ⟨p_22, G_22, H⟩ := F_bd H
                    refine ev_cv (d := d + 3) (As := [.int (if x_2 = 29 then 1 else 0 : Int32), .int 60, .int 59]) (a := 66) (p' := 194) rfl rfl rfl ly_66 rfl rfl rfl rfl rfl rfl rfl (F_152_ok (d := d + 1)   G_22) ?_
                    refine ev_st (st' := [.int p_22.1]) rfl ?_
                    have e_22 := F_152_R G_22
                    obtain rfl := Option.some.inj H
                    exact ev_iret rfl rfl rfl rfl
                  · by_cases c_21 : x_2 = 29
                    · refine ev_b2 (t := 186) (p' := 182) rfl rfl rfl (if_neg (fun q => q c_21)) ?_
                      refine ev_x (i := .iconst 1) (len := 1) (p' := 183) (s' := [.int 1, .ref 66]) rfl rfl rfl ?_
                      refine ev_x (i := .goto 4) (len := 3) (p' := 187) (s' := [.int 1, .ref 66]) rfl rfl rfl ?_
                      exact ev_st (congrArg (fun z => Value.int z :: [.ref 66]) (by rw [if_pos c_21])) J
                    · refine ev_b2 (t := 186) (p' := 186) rfl rfl rfl (if_pos c_21) ?_
                      refine ev_x (i := .iconst 0) (len := 1) (p' := 187) (s' := [.int 0, .ref 66]) rfl rfl rfl ?_
                      exact ev_st (congrArg (fun z => Value.int z :: [.ref 66]) (by rw [if_neg c_21])) J
                · have n_50 : (50 : Int) ≠ (x_1 : Int32).toInt := i32_ne (k := 50) (by decide) c_1
                  have n_51 : (51 : Int) ≠ (x_1 : Int32).toInt := i32_ne (k := 51) (by decide) c_3
                  have n_53 : (53 : Int) ≠ (x_1 : Int32).toInt := i32_ne (k := 53) (by decide) c_5
                  have n_54 : (54 : Int) ≠ (x_1 : Int32).toInt := i32_ne (k := 54) (by decide) c_8
                  have n_56 : (56 : Int) ≠ (x_1 : Int32).toInt := i32_ne (k := 56) (by decide) c_11
                  have n_57 : (57 : Int) ≠ (x_1 : Int32).toInt := i32_ne (k := 57) (by decide) c_13
                  have n_58 : (58 : Int) ≠ (x_1 : Int32).toInt := i32_ne (k := 58) (by decide) c_16
                  have n_60 : (60 : Int) ≠ (x_1 : Int32).toInt := i32_ne (k := 60) (by decide) c_20
                  refine ev_ts (off := 194) (t := 195) rfl rfl ?hsw rfl ?_
                  case hsw =>
                    by_cases hq : (x_1 : Int32).toInt < 50 ∨ 60 < (x_1 : Int32).toInt
                    · exact if_pos hq
                    · rw [if_neg hq]
                      have hw : (x_1 : Int32).toInt = 52 ∨ (x_1 : Int32).toInt = 55 ∨ (x_1 : Int32).toInt = 59 := by omega
                      rcases hw with hw | hw | hw <;> rw [hw] <;> rfl
                  refine ev_x (i := .aload_n 0) (len := 1) (p' := 196) (s' := [.ref 66]) rfl rfl rfl ?_
                  refine ev_x (i := .iload_n 2) (len := 1) (p' := 197) (s' := [.int x_2, .ref 66]) rfl rfl rfl ?_
                  obtain ⟨p_23, G_23, H⟩ := F_bd H
                  refine ev_cv (d := d + 3) (As := [.int x_2]) (a := 66) (p' := 200) rfl rfl rfl ly_66 rfl rfl rfl rfl rfl rfl rfl (F_153_ok (d := d + 0)   G_23) ?_
                  refine ev_st (st' := [.int p_23.1]) rfl ?_
                  have e_23 := F_153_R G_23
                  obtain rfl := Option.some.inj H
                  exact ev_iret rfl rfl rfl rfl
/-- GameTextModel.ask()I -/
def F_156 (N : Nat) (σ : st_S) : Option (Int32 × st_S) :=
  (N_133 N 77 75 (σ)).bind fun p_1 =>
  (F_151 N 61 33 61 (p_1)).bind fun p_2 =>
  (F_154 N (p_2)).bind fun p_3 =>
  some ((if p_3.1 = 0 then (-1) else 1 : Int32), p_3.2)
set_option maxRecDepth 100000 in
theorem F_156_R {N : Nat} {σ : st_S} {p : Int32 × st_S} (H : F_156 N σ = some p) : gR p.2 = gR σ := by
  unfold F_156 at H
  obtain ⟨p_1, G_1, H⟩ := F_bd H
  obtain ⟨p_2, G_2, H⟩ := F_bd H
  obtain ⟨p_3, G_3, H⟩ := F_bd H
  obtain rfl := Option.some.inj H
  exact ((F_154_R G_3).trans ((F_151_R G_2).trans ((N_133_R G_1).trans rfl)))
set_option maxHeartbeats 4000000 in
set_option maxRecDepth 100000 in
theorem F_156_ok {N d : Nat} {σ : st_S} {p : Int32 × st_S}  (H : F_156 N σ = some p) : vz_ev P0 (d + 3) 156 0 (lv_args 0 [.ref 66]) [] (hp σ) (.inl (some (.int p.1)), hp p.2) := by
  unfold F_156 at H
  refine ev_x (i := .aload_n 0) (len := 1) (p' := 1) (s' := [.ref 66]) rfl rfl rfl ?_
  refine ev_gc (p' := 4) (v := 77) rfl rfl rfl ly_66 rfl rfl ?_
  refine ev_x (i := .bipush 75) (len := 2) (p' := 6) (s' := [.int 75, .ref 77]) rfl rfl rfl ?_
  obtain ⟨p_1, G_1, H⟩ := F_bd H
  refine ev_cv (d := d + 2) (As := [.int 75]) (a := 77) (p' := 9) rfl rfl rfl ly_77 rfl rfl rfl rfl rfl rfl rfl (N_133_ok (d := d + 1) nm_77 G_1) ?_
  refine ev_st (st' := []) rfl ?_
  have e_1 := N_133_R G_1
  refine ev_x (i := .aload_n 0) (len := 1) (p' := 10) (s' := [.ref 66]) rfl rfl rfl ?_
  refine ev_x (i := .bipush 61) (len := 2) (p' := 12) (s' := [.int 61, .ref 66]) rfl rfl rfl ?_
  refine ev_x (i := .bipush 33) (len := 2) (p' := 14) (s' := [.int 33, .int 61, .ref 66]) rfl rfl rfl ?_
  refine ev_x (i := .bipush 61) (len := 2) (p' := 16) (s' := [.int 61, .int 33, .int 61, .ref 66]) rfl rfl rfl ?_
  obtain ⟨p_2, G_2, H⟩ := F_bd H
  refine ev_cv (d := d + 2) (As := [.int 61, .int 33, .int 61]) (a := 66) (p' := 19) rfl rfl rfl ly_66 rfl rfl rfl rfl rfl rfl rfl (F_151_ok (d := d + 0)   G_2) ?_
  refine ev_st (st' := []) rfl ?_
  have e_2 := F_151_R G_2
  refine ev_x (i := .aload_n 0) (len := 1) (p' := 20) (s' := [.ref 66]) rfl rfl rfl ?_
  obtain ⟨p_3, G_3, H⟩ := F_bd H
  refine ev_cv (d := d + 2) (As := []) (a := 66) (p' := 23) rfl rfl rfl ly_66 rfl rfl rfl rfl rfl rfl rfl (F_154_ok (d := d + 1)   G_3) ?_
  refine ev_st (st' := [.int p_3.1]) rfl ?_
  have e_3 := F_154_R G_3
  refine F_jn (A := vz_ev P0 (d + 3) 156 31 [(0, .ref 66)] [.int (if p_3.1 = 0 then (-1) else 1 : Int32)] (hp (p_3.2)) (.inl (some (.int p.1)), hp p.2)) ?_ (fun J => ?_)
  · obtain rfl := Option.some.inj H
    exact ev_iret rfl rfl rfl rfl
  · by_cases c_4 : p_3.1 = 0
    · refine ev_b0 (t := 30) (p' := 30) rfl rfl rfl (if_pos c_4) ?_
      refine ev_x (i := .iconst (-1)) (len := 1) (p' := 31) (s' := [.int (-1)]) rfl rfl rfl ?_
      exact ev_st (congrArg (fun z => Value.int z :: []) (by rw [if_pos c_4])) J
    · refine ev_b0 (t := 30) (p' := 26) rfl rfl rfl (if_neg c_4) ?_
      refine ev_x (i := .iconst 1) (len := 1) (p' := 27) (s' := [.int 1]) rfl rfl rfl ?_
      refine ev_x (i := .goto 4) (len := 3) (p' := 31) (s' := [.int 1]) rfl rfl rfl ?_
      exact ev_st (congrArg (fun z => Value.int z :: []) (by rw [if_neg c_4])) J
/-- GameTextModel.isComparison(I)Z -/
def F_157 (N : Nat) (x_0 : Int32) (σ : st_S) : Option (Int32 × st_S) :=
  some ((if x_0 = 23 then 1 else (if x_0 = 18 then 1 else (if x_0 = 21 then 1 else (if x_0 = 19 then 1 else (if x_0 = 22 then 1 else (if x_0 = 20 then 1 else 0))))) : Int32), σ)
set_option maxRecDepth 100000 in
theorem F_157_R {N : Nat} {x_0 : Int32} {σ : st_S} {p : Int32 × st_S} (H : F_157 N x_0 σ = some p) : gR p.2 = gR σ := by
  unfold F_157 at H
  obtain rfl := Option.some.inj H
  exact rfl
set_option maxHeartbeats 4000000 in
set_option maxRecDepth 100000 in
theorem F_157_ok {N d : Nat} {x_0 : Int32} {σ : st_S} {p : Int32 × st_S}  (H : F_157 N x_0 σ = some p) : vz_ev P0 (d + 1) 157 0 (lv_args 0 [.int x_0]) [] (hp σ) (.inl (some (.int p.1)), hp p.2) := by
  unfold F_157 at H
  refine ev_x (i := .iload_n 0) (len := 1) (p' := 1) (s' := [.int x_0]) rfl rfl rfl ?_
  refine ev_x (i := .bipush 23) (len := 2) (p' := 3) (s' := [.int 23, .int x_0]) rfl rfl rfl ?_
  refine F_jn (A := vz_ev P0 (d + 1) 157 41 [(0, .int x_0)] [.int (if x_0 = 23 then 1 else (if x_0 = 18 then 1 else (if x_0 = 21 then 1 else (if x_0 = 19 then 1 else (if x_0 = 22 then 1 else (if x_0 = 20 then 1 else 0))))) : Int32)] (hp (σ)) (.inl (some (.int p.1)), hp p.2)) ?_ (fun J => ?_)
  · obtain rfl := Option.some.inj H
    exact ev_iret rfl rfl rfl (fit_b (by (repeat' split) <;> decide))
  · by_cases c_1 : x_0 = 23
    · refine ev_b2 (t := 36) (p' := 36) rfl rfl rfl (if_pos c_1) ?_
      refine ev_x (i := .iconst 1) (len := 1) (p' := 37) (s' := [.int 1]) rfl rfl rfl ?_
      refine ev_x (i := .goto 4) (len := 3) (p' := 41) (s' := [.int 1]) rfl rfl rfl ?_
      exact ev_st (congrArg (fun z => Value.int z :: []) (by rw [if_pos c_1])) J
    · refine ev_b2 (t := 36) (p' := 6) rfl rfl rfl (if_neg c_1) ?_
      refine ev_x (i := .iload_n 0) (len := 1) (p' := 7) (s' := [.int x_0]) rfl rfl rfl ?_
      refine ev_x (i := .bipush 18) (len := 2) (p' := 9) (s' := [.int 18, .int x_0]) rfl rfl rfl ?_
      by_cases c_2 : x_0 = 18
      · refine ev_b2 (t := 36) (p' := 36) rfl rfl rfl (if_pos c_2) ?_
        refine ev_x (i := .iconst 1) (len := 1) (p' := 37) (s' := [.int 1]) rfl rfl rfl ?_
        refine ev_x (i := .goto 4) (len := 3) (p' := 41) (s' := [.int 1]) rfl rfl rfl ?_
        exact ev_st (congrArg (fun z => Value.int z :: []) (by rw [if_neg c_1, if_pos c_2])) J
      · refine ev_b2 (t := 36) (p' := 12) rfl rfl rfl (if_neg c_2) ?_
        refine ev_x (i := .iload_n 0) (len := 1) (p' := 13) (s' := [.int x_0]) rfl rfl rfl ?_
        refine ev_x (i := .bipush 21) (len := 2) (p' := 15) (s' := [.int 21, .int x_0]) rfl rfl rfl ?_
        by_cases c_3 : x_0 = 21
        · refine ev_b2 (t := 36) (p' := 36) rfl rfl rfl (if_pos c_3) ?_
          refine ev_x (i := .iconst 1) (len := 1) (p' := 37) (s' := [.int 1]) rfl rfl rfl ?_
          refine ev_x (i := .goto 4) (len := 3) (p' := 41) (s' := [.int 1]) rfl rfl rfl ?_
          exact ev_st (congrArg (fun z => Value.int z :: []) (by rw [if_neg c_1, if_neg c_2, if_pos c_3])) J
        · refine ev_b2 (t := 36) (p' := 18) rfl rfl rfl (if_neg c_3) ?_
          refine ev_x (i := .iload_n 0) (len := 1) (p' := 19) (s' := [.int x_0]) rfl rfl rfl ?_
          refine ev_x (i := .bipush 19) (len := 2) (p' := 21) (s' := [.int 19, .int x_0]) rfl rfl rfl ?_
          by_cases c_4 : x_0 = 19
          · refine ev_b2 (t := 36) (p' := 36) rfl rfl rfl (if_pos c_4) ?_
            refine ev_x (i := .iconst 1) (len := 1) (p' := 37) (s' := [.int 1]) rfl rfl rfl ?_
            refine ev_x (i := .goto 4) (len := 3) (p' := 41) (s' := [.int 1]) rfl rfl rfl ?_
            exact ev_st (congrArg (fun z => Value.int z :: []) (by rw [if_neg c_1, if_neg c_2, if_neg c_3, if_pos c_4])) J
          · refine ev_b2 (t := 36) (p' := 24) rfl rfl rfl (if_neg c_4) ?_
            refine ev_x (i := .iload_n 0) (len := 1) (p' := 25) (s' := [.int x_0]) rfl rfl rfl ?_
            refine ev_x (i := .bipush 22) (len := 2) (p' := 27) (s' := [.int 22, .int x_0]) rfl rfl rfl ?_
            by_cases c_5 : x_0 = 22
            · refine ev_b2 (t := 36) (p' := 36) rfl rfl rfl (if_pos c_5) ?_
              refine ev_x (i := .iconst 1) (len := 1) (p' := 37) (s' := [.int 1]) rfl rfl rfl ?_
              refine ev_x (i := .goto 4) (len := 3) (p' := 41) (s' := [.int 1]) rfl rfl rfl ?_
              exact ev_st (congrArg (fun z => Value.int z :: []) (by rw [if_neg c_1, if_neg c_2, if_neg c_3, if_neg c_4, if_pos c_5])) J
            · refine ev_b2 (t := 36) (p' := 30) rfl rfl rfl (if_neg c_5) ?_
              refine ev_x (i := .iload_n 0) (len := 1) (p' := 31) (s' := [.int x_0]) rfl rfl rfl ?_
              refine ev_x (i := .bipush 20) (len := 2) (p' := 33) (s' := [.int 20, .int x_0]) rfl rfl rfl ?_
              by_cases c_6 : x_0 = 20
              · refine ev_b2 (t := 40) (p' := 36) rfl rfl rfl (if_neg (fun q => q c_6)) ?_
                refine ev_x (i := .iconst 1) (len := 1) (p' := 37) (s' := [.int 1]) rfl rfl rfl ?_
                refine ev_x (i := .goto 4) (len := 3) (p' := 41) (s' := [.int 1]) rfl rfl rfl ?_
                exact ev_st (congrArg (fun z => Value.int z :: []) (by rw [if_neg c_1, if_neg c_2, if_neg c_3, if_neg c_4, if_neg c_5, if_pos c_6])) J
              · refine ev_b2 (t := 40) (p' := 40) rfl rfl rfl (if_pos c_6) ?_
                refine ev_x (i := .iconst 0) (len := 1) (p' := 41) (s' := [.int 0]) rfl rfl rfl ?_
                exact ev_st (congrArg (fun z => Value.int z :: []) (by rw [if_neg c_1, if_neg c_2, if_neg c_3, if_neg c_4, if_neg c_5, if_neg c_6])) J
/-- GameTextModel.sign(I)I -/
def F_158 (N : Nat) (x_1 : Int32) (σ : st_S) : Option (Int32 × st_S) :=
  if x_1 = 1 then
    some (1, σ)
  else
  if x_1 = 2 then
    some (1, σ)
  else
  if x_1 = 12 then
    some (1, σ)
  else
  if x_1 = 13 then
    some (1, σ)
  else
  if x_1 = 14 then
    (N_133 N 77 75 (σ)).bind fun p_6 =>
    (N_133 N 77 37 (p_6)).bind fun p_7 =>
    (N_133 N 77 74 (p_7)).bind fun p_8 =>
    (N_133 N 77 61 (p_8)).bind fun p_9 =>
    (N_133 N 77 76 (p_9)).bind fun p_10 =>
    some (1, p_10)
  else
  if x_1 = 15 then
    (N_133 N 77 75 (σ)).bind fun p_12 =>
    (N_133 N 77 37 (p_12)).bind fun p_13 =>
    (N_133 N 77 74 (p_13)).bind fun p_14 =>
    (N_133 N 77 61 (p_14)).bind fun p_15 =>
    (N_133 N 77 76 (p_15)).bind fun p_16 =>
    some (1, p_16)
  else
  if x_1 = 25 then
    (N_133 N 77 75 (σ)).bind fun p_18 =>
    (N_133 N 77 73 (p_18)).bind fun p_19 =>
    (F_154 N (p_19)).bind fun p_20 =>
    some ((if p_20.1 = 0 then (-1) else 1 : Int32), p_20.2)
  else
  if x_1 = 36 then
    (N_133 N 77 75 (σ)).bind fun p_23 =>
    (N_133 N 77 37 (p_23)).bind fun p_24 =>
    (N_133 N 77 61 (p_24)).bind fun p_25 =>
    (F_154 N (p_25)).bind fun p_26 =>
    some ((if p_26.1 = 0 then (-1) else 1 : Int32), p_26.2)
  else
    some ((-1), σ)
set_option maxRecDepth 100000 in
theorem F_158_R {N : Nat} {x_1 : Int32} {σ : st_S} {p : Int32 × st_S} (H : F_158 N x_1 σ = some p) : gR p.2 = gR σ := by
  unfold F_158 at H
  refine F_if H (fun _ H => ?_) (fun _ H => ?_)
  · obtain rfl := Option.some.inj H
    exact rfl
  · refine F_if H (fun _ H => ?_) (fun _ H => ?_)
    · obtain rfl := Option.some.inj H
      exact rfl
    · refine F_if H (fun _ H => ?_) (fun _ H => ?_)
      · obtain rfl := Option.some.inj H
        exact rfl
      · refine F_if H (fun _ H => ?_) (fun _ H => ?_)
        · obtain rfl := Option.some.inj H
          exact rfl
        · refine F_if H (fun _ H => ?_) (fun _ H => ?_)
          · obtain ⟨p_6, G_6, H⟩ := F_bd H
            obtain ⟨p_7, G_7, H⟩ := F_bd H
            obtain ⟨p_8, G_8, H⟩ := F_bd H
            obtain ⟨p_9, G_9, H⟩ := F_bd H
            obtain ⟨p_10, G_10, H⟩ := F_bd H
            obtain rfl := Option.some.inj H
            exact ((N_133_R G_10).trans ((N_133_R G_9).trans ((N_133_R G_8).trans ((N_133_R G_7).trans ((N_133_R G_6).trans rfl)))))
          · refine F_if H (fun _ H => ?_) (fun _ H => ?_)
            · obtain ⟨p_12, G_12, H⟩ := F_bd H
              obtain ⟨p_13, G_13, H⟩ := F_bd H
              obtain ⟨p_14, G_14, H⟩ := F_bd H
              obtain ⟨p_15, G_15, H⟩ := F_bd H
              obtain ⟨p_16, G_16, H⟩ := F_bd H
              obtain rfl := Option.some.inj H
              exact ((N_133_R G_16).trans ((N_133_R G_15).trans ((N_133_R G_14).trans ((N_133_R G_13).trans ((N_133_R G_12).trans rfl)))))
            · refine F_if H (fun _ H => ?_) (fun _ H => ?_)
              · obtain ⟨p_18, G_18, H⟩ := F_bd H
                obtain ⟨p_19, G_19, H⟩ := F_bd H
                obtain ⟨p_20, G_20, H⟩ := F_bd H
                obtain rfl := Option.some.inj H
                exact ((F_154_R G_20).trans ((N_133_R G_19).trans ((N_133_R G_18).trans rfl)))
              · refine F_if H (fun _ H => ?_) (fun _ H => ?_)
                · obtain ⟨p_23, G_23, H⟩ := F_bd H
                  obtain ⟨p_24, G_24, H⟩ := F_bd H
                  obtain ⟨p_25, G_25, H⟩ := F_bd H
                  obtain ⟨p_26, G_26, H⟩ := F_bd H
                  obtain rfl := Option.some.inj H
                  exact ((F_154_R G_26).trans ((N_133_R G_25).trans ((N_133_R G_24).trans ((N_133_R G_23).trans rfl))))
                · obtain rfl := Option.some.inj H
                  exact rfl
set_option maxHeartbeats 4000000 in
set_option maxRecDepth 100000 in
theorem F_158_ok {N d : Nat} {x_1 : Int32} {σ : st_S} {p : Int32 × st_S}  (H : F_158 N x_1 σ = some p) : vz_ev P0 (d + 2) 158 0 (lv_args 0 [.ref 66, .int x_1]) [] (hp σ) (.inl (some (.int p.1)), hp p.2) := by
  unfold F_158 at H
  refine ev_x (i := .iload_n 1) (len := 1) (p' := 1) (s' := [.int x_1]) rfl rfl rfl ?_
  refine F_if H (fun c_1 H => ?_) (fun c_1 H => ?_)
  · refine ev_st (st' := [.int 1]) (congrArg (fun z => Value.int z :: []) c_1) ?_
    refine ev_ls (t := 107) rfl rfl rfl (by decide) ?_
    refine ev_x (i := .iconst 1) (len := 1) (p' := 108) (s' := [.int 1]) rfl rfl rfl ?_
    obtain rfl := Option.some.inj H
    exact ev_iret rfl rfl rfl rfl
  · refine F_if H (fun c_2 H => ?_) (fun c_2 H => ?_)
    · refine ev_st (st' := [.int 2]) (congrArg (fun z => Value.int z :: []) c_2) ?_
      refine ev_ls (t := 107) rfl rfl rfl (by decide) ?_
      refine ev_x (i := .iconst 1) (len := 1) (p' := 108) (s' := [.int 1]) rfl rfl rfl ?_
      obtain rfl := Option.some.inj H
      exact ev_iret rfl rfl rfl rfl
    · refine F_if H (fun c_3 H => ?_) (fun c_3 H => ?_)
      · refine ev_st (st' := [.int 12]) (congrArg (fun z => Value.int z :: []) c_3) ?_
        refine ev_ls (t := 107) rfl rfl rfl (by decide) ?_
        refine ev_x (i := .iconst 1) (len := 1) (p' := 108) (s' := [.int 1]) rfl rfl rfl ?_
        obtain rfl := Option.some.inj H
        exact ev_iret rfl rfl rfl rfl
      · refine F_if H (fun c_4 H => ?_) (fun c_4 H => ?_)
        · refine ev_st (st' := [.int 13]) (congrArg (fun z => Value.int z :: []) c_4) ?_
          refine ev_ls (t := 107) rfl rfl rfl (by decide) ?_
          refine ev_x (i := .iconst 1) (len := 1) (p' := 108) (s' := [.int 1]) rfl rfl rfl ?_
          obtain rfl := Option.some.inj H
          exact ev_iret rfl rfl rfl rfl
        · refine F_if H (fun c_5 H => ?_) (fun c_5 H => ?_)
          · refine ev_st (st' := [.int 14]) (congrArg (fun z => Value.int z :: []) c_5) ?_
            refine ev_ls (t := 149) rfl rfl rfl (by decide) ?_
            refine ev_x (i := .aload_n 0) (len := 1) (p' := 150) (s' := [.ref 66]) rfl rfl rfl ?_
            refine ev_gc (p' := 153) (v := 77) rfl rfl rfl ly_66 rfl rfl ?_
            refine ev_x (i := .bipush 75) (len := 2) (p' := 155) (s' := [.int 75, .ref 77]) rfl rfl rfl ?_
            obtain ⟨p_6, G_6, H⟩ := F_bd H
            refine ev_cv (d := d + 1) (As := [.int 75]) (a := 77) (p' := 158) rfl rfl rfl ly_77 rfl rfl rfl rfl rfl rfl rfl (N_133_ok (d := d + 0) nm_77 G_6) ?_
            refine ev_st (st' := []) rfl ?_
            have e_6 := N_133_R G_6
            refine ev_x (i := .aload_n 0) (len := 1) (p' := 159) (s' := [.ref 66]) rfl rfl rfl ?_
            refine ev_gc (p' := 162) (v := 77) rfl rfl rfl ly_66 rfl rfl ?_
            refine ev_x (i := .bipush 37) (len := 2) (p' := 164) (s' := [.int 37, .ref 77]) rfl rfl rfl ?_
            obtain ⟨p_7, G_7, H⟩ := F_bd H
            refine ev_cv (d := d + 1) (As := [.int 37]) (a := 77) (p' := 167) rfl rfl rfl ly_77 rfl rfl rfl rfl rfl rfl rfl (N_133_ok (d := d + 0) nm_77 G_7) ?_
            refine ev_st (st' := []) rfl ?_
            have e_7 := N_133_R G_7
            refine ev_x (i := .aload_n 0) (len := 1) (p' := 168) (s' := [.ref 66]) rfl rfl rfl ?_
            refine ev_gc (p' := 171) (v := 77) rfl rfl rfl ly_66 rfl rfl ?_
            refine ev_x (i := .bipush 74) (len := 2) (p' := 173) (s' := [.int 74, .ref 77]) rfl rfl rfl ?_
            obtain ⟨p_8, G_8, H⟩ := F_bd H
            refine ev_cv (d := d + 1) (As := [.int 74]) (a := 77) (p' := 176) rfl rfl rfl ly_77 rfl rfl rfl rfl rfl rfl rfl (N_133_ok (d := d + 0) nm_77 G_8) ?_
            refine ev_st (st' := []) rfl ?_
            have e_8 := N_133_R G_8
            refine ev_x (i := .aload_n 0) (len := 1) (p' := 177) (s' := [.ref 66]) rfl rfl rfl ?_
            refine ev_gc (p' := 180) (v := 77) rfl rfl rfl ly_66 rfl rfl ?_
            refine ev_x (i := .bipush 61) (len := 2) (p' := 182) (s' := [.int 61, .ref 77]) rfl rfl rfl ?_
            obtain ⟨p_9, G_9, H⟩ := F_bd H
            refine ev_cv (d := d + 1) (As := [.int 61]) (a := 77) (p' := 185) rfl rfl rfl ly_77 rfl rfl rfl rfl rfl rfl rfl (N_133_ok (d := d + 0) nm_77 G_9) ?_
            refine ev_st (st' := []) rfl ?_
            have e_9 := N_133_R G_9
            refine ev_x (i := .aload_n 0) (len := 1) (p' := 186) (s' := [.ref 66]) rfl rfl rfl ?_
            refine ev_gc (p' := 189) (v := 77) rfl rfl rfl ly_66 rfl rfl ?_
            refine ev_x (i := .bipush 76) (len := 2) (p' := 191) (s' := [.int 76, .ref 77]) rfl rfl rfl ?_
            obtain ⟨p_10, G_10, H⟩ := F_bd H
            refine ev_cv (d := d + 1) (As := [.int 76]) (a := 77) (p' := 194) rfl rfl rfl ly_77 rfl rfl rfl rfl rfl rfl rfl (N_133_ok (d := d + 0) nm_77 G_10) ?_
            refine ev_st (st' := []) rfl ?_
            have e_10 := N_133_R G_10
            refine ev_x (i := .iconst 1) (len := 1) (p' := 195) (s' := [.int 1]) rfl rfl rfl ?_
            obtain rfl := Option.some.inj H
            exact ev_iret rfl rfl rfl rfl
          · refine F_if H (fun c_11 H => ?_) (fun c_11 H => ?_)
            · refine ev_st (st' := [.int 15]) (congrArg (fun z => Value.int z :: []) c_11) ?_
              refine ev_ls (t := 149) rfl rfl rfl (by decide) ?_
              refine ev_x (i := .aload_n 0) (len := 1) (p' := 150) (s' := [.ref 66]) rfl rfl rfl ?_
              refine ev_gc (p' := 153) (v := 77) rfl rfl rfl ly_66 rfl rfl ?_
              refine ev_x (i := .bipush 75) (len := 2) (p' := 155) (s' := [.int 75, .ref 77]) rfl rfl rfl ?_
              obtain ⟨p_12, G_12, H⟩ := F_bd H
              refine ev_cv (d := d + 1) (As := [.int 75]) (a := 77) (p' := 158) rfl rfl rfl ly_77 rfl rfl rfl rfl rfl rfl rfl (N_133_ok (d := d + 0) nm_77 G_12) ?_
              refine ev_st (st' := []) rfl ?_
              have e_12 := N_133_R G_12
              refine ev_x (i := .aload_n 0) (len := 1) (p' := 159) (s' := [.ref 66]) rfl rfl rfl ?_
              refine ev_gc (p' := 162) (v := 77) rfl rfl rfl ly_66 rfl rfl ?_
              refine ev_x (i := .bipush 37) (len := 2) (p' := 164) (s' := [.int 37, .ref 77]) rfl rfl rfl ?_
              obtain ⟨p_13, G_13, H⟩ := F_bd H
              refine ev_cv (d := d + 1) (As := [.int 37]) (a := 77) (p' := 167) rfl rfl rfl ly_77 rfl rfl rfl rfl rfl rfl rfl (N_133_ok (d := d + 0) nm_77 G_13) ?_
              refine ev_st (st' := []) rfl ?_
              have e_13 := N_133_R G_13
              refine ev_x (i := .aload_n 0) (len := 1) (p' := 168) (s' := [.ref 66]) rfl rfl rfl ?_
              refine ev_gc (p' := 171) (v := 77) rfl rfl rfl ly_66 rfl rfl ?_
              refine ev_x (i := .bipush 74) (len := 2) (p' := 173) (s' := [.int 74, .ref 77]) rfl rfl rfl ?_
              obtain ⟨p_14, G_14, H⟩ := F_bd H
              refine ev_cv (d := d + 1) (As := [.int 74]) (a := 77) (p' := 176) rfl rfl rfl ly_77 rfl rfl rfl rfl rfl rfl rfl (N_133_ok (d := d + 0) nm_77 G_14) ?_
              refine ev_st (st' := []) rfl ?_
              have e_14 := N_133_R G_14
              refine ev_x (i := .aload_n 0) (len := 1) (p' := 177) (s' := [.ref 66]) rfl rfl rfl ?_
              refine ev_gc (p' := 180) (v := 77) rfl rfl rfl ly_66 rfl rfl ?_
              refine ev_x (i := .bipush 61) (len := 2) (p' := 182) (s' := [.int 61, .ref 77]) rfl rfl rfl ?_
              obtain ⟨p_15, G_15, H⟩ := F_bd H
              refine ev_cv (d := d + 1) (As := [.int 61]) (a := 77) (p' := 185) rfl rfl rfl ly_77 rfl rfl rfl rfl rfl rfl rfl (N_133_ok (d := d + 0) nm_77 G_15) ?_
              refine ev_st (st' := []) rfl ?_
              have e_15 := N_133_R G_15
              refine ev_x (i := .aload_n 0) (len := 1) (p' := 186) (s' := [.ref 66]) rfl rfl rfl ?_
              refine ev_gc (p' := 189) (v := 77) rfl rfl rfl ly_66 rfl rfl ?_
              refine ev_x (i := .bipush 76) (len := 2) (p' := 191) (s' := [.int 76, .ref 77]) rfl rfl rfl ?_
              obtain ⟨p_16, G_16, H⟩ := F_bd H
              refine ev_cv (d := d + 1) (As := [.int 76]) (a := 77) (p' := 194) rfl rfl rfl ly_77 rfl rfl rfl rfl rfl rfl rfl (N_133_ok (d := d + 0) nm_77 G_16) ?_
              refine ev_st (st' := []) rfl ?_
              have e_16 := N_133_R G_16
              refine ev_x (i := .iconst 1) (len := 1) (p' := 195) (s' := [.int 1]) rfl rfl rfl ?_
              obtain rfl := Option.some.inj H
              exact ev_iret rfl rfl rfl rfl
            · refine F_if H (fun c_17 H => ?_) (fun c_17 H => ?_)
              · refine ev_st (st' := [.int 25]) (congrArg (fun z => Value.int z :: []) c_17) ?_
                refine ev_ls (t := 76) rfl rfl rfl (by decide) ?_
                refine ev_x (i := .aload_n 0) (len := 1) (p' := 77) (s' := [.ref 66]) rfl rfl rfl ?_
                refine ev_gc (p' := 80) (v := 77) rfl rfl rfl ly_66 rfl rfl ?_
                refine ev_x (i := .bipush 75) (len := 2) (p' := 82) (s' := [.int 75, .ref 77]) rfl rfl rfl ?_
                obtain ⟨p_18, G_18, H⟩ := F_bd H
                refine ev_cv (d := d + 1) (As := [.int 75]) (a := 77) (p' := 85) rfl rfl rfl ly_77 rfl rfl rfl rfl rfl rfl rfl (N_133_ok (d := d + 0) nm_77 G_18) ?_
                refine ev_st (st' := []) rfl ?_
                have e_18 := N_133_R G_18
                refine ev_x (i := .aload_n 0) (len := 1) (p' := 86) (s' := [.ref 66]) rfl rfl rfl ?_
                refine ev_gc (p' := 89) (v := 77) rfl rfl rfl ly_66 rfl rfl ?_
                refine ev_x (i := .bipush 73) (len := 2) (p' := 91) (s' := [.int 73, .ref 77]) rfl rfl rfl ?_
                obtain ⟨p_19, G_19, H⟩ := F_bd H
                refine ev_cv (d := d + 1) (As := [.int 73]) (a := 77) (p' := 94) rfl rfl rfl ly_77 rfl rfl rfl rfl rfl rfl rfl (N_133_ok (d := d + 0) nm_77 G_19) ?_
                refine ev_st (st' := []) rfl ?_
                have e_19 := N_133_R G_19
                refine ev_x (i := .aload_n 0) (len := 1) (p' := 95) (s' := [.ref 66]) rfl rfl rfl ?_
                obtain ⟨p_20, G_20, H⟩ := F_bd H
                refine ev_cv (d := d + 1) (As := []) (a := 66) (p' := 98) rfl rfl rfl ly_66 rfl rfl rfl rfl rfl rfl rfl (F_154_ok (d := d + 0)   G_20) ?_
                refine ev_st (st' := [.int p_20.1]) rfl ?_
                have e_20 := F_154_R G_20
                refine F_jn (A := vz_ev P0 (d + 2) 158 106 [(0, .ref 66), (1, .int x_1)] [.int (if p_20.1 = 0 then (-1) else 1 : Int32)] (hp (p_20.2)) (.inl (some (.int p.1)), hp p.2)) ?_ (fun J => ?_)
                · obtain rfl := Option.some.inj H
                  exact ev_iret rfl rfl rfl rfl
                · by_cases c_21 : p_20.1 = 0
                  · refine ev_b0 (t := 105) (p' := 105) rfl rfl rfl (if_pos c_21) ?_
                    refine ev_x (i := .iconst (-1)) (len := 1) (p' := 106) (s' := [.int (-1)]) rfl rfl rfl ?_
                    exact ev_st (congrArg (fun z => Value.int z :: []) (by rw [if_pos c_21])) J
                  · refine ev_b0 (t := 105) (p' := 101) rfl rfl rfl (if_neg c_21) ?_
                    refine ev_x (i := .iconst 1) (len := 1) (p' := 102) (s' := [.int 1]) rfl rfl rfl ?_
                    refine ev_x (i := .goto 4) (len := 3) (p' := 106) (s' := [.int 1]) rfl rfl rfl ?_
                    exact ev_st (congrArg (fun z => Value.int z :: []) (by rw [if_neg c_21])) J
              · refine F_if H (fun c_22 H => ?_) (fun c_22 H => ?_)
                · refine ev_st (st' := [.int 36]) (congrArg (fun z => Value.int z :: []) c_22) ?_
                  refine ev_ls (t := 109) rfl rfl rfl (by decide) ?_
                  refine ev_x (i := .aload_n 0) (len := 1) (p' := 110) (s' := [.ref 66]) rfl rfl rfl ?_
                  refine ev_gc (p' := 113) (v := 77) rfl rfl rfl ly_66 rfl rfl ?_
                  refine ev_x (i := .bipush 75) (len := 2) (p' := 115) (s' := [.int 75, .ref 77]) rfl rfl rfl ?_
                  obtain ⟨p_23, G_23, H⟩ := F_bd H
                  refine ev_cv (d := d + 1) (As := [.int 75]) (a := 77) (p' := 118) rfl rfl rfl ly_77 rfl rfl rfl rfl rfl rfl rfl (N_133_ok (d := d + 0) nm_77 G_23) ?_
                  refine ev_st (st' := []) rfl ?_
                  have e_23 := N_133_R G_23
                  refine ev_x (i := .aload_n 0) (len := 1) (p' := 119) (s' := [.ref 66]) rfl rfl rfl ?_
                  refine ev_gc (p' := 122) (v := 77) rfl rfl rfl ly_66 rfl rfl ?_
                  refine ev_x (i := .bipush 37) (len := 2) (p' := 124) (s' := [.int 37, .ref 77]) rfl rfl rfl ?_
                  obtain ⟨p_24, G_24, H⟩ := F_bd H
                  refine ev_cv (d := d + 1) (As := [.int 37]) (a := 77) (p' := 127) rfl rfl rfl ly_77 rfl rfl rfl rfl rfl rfl rfl (N_133_ok (d := d + 0) nm_77 G_24) ?_
                  refine ev_st (st' := []) rfl ?_
                  have e_24 := N_133_R G_24
                  refine ev_x (i := .aload_n 0) (len := 1) (p' := 128) (s' := [.ref 66]) rfl rfl rfl ?_
                  refine ev_gc (p' := 131) (v := 77) rfl rfl rfl ly_66 rfl rfl ?_
                  refine ev_x (i := .bipush 61) (len := 2) (p' := 133) (s' := [.int 61, .ref 77]) rfl rfl rfl ?_
                  obtain ⟨p_25, G_25, H⟩ := F_bd H
                  refine ev_cv (d := d + 1) (As := [.int 61]) (a := 77) (p' := 136) rfl rfl rfl ly_77 rfl rfl rfl rfl rfl rfl rfl (N_133_ok (d := d + 0) nm_77 G_25) ?_
                  refine ev_st (st' := []) rfl ?_
                  have e_25 := N_133_R G_25
                  refine ev_x (i := .aload_n 0) (len := 1) (p' := 137) (s' := [.ref 66]) rfl rfl rfl ?_
                  obtain ⟨p_26, G_26, H⟩ := F_bd H
                  refine ev_cv (d := d + 1) (As := []) (a := 66) (p' := 140) rfl rfl rfl ly_66 rfl rfl rfl rfl rfl rfl rfl (F_154_ok (d := d + 0)   G_26) ?_
                  refine ev_st (st' := [.int p_26.1]) rfl ?_
                  have e_26 := F_154_R G_26
                  refine F_jn (A := vz_ev P0 (d + 2) 158 148 [(0, .ref 66), (1, .int x_1)] [.int (if p_26.1 = 0 then (-1) else 1 : Int32)] (hp (p_26.2)) (.inl (some (.int p.1)), hp p.2)) ?_ (fun J => ?_)
                  · obtain rfl := Option.some.inj H
                    exact ev_iret rfl rfl rfl rfl
                  · by_cases c_27 : p_26.1 = 0
                    · refine ev_b0 (t := 147) (p' := 147) rfl rfl rfl (if_pos c_27) ?_
                      refine ev_x (i := .iconst (-1)) (len := 1) (p' := 148) (s' := [.int (-1)]) rfl rfl rfl ?_
                      exact ev_st (congrArg (fun z => Value.int z :: []) (by rw [if_pos c_27])) J
                    · refine ev_b0 (t := 147) (p' := 143) rfl rfl rfl (if_neg c_27) ?_
                      refine ev_x (i := .iconst 1) (len := 1) (p' := 144) (s' := [.int 1]) rfl rfl rfl ?_
                      refine ev_x (i := .goto 4) (len := 3) (p' := 148) (s' := [.int 1]) rfl rfl rfl ?_
                      exact ev_st (congrArg (fun z => Value.int z :: []) (by rw [if_neg c_27])) J
                · refine ev_ls (t := 196) rfl rfl rfl (ls_go ((ls_ne (i32_ne (k := 1) (by decide) c_1)).trans ((ls_ne (i32_ne (k := 2) (by decide) c_2)).trans ((ls_ne (i32_ne (k := 12) (by decide) c_3)).trans ((ls_ne (i32_ne (k := 13) (by decide) c_4)).trans ((ls_ne (i32_ne (k := 14) (by decide) c_5)).trans ((ls_ne (i32_ne (k := 15) (by decide) c_11)).trans ((ls_ne (i32_ne (k := 25) (by decide) c_17)).trans ((ls_ne (i32_ne (k := 36) (by decide) c_22)).trans rfl)))))))) rfl) ?_
                  refine ev_x (i := .iconst (-1)) (len := 1) (p' := 197) (s' := [.int (-1)]) rfl rfl rfl ?_
                  obtain rfl := Option.some.inj H
                  exact ev_iret rfl rfl rfl rfl
/-- GameTextModel.rule(II)I -/
def F_155 (N : Nat) (x_1 : Int32) (x_2 : Int32) (σ : st_S) : Option (Int32 × st_S) :=
  if x_1 = 61 then
    (N_133 N 77 62 (σ)).bind fun p_2 =>
    (N_133 N 77 63 (p_2)).bind fun p_3 =>
    some (0, p_3)
  else
  if x_1 = 62 then
    if x_2 = 32 then
      (F_156 N (σ)).bind fun p_6 =>
      some (p_6.1, p_6.2)
    else
      some (0, σ)
  else
  if x_1 = 63 then
    (N_133 N 77 64 (σ)).bind fun p_8 =>
    (N_133 N 77 65 (p_8)).bind fun p_9 =>
    some (0, p_9)
  else
  if x_1 = 64 then
    (F_152 N (if x_2 = 30 then 1 else 0 : Int32) 64 65 (σ)).bind fun p_12 =>
    some (p_12.1, p_12.2)
  else
  if x_1 = 65 then
    (N_133 N 77 66 (σ)).bind fun p_14 =>
    (N_133 N 77 67 (p_14)).bind fun p_15 =>
    some (0, p_15)
  else
  if x_1 = 66 then
    (F_152 N (if x_2 = 29 then 1 else 0 : Int32) 66 67 (σ)).bind fun p_18 =>
    some (p_18.1, p_18.2)
  else
  if x_1 = 67 then
    if x_2 = 31 then
      (N_133 N 77 75 (σ)).bind fun p_21 =>
      (N_133 N 77 67 (p_21)).bind fun p_22 =>
      (F_154 N (p_22)).bind fun p_23 =>
      some ((if p_23.1 = 0 then (-1) else 1 : Int32), p_23.2)
    else
      (N_133 N 77 68 (σ)).bind fun p_25 =>
      (N_133 N 77 69 (p_25)).bind fun p_26 =>
      some (0, p_26)
  else
  if x_1 = 68 then
    (F_157 N x_2 (σ)).bind fun p_28 =>
    if p_28.1 = 0 then
      some (0, p_28.2)
    else
      (N_133 N 77 69 (p_28.2)).bind fun p_30 =>
      some (1, p_30)
  else
  if x_1 = 69 then
    (N_133 N 77 70 (σ)).bind fun p_32 =>
    (N_133 N 77 71 (p_32)).bind fun p_33 =>
    some (0, p_33)
  else
  if x_1 = 70 then
    (F_152 N (if x_2 = 24 then 1 else (if x_2 = 25 then 1 else 0) : Int32) 70 71 (σ)).bind fun p_37 =>
    some (p_37.1, p_37.2)
  else
  if x_1 = 71 then
    (N_133 N 77 72 (σ)).bind fun p_39 =>
    (N_133 N 77 73 (p_39)).bind fun p_40 =>
    some (0, p_40)
  else
  if x_1 = 72 then
    (F_152 N (if x_2 = 26 then 1 else (if x_2 = 27 then 1 else (if x_2 = 28 then 1 else 0)) : Int32) 72 73 (σ)).bind fun p_45 =>
    some (p_45.1, p_45.2)
  else
  if x_1 = 74 then
    (F_152 N (if x_2 = 35 then 1 else 0 : Int32) 74 61 (σ)).bind fun p_48 =>
    some (p_48.1, p_48.2)
  else
  if x_1 = 76 then
    if x_2 = 36 then
      (F_154 N (σ)).bind fun p_51 =>
      some ((if p_51.1 = 0 then (-1) else 1 : Int32), p_51.2)
    else
      some ((-1), σ)
  else
    (F_158 N x_2 (σ)).bind fun p_53 =>
    some (p_53.1, p_53.2)
set_option maxRecDepth 100000 in
theorem F_155_R {N : Nat} {x_1 : Int32} {x_2 : Int32} {σ : st_S} {p : Int32 × st_S} (H : F_155 N x_1 x_2 σ = some p) : gR p.2 = gR σ := by
  unfold F_155 at H
  refine F_if H (fun _ H => ?_) (fun _ H => ?_)
  · obtain ⟨p_2, G_2, H⟩ := F_bd H
    obtain ⟨p_3, G_3, H⟩ := F_bd H
    obtain rfl := Option.some.inj H
    exact ((N_133_R G_3).trans ((N_133_R G_2).trans rfl))
  · refine F_if H (fun _ H => ?_) (fun _ H => ?_)
    · refine F_if H (fun _ H => ?_) (fun _ H => ?_)
      · obtain ⟨p_6, G_6, H⟩ := F_bd H
        obtain rfl := Option.some.inj H
        exact ((F_156_R G_6).trans rfl)
      · obtain rfl := Option.some.inj H
        exact rfl
    · refine F_if H (fun _ H => ?_) (fun _ H => ?_)
      · obtain ⟨p_8, G_8, H⟩ := F_bd H
        obtain ⟨p_9, G_9, H⟩ := F_bd H
        obtain rfl := Option.some.inj H
        exact ((N_133_R G_9).trans ((N_133_R G_8).trans rfl))
      · refine F_if H (fun _ H => ?_) (fun _ H => ?_)
        · obtain ⟨p_12, G_12, H⟩ := F_bd H
          obtain rfl := Option.some.inj H
          exact ((F_152_R G_12).trans rfl)
        · refine F_if H (fun _ H => ?_) (fun _ H => ?_)
          · obtain ⟨p_14, G_14, H⟩ := F_bd H
            obtain ⟨p_15, G_15, H⟩ := F_bd H
            obtain rfl := Option.some.inj H
            exact ((N_133_R G_15).trans ((N_133_R G_14).trans rfl))
          · refine F_if H (fun _ H => ?_) (fun _ H => ?_)
            · obtain ⟨p_18, G_18, H⟩ := F_bd H
              obtain rfl := Option.some.inj H
              exact ((F_152_R G_18).trans rfl)
            · refine F_if H (fun _ H => ?_) (fun _ H => ?_)
              · refine F_if H (fun _ H => ?_) (fun _ H => ?_)
                · obtain ⟨p_21, G_21, H⟩ := F_bd H
                  obtain ⟨p_22, G_22, H⟩ := F_bd H
                  obtain ⟨p_23, G_23, H⟩ := F_bd H
                  obtain rfl := Option.some.inj H
                  exact ((F_154_R G_23).trans ((N_133_R G_22).trans ((N_133_R G_21).trans rfl)))
                · obtain ⟨p_25, G_25, H⟩ := F_bd H
                  obtain ⟨p_26, G_26, H⟩ := F_bd H
                  obtain rfl := Option.some.inj H
                  exact ((N_133_R G_26).trans ((N_133_R G_25).trans rfl))
              · refine F_if H (fun _ H => ?_) (fun _ H => ?_)
                · obtain ⟨p_28, G_28, H⟩ := F_bd H
                  refine F_if H (fun _ H => ?_) (fun _ H => ?_)
                  · obtain rfl := Option.some.inj H
                    exact ((F_157_R G_28).trans rfl)
                  · obtain ⟨p_30, G_30, H⟩ := F_bd H
                    obtain rfl := Option.some.inj H
                    exact ((N_133_R G_30).trans ((F_157_R G_28).trans rfl))
                · refine F_if H (fun _ H => ?_) (fun _ H => ?_)
                  · obtain ⟨p_32, G_32, H⟩ := F_bd H
                    obtain ⟨p_33, G_33, H⟩ := F_bd H
                    obtain rfl := Option.some.inj H
                    exact ((N_133_R G_33).trans ((N_133_R G_32).trans rfl))
                  · refine F_if H (fun _ H => ?_) (fun _ H => ?_)
                    · obtain ⟨p_37, G_37, H⟩ := F_bd H
                      obtain rfl := Option.some.inj H
                      exact ((F_152_R G_37).trans rfl)
                    · refine F_if H (fun _ H => ?_) (fun _ H => ?_)
                      · obtain ⟨p_39, G_39, H⟩ := F_bd H
                        obtain ⟨p_40, G_40, H⟩ := F_bd H
                        obtain rfl := Option.some.inj H
                        exact ((N_133_R G_40).trans ((N_133_R G_39).trans rfl))
                      · refine F_if H (fun _ H => ?_) (fun _ H => ?_)
                        · obtain ⟨p_45, G_45, H⟩ := F_bd H
                          obtain rfl := Option.some.inj H
                          exact ((F_152_R G_45).trans rfl)
                        · refine F_if H (fun _ H => ?_) (fun _ H => ?_)
                          · obtain ⟨p_48, G_48, H⟩ := F_bd H
                            obtain rfl := Option.some.inj H
                            exact ((F_152_R G_48).trans rfl)
                          · refine F_if H (fun _ H => ?_) (fun _ H => ?_)
                            · refine F_if H (fun _ H => ?_) (fun _ H => ?_)
                              · obtain ⟨p_51, G_51, H⟩ := F_bd H
                                obtain rfl := Option.some.inj H
                                exact ((F_154_R G_51).trans rfl)
                              · obtain rfl := Option.some.inj H
                                exact rfl
                            · obtain ⟨p_53, G_53, H⟩ := F_bd H
                              obtain rfl := Option.some.inj H
                              exact ((F_158_R G_53).trans rfl)
set_option maxHeartbeats 4000000 in
set_option maxRecDepth 100000 in
theorem F_155_ok {N d : Nat} {x_1 : Int32} {x_2 : Int32} {σ : st_S} {p : Int32 × st_S}  (H : F_155 N x_1 x_2 σ = some p) : vz_ev P0 (d + 4) 155 0 (lv_args 0 [.ref 66, .int x_1, .int x_2]) [] (hp σ) (.inl (some (.int p.1)), hp p.2) := by
  unfold F_155 at H
  refine ev_x (i := .iload_n 1) (len := 1) (p' := 1) (s' := [.int x_1]) rfl rfl rfl ?_
  refine F_if H (fun c_1 H => ?_) (fun c_1 H => ?_)
  · refine ev_st (st' := [.int 61]) (congrArg (fun z => Value.int z :: []) c_1) ?_
    refine ev_ts (off := 79) (t := 80) rfl rfl (by decide) rfl ?_
    refine ev_x (i := .aload_n 0) (len := 1) (p' := 81) (s' := [.ref 66]) rfl rfl rfl ?_
    refine ev_gc (p' := 84) (v := 77) rfl rfl rfl ly_66 rfl rfl ?_
    refine ev_x (i := .bipush 62) (len := 2) (p' := 86) (s' := [.int 62, .ref 77]) rfl rfl rfl ?_
    obtain ⟨p_2, G_2, H⟩ := F_bd H
    refine ev_cv (d := d + 3) (As := [.int 62]) (a := 77) (p' := 89) rfl rfl rfl ly_77 rfl rfl rfl rfl rfl rfl rfl (N_133_ok (d := d + 2) nm_77 G_2) ?_
    refine ev_st (st' := []) rfl ?_
    have e_2 := N_133_R G_2
    refine ev_x (i := .aload_n 0) (len := 1) (p' := 90) (s' := [.ref 66]) rfl rfl rfl ?_
    refine ev_gc (p' := 93) (v := 77) rfl rfl rfl ly_66 rfl rfl ?_
    refine ev_x (i := .bipush 63) (len := 2) (p' := 95) (s' := [.int 63, .ref 77]) rfl rfl rfl ?_
    obtain ⟨p_3, G_3, H⟩ := F_bd H
    refine ev_cv (d := d + 3) (As := [.int 63]) (a := 77) (p' := 98) rfl rfl rfl ly_77 rfl rfl rfl rfl rfl rfl rfl (N_133_ok (d := d + 2) nm_77 G_3) ?_
    refine ev_st (st' := []) rfl ?_
    have e_3 := N_133_R G_3
    refine ev_x (i := .iconst 0) (len := 1) (p' := 99) (s' := [.int 0]) rfl rfl rfl ?_
    obtain rfl := Option.some.inj H
    exact ev_iret rfl rfl rfl rfl
  · refine F_if H (fun c_4 H => ?_) (fun c_4 H => ?_)
    · refine ev_st (st' := [.int 62]) (congrArg (fun z => Value.int z :: []) c_4) ?_
      refine ev_ts (off := 99) (t := 100) rfl rfl (by decide) rfl ?_
      refine ev_x (i := .iload_n 2) (len := 1) (p' := 101) (s' := [.int x_2]) rfl rfl rfl ?_
      refine ev_x (i := .bipush 32) (len := 2) (p' := 103) (s' := [.int 32, .int x_2]) rfl rfl rfl ?_
      refine F_if H (fun c_5 H => ?_) (fun c_5 H => ?_)
      · refine ev_b2 (t := 113) (p' := 106) rfl rfl rfl (if_neg (fun q => q c_5)) ?_
        refine ev_x (i := .aload_n 0) (len := 1) (p' := 107) (s' := [.ref 66]) rfl rfl rfl ?_
        obtain ⟨p_6, G_6, H⟩ := F_bd H
        refine ev_cv (d := d + 3) (As := []) (a := 66) (p' := 110) rfl rfl rfl ly_66 rfl rfl rfl rfl rfl rfl rfl (F_156_ok (d := d + 0)   G_6) ?_
        refine ev_st (st' := [.int p_6.1]) rfl ?_
        have e_6 := F_156_R G_6
        refine ev_x (i := .goto 4) (len := 3) (p' := 114) (s' := [.int p_6.1]) rfl rfl rfl ?_
        obtain rfl := Option.some.inj H
        exact ev_iret rfl rfl rfl rfl
      · refine ev_b2 (t := 113) (p' := 113) rfl rfl rfl (if_pos c_5) ?_
        refine ev_x (i := .iconst 0) (len := 1) (p' := 114) (s' := [.int 0]) rfl rfl rfl ?_
        obtain rfl := Option.some.inj H
        exact ev_iret rfl rfl rfl rfl
    · refine F_if H (fun c_7 H => ?_) (fun c_7 H => ?_)
      · refine ev_st (st' := [.int 63]) (congrArg (fun z => Value.int z :: []) c_7) ?_
        refine ev_ts (off := 114) (t := 115) rfl rfl (by decide) rfl ?_
        refine ev_x (i := .aload_n 0) (len := 1) (p' := 116) (s' := [.ref 66]) rfl rfl rfl ?_
        refine ev_gc (p' := 119) (v := 77) rfl rfl rfl ly_66 rfl rfl ?_
        refine ev_x (i := .bipush 64) (len := 2) (p' := 121) (s' := [.int 64, .ref 77]) rfl rfl rfl ?_
        obtain ⟨p_8, G_8, H⟩ := F_bd H
        refine ev_cv (d := d + 3) (As := [.int 64]) (a := 77) (p' := 124) rfl rfl rfl ly_77 rfl rfl rfl rfl rfl rfl rfl (N_133_ok (d := d + 2) nm_77 G_8) ?_
        refine ev_st (st' := []) rfl ?_
        have e_8 := N_133_R G_8
        refine ev_x (i := .aload_n 0) (len := 1) (p' := 125) (s' := [.ref 66]) rfl rfl rfl ?_
        refine ev_gc (p' := 128) (v := 77) rfl rfl rfl ly_66 rfl rfl ?_
        refine ev_x (i := .bipush 65) (len := 2) (p' := 130) (s' := [.int 65, .ref 77]) rfl rfl rfl ?_
        obtain ⟨p_9, G_9, H⟩ := F_bd H
        refine ev_cv (d := d + 3) (As := [.int 65]) (a := 77) (p' := 133) rfl rfl rfl ly_77 rfl rfl rfl rfl rfl rfl rfl (N_133_ok (d := d + 2) nm_77 G_9) ?_
        refine ev_st (st' := []) rfl ?_
        have e_9 := N_133_R G_9
        refine ev_x (i := .iconst 0) (len := 1) (p' := 134) (s' := [.int 0]) rfl rfl rfl ?_
        obtain rfl := Option.some.inj H
        exact ev_iret rfl rfl rfl rfl
      · refine F_if H (fun c_10 H => ?_) (fun c_10 H => ?_)
        · refine ev_st (st' := [.int 64]) (congrArg (fun z => Value.int z :: []) c_10) ?_
          refine ev_ts (off := 134) (t := 135) rfl rfl (by decide) rfl ?_
          refine ev_x (i := .aload_n 0) (len := 1) (p' := 136) (s' := [.ref 66]) rfl rfl rfl ?_
          refine ev_x (i := .iload_n 2) (len := 1) (p' := 137) (s' := [.int x_2, .ref 66]) rfl rfl rfl ?_
          refine ev_x (i := .bipush 30) (len := 2) (p' := 139) (s' := [.int 30, .int x_2, .ref 66]) rfl rfl rfl ?_
          refine F_jn (A := vz_ev P0 (d + 4) 155 147 [(0, .ref 66), (1, .int x_1), (2, .int x_2)] [.int (if x_2 = 30 then 1 else 0 : Int32), .ref 66] (hp (σ)) (.inl (some (.int p.1)), hp p.2)) ?_ (fun J => ?_)
          · refine ev_x (i := .bipush 64) (len := 2) (p' := 149) (s' := [.int 64, .int (if x_2 = 30 then 1 else 0 : Int32), .ref 66]) rfl rfl rfl ?_
            refine ev_x (i := .bipush 65) (len := 2) (p' := 151) (s' := [.int 65, .int 64, .int (if x_2 = 30 then 1 else 0 : Int32), .ref 66]) rfl rfl rfl ?_
            obtain ⟨p_12, G_12, H⟩ := F_bd H
            refine ev_cv (d := d + 3) (As := [.int (if x_2 = 30 then 1 else 0 : Int32), .int 64, .int 65]) (a := 66) (p' := 154) rfl rfl rfl ly_66 rfl rfl rfl rfl rfl rfl rfl (F_152_ok (d := d + 1)   G_12) ?_
            refine ev_st (st' := [.int p_12.1]) rfl ?_
            have e_12 := F_152_R G_12
            obtain rfl := Option.some.inj H
            exact ev_iret rfl rfl rfl rfl
          · by_cases c_11 : x_2 = 30
            · refine ev_b2 (t := 146) (p' := 142) rfl rfl rfl (if_neg (fun q => q c_11)) ?_
              refine ev_x (i := .iconst 1) (len := 1) (p' := 143) (s' := [.int 1, .ref 66]) rfl rfl rfl ?_
              refine ev_x (i := .goto 4) (len := 3) (p' := 147) (s' := [.int 1, .ref 66]) rfl rfl rfl ?_
              exact ev_st (congrArg (fun z => Value.int z :: [.ref 66]) (by rw [if_pos c_11])) J
            · refine ev_b2 (t := 146) (p' := 146) rfl rfl rfl (if_pos c_11) ?_
              refine ev_x (i := .iconst 0) (len := 1) (p' := 147) (s' := [.int 0, .ref 66]) rfl rfl rfl ?_
              exact ev_st (congrArg (fun z => Value.int z :: [.ref 66]) (by rw [if_neg c_11])) J
        · refine F_if H (fun c_13 H => ?_) (fun c_13 H => ?_)
          · refine ev_st (st' := [.int 65]) (congrArg (fun z => Value.int z :: []) c_13) ?_
            refine ev_ts (off := 154) (t := 155) rfl rfl (by decide) rfl ?_
            refine ev_x (i := .aload_n 0) (len := 1) (p' := 156) (s' := [.ref 66]) rfl rfl rfl ?_
            refine ev_gc (p' := 159) (v := 77) rfl rfl rfl ly_66 rfl rfl ?_
            refine ev_x (i := .bipush 66) (len := 2) (p' := 161) (s' := [.int 66, .ref 77]) rfl rfl rfl ?_
            obtain ⟨p_14, G_14, H⟩ := F_bd H
            refine ev_cv (d := d + 3) (As := [.int 66]) (a := 77) (p' := 164) rfl rfl rfl ly_77 rfl rfl rfl rfl rfl rfl rfl (N_133_ok (d := d + 2) nm_77 G_14) ?_
            refine ev_st (st' := []) rfl ?_
            have e_14 := N_133_R G_14
            refine ev_x (i := .aload_n 0) (len := 1) (p' := 165) (s' := [.ref 66]) rfl rfl rfl ?_
            refine ev_gc (p' := 168) (v := 77) rfl rfl rfl ly_66 rfl rfl ?_
            refine ev_x (i := .bipush 67) (len := 2) (p' := 170) (s' := [.int 67, .ref 77]) rfl rfl rfl ?_
            obtain ⟨p_15, G_15, H⟩ := F_bd H
            refine ev_cv (d := d + 3) (As := [.int 67]) (a := 77) (p' := 173) rfl rfl rfl ly_77 rfl rfl rfl rfl rfl rfl rfl (N_133_ok (d := d + 2) nm_77 G_15) ?_
            refine ev_st (st' := []) rfl ?_
            have e_15 := N_133_R G_15
            refine ev_x (i := .iconst 0) (len := 1) (p' := 174) (s' := [.int 0]) rfl rfl rfl ?_
            obtain rfl := Option.some.inj H
            exact ev_iret rfl rfl rfl rfl
          · refine F_if H (fun c_16 H => ?_) (fun c_16 H => ?_)
            · refine ev_st (st' := [.int 66]) (congrArg (fun z => Value.int z :: []) c_16) ?_
              refine ev_ts (off := 174) (t := 175) rfl rfl (by decide) rfl ?_
              refine ev_x (i := .aload_n 0) (len := 1) (p' := 176) (s' := [.ref 66]) rfl rfl rfl ?_
              refine ev_x (i := .iload_n 2) (len := 1) (p' := 177) (s' := [.int x_2, .ref 66]) rfl rfl rfl ?_
              refine ev_x (i := .bipush 29) (len := 2) (p' := 179) (s' := [.int 29, .int x_2, .ref 66]) rfl rfl rfl ?_
              refine F_jn (A := vz_ev P0 (d + 4) 155 187 [(0, .ref 66), (1, .int x_1), (2, .int x_2)] [.int (if x_2 = 29 then 1 else 0 : Int32), .ref 66] (hp (σ)) (.inl (some (.int p.1)), hp p.2)) ?_ (fun J => ?_)
              · refine ev_x (i := .bipush 66) (len := 2) (p' := 189) (s' := [.int 66, .int (if x_2 = 29 then 1 else 0 : Int32), .ref 66]) rfl rfl rfl ?_
                refine ev_x (i := .bipush 67) (len := 2) (p' := 191) (s' := [.int 67, .int 66, .int (if x_2 = 29 then 1 else 0 : Int32), .ref 66]) rfl rfl rfl ?_
                obtain ⟨p_18, G_18, H⟩ := F_bd H
                refine ev_cv (d := d + 3) (As := [.int (if x_2 = 29 then 1 else 0 : Int32), .int 66, .int 67]) (a := 66) (p' := 194) rfl rfl rfl ly_66 rfl rfl rfl rfl rfl rfl rfl (F_152_ok (d := d + 1)   G_18) ?_
                refine ev_st (st' := [.int p_18.1]) rfl ?_
                have e_18 := F_152_R G_18
                obtain rfl := Option.some.inj H
                exact ev_iret rfl rfl rfl rfl
              · by_cases c_17 : x_2 = 29
                · refine ev_b2 (t := 186) (p' := 182) rfl rfl rfl (if_neg (fun q => q c_17)) ?_
                  refine ev_x (i := .iconst 1) (len := 1) (p' := 183) (s' := [.int 1, .ref 66]) rfl rfl rfl ?_
                  refine ev_x (i := .goto 4) (len := 3) (p' := 187) (s' := [.int 1, .ref 66]) rfl rfl rfl ?_
                  exact ev_st (congrArg (fun z => Value.int z :: [.ref 66]) (by rw [if_pos c_17])) J
                · refine ev_b2 (t := 186) (p' := 186) rfl rfl rfl (if_pos c_17) ?_
                  refine ev_x (i := .iconst 0) (len := 1) (p' := 187) (s' := [.int 0, .ref 66]) rfl rfl rfl ?_
                  exact ev_st (congrArg (fun z => Value.int z :: [.ref 66]) (by rw [if_neg c_17])) J
            · refine F_if H (fun c_19 H => ?_) (fun c_19 H => ?_)
              · refine ev_st (st' := [.int 67]) (congrArg (fun z => Value.int z :: []) c_19) ?_
                refine ev_ts (off := 194) (t := 195) rfl rfl (by decide) rfl ?_
                refine ev_x (i := .iload_n 2) (len := 1) (p' := 196) (s' := [.int x_2]) rfl rfl rfl ?_
                refine ev_x (i := .bipush 31) (len := 2) (p' := 198) (s' := [.int 31, .int x_2]) rfl rfl rfl ?_
                refine F_if H (fun c_20 H => ?_) (fun c_20 H => ?_)
                · refine ev_b2 (t := 232) (p' := 201) rfl rfl rfl (if_neg (fun q => q c_20)) ?_
                  refine ev_x (i := .aload_n 0) (len := 1) (p' := 202) (s' := [.ref 66]) rfl rfl rfl ?_
                  refine ev_gc (p' := 205) (v := 77) rfl rfl rfl ly_66 rfl rfl ?_
                  refine ev_x (i := .bipush 75) (len := 2) (p' := 207) (s' := [.int 75, .ref 77]) rfl rfl rfl ?_
                  obtain ⟨p_21, G_21, H⟩ := F_bd H
                  refine ev_cv (d := d + 3) (As := [.int 75]) (a := 77) (p' := 210) rfl rfl rfl ly_77 rfl rfl rfl rfl rfl rfl rfl (N_133_ok (d := d + 2) nm_77 G_21) ?_
                  refine ev_st (st' := []) rfl ?_
                  have e_21 := N_133_R G_21
                  refine ev_x (i := .aload_n 0) (len := 1) (p' := 211) (s' := [.ref 66]) rfl rfl rfl ?_
                  refine ev_gc (p' := 214) (v := 77) rfl rfl rfl ly_66 rfl rfl ?_
                  refine ev_x (i := .bipush 67) (len := 2) (p' := 216) (s' := [.int 67, .ref 77]) rfl rfl rfl ?_
                  obtain ⟨p_22, G_22, H⟩ := F_bd H
                  refine ev_cv (d := d + 3) (As := [.int 67]) (a := 77) (p' := 219) rfl rfl rfl ly_77 rfl rfl rfl rfl rfl rfl rfl (N_133_ok (d := d + 2) nm_77 G_22) ?_
                  refine ev_st (st' := []) rfl ?_
                  have e_22 := N_133_R G_22
                  refine ev_x (i := .aload_n 0) (len := 1) (p' := 220) (s' := [.ref 66]) rfl rfl rfl ?_
                  obtain ⟨p_23, G_23, H⟩ := F_bd H
                  refine ev_cv (d := d + 3) (As := []) (a := 66) (p' := 223) rfl rfl rfl ly_66 rfl rfl rfl rfl rfl rfl rfl (F_154_ok (d := d + 2)   G_23) ?_
                  refine ev_st (st' := [.int p_23.1]) rfl ?_
                  have e_23 := F_154_R G_23
                  refine F_jn (A := vz_ev P0 (d + 4) 155 231 [(0, .ref 66), (1, .int x_1), (2, .int x_2)] [.int (if p_23.1 = 0 then (-1) else 1 : Int32)] (hp (p_23.2)) (.inl (some (.int p.1)), hp p.2)) ?_ (fun J => ?_)
                  · obtain rfl := Option.some.inj H
                    exact ev_iret rfl rfl rfl rfl
                  · by_cases c_24 : p_23.1 = 0
                    · refine ev_b0 (t := 230) (p' := 230) rfl rfl rfl (if_pos c_24) ?_
                      refine ev_x (i := .iconst (-1)) (len := 1) (p' := 231) (s' := [.int (-1)]) rfl rfl rfl ?_
                      exact ev_st (congrArg (fun z => Value.int z :: []) (by rw [if_pos c_24])) J
                    · refine ev_b0 (t := 230) (p' := 226) rfl rfl rfl (if_neg c_24) ?_
                      refine ev_x (i := .iconst 1) (len := 1) (p' := 227) (s' := [.int 1]) rfl rfl rfl ?_
                      refine ev_x (i := .goto 4) (len := 3) (p' := 231) (s' := [.int 1]) rfl rfl rfl ?_
                      exact ev_st (congrArg (fun z => Value.int z :: []) (by rw [if_neg c_24])) J
                · refine ev_b2 (t := 232) (p' := 232) rfl rfl rfl (if_pos c_20) ?_
                  refine ev_x (i := .aload_n 0) (len := 1) (p' := 233) (s' := [.ref 66]) rfl rfl rfl ?_
                  refine ev_gc (p' := 236) (v := 77) rfl rfl rfl ly_66 rfl rfl ?_
                  refine ev_x (i := .bipush 68) (len := 2) (p' := 238) (s' := [.int 68, .ref 77]) rfl rfl rfl ?_
                  obtain ⟨p_25, G_25, H⟩ := F_bd H
                  refine ev_cv (d := d + 3) (As := [.int 68]) (a := 77) (p' := 241) rfl rfl rfl ly_77 rfl rfl rfl rfl rfl rfl rfl (N_133_ok (d := d + 2) nm_77 G_25) ?_
                  refine ev_st (st' := []) rfl ?_
                  have e_25 := N_133_R G_25
                  refine ev_x (i := .aload_n 0) (len := 1) (p' := 242) (s' := [.ref 66]) rfl rfl rfl ?_
                  refine ev_gc (p' := 245) (v := 77) rfl rfl rfl ly_66 rfl rfl ?_
                  refine ev_x (i := .bipush 69) (len := 2) (p' := 247) (s' := [.int 69, .ref 77]) rfl rfl rfl ?_
                  obtain ⟨p_26, G_26, H⟩ := F_bd H
                  refine ev_cv (d := d + 3) (As := [.int 69]) (a := 77) (p' := 250) rfl rfl rfl ly_77 rfl rfl rfl rfl rfl rfl rfl (N_133_ok (d := d + 2) nm_77 G_26) ?_
                  refine ev_st (st' := []) rfl ?_
                  have e_26 := N_133_R G_26
                  refine ev_x (i := .iconst 0) (len := 1) (p' := 251) (s' := [.int 0]) rfl rfl rfl ?_
                  obtain rfl := Option.some.inj H
                  exact ev_iret rfl rfl rfl rfl
              · refine F_if H (fun c_27 H => ?_) (fun c_27 H => ?_)
                · refine ev_st (st' := [.int 68]) (congrArg (fun z => Value.int z :: []) c_27) ?_
                  refine ev_ts (off := 251) (t := 252) rfl rfl (by decide) rfl ?_
                  refine ev_x (i := .iload_n 2) (len := 1) (p' := 253) (s' := [.int x_2]) rfl rfl rfl ?_
                  obtain ⟨p_28, G_28, H⟩ := F_bd H
                  refine ev_callS (d := d + 3) (As := [.int x_2]) rfl rfl rfl (by decide) rfl rfl rfl rfl rfl (F_157_ok (d := d + 2)   G_28) ?_
                  refine ev_st (st' := [.int p_28.1]) rfl ?_
                  refine ev_pc (pc' := 256) rfl ?_
                  have e_28 := F_157_R G_28
                  refine F_if H (fun c_29 H => ?_) (fun c_29 H => ?_)
                  · refine ev_b0 (t := 270) (p' := 270) rfl rfl rfl (if_pos c_29) ?_
                    refine ev_x (i := .iconst 0) (len := 1) (p' := 271) (s' := [.int 0]) rfl rfl rfl ?_
                    obtain rfl := Option.some.inj H
                    exact ev_iret rfl rfl rfl rfl
                  · refine ev_b0 (t := 270) (p' := 259) rfl rfl rfl (if_neg c_29) ?_
                    refine ev_x (i := .aload_n 0) (len := 1) (p' := 260) (s' := [.ref 66]) rfl rfl rfl ?_
                    refine ev_gc (p' := 263) (v := 77) rfl rfl rfl ly_66 rfl rfl ?_
                    refine ev_x (i := .bipush 69) (len := 2) (p' := 265) (s' := [.int 69, .ref 77]) rfl rfl rfl ?_
                    obtain ⟨p_30, G_30, H⟩ := F_bd H
                    refine ev_cv (d := d + 3) (As := [.int 69]) (a := 77) (p' := 268) rfl rfl rfl ly_77 rfl rfl rfl rfl rfl rfl rfl (N_133_ok (d := d + 2) nm_77 G_30) ?_
                    refine ev_st (st' := []) rfl ?_
                    have e_30 := N_133_R G_30
                    refine ev_x (i := .iconst 1) (len := 1) (p' := 269) (s' := [.int 1]) rfl rfl rfl ?_
                    obtain rfl := Option.some.inj H
                    exact ev_iret rfl rfl rfl rfl
                · refine F_if H (fun c_31 H => ?_) (fun c_31 H => ?_)
                  · refine ev_st (st' := [.int 69]) (congrArg (fun z => Value.int z :: []) c_31) ?_
                    refine ev_ts (off := 271) (t := 272) rfl rfl (by decide) rfl ?_
                    refine ev_x (i := .aload_n 0) (len := 1) (p' := 273) (s' := [.ref 66]) rfl rfl rfl ?_
                    refine ev_gc (p' := 276) (v := 77) rfl rfl rfl ly_66 rfl rfl ?_
                    refine ev_x (i := .bipush 70) (len := 2) (p' := 278) (s' := [.int 70, .ref 77]) rfl rfl rfl ?_
                    obtain ⟨p_32, G_32, H⟩ := F_bd H
                    refine ev_cv (d := d + 3) (As := [.int 70]) (a := 77) (p' := 281) rfl rfl rfl ly_77 rfl rfl rfl rfl rfl rfl rfl (N_133_ok (d := d + 2) nm_77 G_32) ?_
                    refine ev_st (st' := []) rfl ?_
                    have e_32 := N_133_R G_32
                    refine ev_x (i := .aload_n 0) (len := 1) (p' := 282) (s' := [.ref 66]) rfl rfl rfl ?_
                    refine ev_gc (p' := 285) (v := 77) rfl rfl rfl ly_66 rfl rfl ?_
                    refine ev_x (i := .bipush 71) (len := 2) (p' := 287) (s' := [.int 71, .ref 77]) rfl rfl rfl ?_
                    obtain ⟨p_33, G_33, H⟩ := F_bd H
                    refine ev_cv (d := d + 3) (As := [.int 71]) (a := 77) (p' := 290) rfl rfl rfl ly_77 rfl rfl rfl rfl rfl rfl rfl (N_133_ok (d := d + 2) nm_77 G_33) ?_
                    refine ev_st (st' := []) rfl ?_
                    have e_33 := N_133_R G_33
                    refine ev_x (i := .iconst 0) (len := 1) (p' := 291) (s' := [.int 0]) rfl rfl rfl ?_
                    obtain rfl := Option.some.inj H
                    exact ev_iret rfl rfl rfl rfl
                  · refine F_if H (fun c_34 H => ?_) (fun c_34 H => ?_)
                    · refine ev_st (st' := [.int 70]) (congrArg (fun z => Value.int z :: []) c_34) ?_
                      refine ev_ts (off := 291) (t := 292) rfl rfl (by decide) rfl ?_
                      refine ev_x (i := .aload_n 0) (len := 1) (p' := 293) (s' := [.ref 66]) rfl rfl rfl ?_
                      refine ev_x (i := .iload_n 2) (len := 1) (p' := 294) (s' := [.int x_2, .ref 66]) rfl rfl rfl ?_
                      refine ev_x (i := .bipush 24) (len := 2) (p' := 296) (s' := [.int 24, .int x_2, .ref 66]) rfl rfl rfl ?_
                      refine F_jn (A := vz_ev P0 (d + 4) 155 310 [(0, .ref 66), (1, .int x_1), (2, .int x_2)] [.int (if x_2 = 24 then 1 else (if x_2 = 25 then 1 else 0) : Int32), .ref 66] (hp (σ)) (.inl (some (.int p.1)), hp p.2)) ?_ (fun J => ?_)
                      · refine ev_x (i := .bipush 70) (len := 2) (p' := 312) (s' := [.int 70, .int (if x_2 = 24 then 1 else (if x_2 = 25 then 1 else 0) : Int32), .ref 66]) rfl rfl rfl ?_
                        refine ev_x (i := .bipush 71) (len := 2) (p' := 314) (s' := [.int 71, .int 70, .int (if x_2 = 24 then 1 else (if x_2 = 25 then 1 else 0) : Int32), .ref 66]) rfl rfl rfl ?_
                        obtain ⟨p_37, G_37, H⟩ := F_bd H
                        refine ev_cv (d := d + 3) (As := [.int (if x_2 = 24 then 1 else (if x_2 = 25 then 1 else 0) : Int32), .int 70, .int 71]) (a := 66) (p' := 317) rfl rfl rfl ly_66 rfl rfl rfl rfl rfl rfl rfl (F_152_ok (d := d + 1)   G_37) ?_
                        refine ev_st (st' := [.int p_37.1]) rfl ?_
                        have e_37 := F_152_R G_37
                        obtain rfl := Option.some.inj H
                        exact ev_iret rfl rfl rfl rfl
                      · by_cases c_35 : x_2 = 24
                        · refine ev_b2 (t := 305) (p' := 305) rfl rfl rfl (if_pos c_35) ?_
                          refine ev_x (i := .iconst 1) (len := 1) (p' := 306) (s' := [.int 1, .ref 66]) rfl rfl rfl ?_
                          refine ev_x (i := .goto 4) (len := 3) (p' := 310) (s' := [.int 1, .ref 66]) rfl rfl rfl ?_
                          exact ev_st (congrArg (fun z => Value.int z :: [.ref 66]) (by rw [if_pos c_35])) J
                        · refine ev_b2 (t := 305) (p' := 299) rfl rfl rfl (if_neg c_35) ?_
                          refine ev_x (i := .iload_n 2) (len := 1) (p' := 300) (s' := [.int x_2, .ref 66]) rfl rfl rfl ?_
                          refine ev_x (i := .bipush 25) (len := 2) (p' := 302) (s' := [.int 25, .int x_2, .ref 66]) rfl rfl rfl ?_
                          by_cases c_36 : x_2 = 25
                          · refine ev_b2 (t := 309) (p' := 305) rfl rfl rfl (if_neg (fun q => q c_36)) ?_
                            refine ev_x (i := .iconst 1) (len := 1) (p' := 306) (s' := [.int 1, .ref 66]) rfl rfl rfl ?_
                            refine ev_x (i := .goto 4) (len := 3) (p' := 310) (s' := [.int 1, .ref 66]) rfl rfl rfl ?_
                            exact ev_st (congrArg (fun z => Value.int z :: [.ref 66]) (by rw [if_neg c_35, if_pos c_36])) J
                          · refine ev_b2 (t := 309) (p' := 309) rfl rfl rfl (if_pos c_36) ?_
                            refine ev_x (i := .iconst 0) (len := 1) (p' := 310) (s' := [.int 0, .ref 66]) rfl rfl rfl ?_
                            exact ev_st (congrArg (fun z => Value.int z :: [.ref 66]) (by rw [if_neg c_35, if_neg c_36])) J
                    · refine F_if H (fun c_38 H => ?_) (fun c_38 H => ?_)
                      · refine ev_st (st' := [.int 71]) (congrArg (fun z => Value.int z :: []) c_38) ?_
                        refine ev_ts (off := 317) (t := 318) rfl rfl (by decide) rfl ?_
                        refine ev_x (i := .aload_n 0) (len := 1) (p' := 319) (s' := [.ref 66]) rfl rfl rfl ?_
                        refine ev_gc (p' := 322) (v := 77) rfl rfl rfl ly_66 rfl rfl ?_
                        refine ev_x (i := .bipush 72) (len := 2) (p' := 324) (s' := [.int 72, .ref 77]) rfl rfl rfl ?_
                        obtain ⟨p_39, G_39, H⟩ := F_bd H
                        refine ev_cv (d := d + 3) (As := [.int 72]) (a := 77) (p' := 327) rfl rfl rfl ly_77 rfl rfl rfl rfl rfl rfl rfl (N_133_ok (d := d + 2) nm_77 G_39) ?_
                        refine ev_st (st' := []) rfl ?_
                        have e_39 := N_133_R G_39
                        refine ev_x (i := .aload_n 0) (len := 1) (p' := 328) (s' := [.ref 66]) rfl rfl rfl ?_
                        refine ev_gc (p' := 331) (v := 77) rfl rfl rfl ly_66 rfl rfl ?_
                        refine ev_x (i := .bipush 73) (len := 2) (p' := 333) (s' := [.int 73, .ref 77]) rfl rfl rfl ?_
                        obtain ⟨p_40, G_40, H⟩ := F_bd H
                        refine ev_cv (d := d + 3) (As := [.int 73]) (a := 77) (p' := 336) rfl rfl rfl ly_77 rfl rfl rfl rfl rfl rfl rfl (N_133_ok (d := d + 2) nm_77 G_40) ?_
                        refine ev_st (st' := []) rfl ?_
                        have e_40 := N_133_R G_40
                        refine ev_x (i := .iconst 0) (len := 1) (p' := 337) (s' := [.int 0]) rfl rfl rfl ?_
                        obtain rfl := Option.some.inj H
                        exact ev_iret rfl rfl rfl rfl
                      · refine F_if H (fun c_41 H => ?_) (fun c_41 H => ?_)
                        · refine ev_st (st' := [.int 72]) (congrArg (fun z => Value.int z :: []) c_41) ?_
                          refine ev_ts (off := 337) (t := 338) rfl rfl (by decide) rfl ?_
                          refine ev_x (i := .aload_n 0) (len := 1) (p' := 339) (s' := [.ref 66]) rfl rfl rfl ?_
                          refine ev_x (i := .iload_n 2) (len := 1) (p' := 340) (s' := [.int x_2, .ref 66]) rfl rfl rfl ?_
                          refine ev_x (i := .bipush 26) (len := 2) (p' := 342) (s' := [.int 26, .int x_2, .ref 66]) rfl rfl rfl ?_
                          refine F_jn (A := vz_ev P0 (d + 4) 155 362 [(0, .ref 66), (1, .int x_1), (2, .int x_2)] [.int (if x_2 = 26 then 1 else (if x_2 = 27 then 1 else (if x_2 = 28 then 1 else 0)) : Int32), .ref 66] (hp (σ)) (.inl (some (.int p.1)), hp p.2)) ?_ (fun J => ?_)
                          · refine ev_x (i := .bipush 72) (len := 2) (p' := 364) (s' := [.int 72, .int (if x_2 = 26 then 1 else (if x_2 = 27 then 1 else (if x_2 = 28 then 1 else 0)) : Int32), .ref 66]) rfl rfl rfl ?_
                            refine ev_x (i := .bipush 73) (len := 2) (p' := 366) (s' := [.int 73, .int 72, .int (if x_2 = 26 then 1 else (if x_2 = 27 then 1 else (if x_2 = 28 then 1 else 0)) : Int32), .ref 66]) rfl rfl rfl ?_
                            obtain ⟨p_45, G_45, H⟩ := F_bd H
                            refine ev_cv (d := d + 3) (As := [.int (if x_2 = 26 then 1 else (if x_2 = 27 then 1 else (if x_2 = 28 then 1 else 0)) : Int32), .int 72, .int 73]) (a := 66) (p' := 369) rfl rfl rfl ly_66 rfl rfl rfl rfl rfl rfl rfl (F_152_ok (d := d + 1)   G_45) ?_
                            refine ev_st (st' := [.int p_45.1]) rfl ?_
                            have e_45 := F_152_R G_45
                            obtain rfl := Option.some.inj H
                            exact ev_iret rfl rfl rfl rfl
                          · by_cases c_42 : x_2 = 26
                            · refine ev_b2 (t := 357) (p' := 357) rfl rfl rfl (if_pos c_42) ?_
                              refine ev_x (i := .iconst 1) (len := 1) (p' := 358) (s' := [.int 1, .ref 66]) rfl rfl rfl ?_
                              refine ev_x (i := .goto 4) (len := 3) (p' := 362) (s' := [.int 1, .ref 66]) rfl rfl rfl ?_
                              exact ev_st (congrArg (fun z => Value.int z :: [.ref 66]) (by rw [if_pos c_42])) J
                            · refine ev_b2 (t := 357) (p' := 345) rfl rfl rfl (if_neg c_42) ?_
                              refine ev_x (i := .iload_n 2) (len := 1) (p' := 346) (s' := [.int x_2, .ref 66]) rfl rfl rfl ?_
                              refine ev_x (i := .bipush 27) (len := 2) (p' := 348) (s' := [.int 27, .int x_2, .ref 66]) rfl rfl rfl ?_
                              by_cases c_43 : x_2 = 27
                              · refine ev_b2 (t := 357) (p' := 357) rfl rfl rfl (if_pos c_43) ?_
                                refine ev_x (i := .iconst 1) (len := 1) (p' := 358) (s' := [.int 1, .ref 66]) rfl rfl rfl ?_
                                refine ev_x (i := .goto 4) (len := 3) (p' := 362) (s' := [.int 1, .ref 66]) rfl rfl rfl ?_
                                exact ev_st (congrArg (fun z => Value.int z :: [.ref 66]) (by rw [if_neg c_42, if_pos c_43])) J
                              · refine ev_b2 (t := 357) (p' := 351) rfl rfl rfl (if_neg c_43) ?_
                                refine ev_x (i := .iload_n 2) (len := 1) (p' := 352) (s' := [.int x_2, .ref 66]) rfl rfl rfl ?_
                                refine ev_x (i := .bipush 28) (len := 2) (p' := 354) (s' := [.int 28, .int x_2, .ref 66]) rfl rfl rfl ?_
                                by_cases c_44 : x_2 = 28
                                · refine ev_b2 (t := 361) (p' := 357) rfl rfl rfl (if_neg (fun q => q c_44)) ?_
                                  refine ev_x (i := .iconst 1) (len := 1) (p' := 358) (s' := [.int 1, .ref 66]) rfl rfl rfl ?_
                                  refine ev_x (i := .goto 4) (len := 3) (p' := 362) (s' := [.int 1, .ref 66]) rfl rfl rfl ?_
                                  exact ev_st (congrArg (fun z => Value.int z :: [.ref 66]) (by rw [if_neg c_42, if_neg c_43, if_pos c_44])) J
                                · refine ev_b2 (t := 361) (p' := 361) rfl rfl rfl (if_pos c_44) ?_
                                  refine ev_x (i := .iconst 0) (len := 1) (p' := 362) (s' := [.int 0, .ref 66]) rfl rfl rfl ?_
                                  exact ev_st (congrArg (fun z => Value.int z :: [.ref 66]) (by rw [if_neg c_42, if_neg c_43, if_neg c_44])) J
                        · refine F_if H (fun c_46 H => ?_) (fun c_46 H => ?_)
                          · refine ev_st (st' := [.int 74]) (congrArg (fun z => Value.int z :: []) c_46) ?_
                            refine ev_ts (off := 369) (t := 370) rfl rfl (by decide) rfl ?_
                            refine ev_x (i := .aload_n 0) (len := 1) (p' := 371) (s' := [.ref 66]) rfl rfl rfl ?_
                            refine ev_x (i := .iload_n 2) (len := 1) (p' := 372) (s' := [.int x_2, .ref 66]) rfl rfl rfl ?_
                            refine ev_x (i := .bipush 35) (len := 2) (p' := 374) (s' := [.int 35, .int x_2, .ref 66]) rfl rfl rfl ?_
                            refine F_jn (A := vz_ev P0 (d + 4) 155 382 [(0, .ref 66), (1, .int x_1), (2, .int x_2)] [.int (if x_2 = 35 then 1 else 0 : Int32), .ref 66] (hp (σ)) (.inl (some (.int p.1)), hp p.2)) ?_ (fun J => ?_)
                            · refine ev_x (i := .bipush 74) (len := 2) (p' := 384) (s' := [.int 74, .int (if x_2 = 35 then 1 else 0 : Int32), .ref 66]) rfl rfl rfl ?_
                              refine ev_x (i := .bipush 61) (len := 2) (p' := 386) (s' := [.int 61, .int 74, .int (if x_2 = 35 then 1 else 0 : Int32), .ref 66]) rfl rfl rfl ?_
                              obtain ⟨p_48, G_48, H⟩ := F_bd H
                              refine ev_cv (d := d + 3) (As := [.int (if x_2 = 35 then 1 else 0 : Int32), .int 74, .int 61]) (a := 66) (p' := 389) rfl rfl rfl ly_66 rfl rfl rfl rfl rfl rfl rfl (F_152_ok (d := d + 1)   G_48) ?_
                              refine ev_st (st' := [.int p_48.1]) rfl ?_
                              have e_48 := F_152_R G_48
                              obtain rfl := Option.some.inj H
                              exact ev_iret rfl rfl rfl rfl
                            · by_cases c_47 : x_2 = 35
                              · refine ev_b2 (t := 381) (p' := 377) rfl rfl rfl (if_neg (fun q => q c_47)) ?_
                                refine ev_x (i := .iconst 1) (len := 1) (p' := 378) (s' := [.int 1, .ref 66]) rfl rfl rfl ?_
                                refine ev_x (i := .goto 4) (len := 3) (p' := 382) (s' := [.int 1, .ref 66]) rfl rfl rfl ?_
                                exact ev_st (congrArg (fun z => Value.int z :: [.ref 66]) (by rw [if_pos c_47])) J
                              · refine ev_b2 (t := 381) (p' := 381) rfl rfl rfl (if_pos c_47) ?_
                                refine ev_x (i := .iconst 0) (len := 1) (p' := 382) (s' := [.int 0, .ref 66]) rfl rfl rfl ?_
                                exact ev_st (congrArg (fun z => Value.int z :: [.ref 66]) (by rw [if_neg c_47])) J
                          · refine F_if H (fun c_49 H => ?_) (fun c_49 H => ?_)
                            · refine ev_st (st' := [.int 76]) (congrArg (fun z => Value.int z :: []) c_49) ?_
                              refine ev_ts (off := 389) (t := 390) rfl rfl (by decide) rfl ?_
                              refine ev_x (i := .iload_n 2) (len := 1) (p' := 391) (s' := [.int x_2]) rfl rfl rfl ?_
                              refine ev_x (i := .bipush 36) (len := 2) (p' := 393) (s' := [.int 36, .int x_2]) rfl rfl rfl ?_
                              refine F_if H (fun c_50 H => ?_) (fun c_50 H => ?_)
                              · refine ev_b2 (t := 407) (p' := 396) rfl rfl rfl (if_neg (fun q => q c_50)) ?_
                                refine ev_x (i := .aload_n 0) (len := 1) (p' := 397) (s' := [.ref 66]) rfl rfl rfl ?_
                                obtain ⟨p_51, G_51, H⟩ := F_bd H
                                refine ev_cv (d := d + 3) (As := []) (a := 66) (p' := 400) rfl rfl rfl ly_66 rfl rfl rfl rfl rfl rfl rfl (F_154_ok (d := d + 2)   G_51) ?_
                                refine ev_st (st' := [.int p_51.1]) rfl ?_
                                have e_51 := F_154_R G_51
                                refine F_jn (A := vz_ev P0 (d + 4) 155 408 [(0, .ref 66), (1, .int x_1), (2, .int x_2)] [.int (if p_51.1 = 0 then (-1) else 1 : Int32)] (hp (p_51.2)) (.inl (some (.int p.1)), hp p.2)) ?_ (fun J => ?_)
                                · obtain rfl := Option.some.inj H
                                  exact ev_iret rfl rfl rfl rfl
                                · by_cases c_52 : p_51.1 = 0
                                  · refine ev_b0 (t := 407) (p' := 407) rfl rfl rfl (if_pos c_52) ?_
                                    refine ev_x (i := .iconst (-1)) (len := 1) (p' := 408) (s' := [.int (-1)]) rfl rfl rfl ?_
                                    exact ev_st (congrArg (fun z => Value.int z :: []) (by rw [if_pos c_52])) J
                                  · refine ev_b0 (t := 407) (p' := 403) rfl rfl rfl (if_neg c_52) ?_
                                    refine ev_x (i := .iconst 1) (len := 1) (p' := 404) (s' := [.int 1]) rfl rfl rfl ?_
                                    refine ev_x (i := .goto 4) (len := 3) (p' := 408) (s' := [.int 1]) rfl rfl rfl ?_
                                    exact ev_st (congrArg (fun z => Value.int z :: []) (by rw [if_neg c_52])) J
                              · refine ev_b2 (t := 407) (p' := 407) rfl rfl rfl (if_pos c_50) ?_
                                refine ev_x (i := .iconst (-1)) (len := 1) (p' := 408) (s' := [.int (-1)]) rfl rfl rfl ?_
                                obtain rfl := Option.some.inj H
                                exact ev_iret rfl rfl rfl rfl
                            · have n_61 : (61 : Int) ≠ (x_1 : Int32).toInt := i32_ne (k := 61) (by decide) c_1
                              have n_62 : (62 : Int) ≠ (x_1 : Int32).toInt := i32_ne (k := 62) (by decide) c_4
                              have n_63 : (63 : Int) ≠ (x_1 : Int32).toInt := i32_ne (k := 63) (by decide) c_7
                              have n_64 : (64 : Int) ≠ (x_1 : Int32).toInt := i32_ne (k := 64) (by decide) c_10
                              have n_65 : (65 : Int) ≠ (x_1 : Int32).toInt := i32_ne (k := 65) (by decide) c_13
                              have n_66 : (66 : Int) ≠ (x_1 : Int32).toInt := i32_ne (k := 66) (by decide) c_16
                              have n_67 : (67 : Int) ≠ (x_1 : Int32).toInt := i32_ne (k := 67) (by decide) c_19
                              have n_68 : (68 : Int) ≠ (x_1 : Int32).toInt := i32_ne (k := 68) (by decide) c_27
                              have n_69 : (69 : Int) ≠ (x_1 : Int32).toInt := i32_ne (k := 69) (by decide) c_31
                              have n_70 : (70 : Int) ≠ (x_1 : Int32).toInt := i32_ne (k := 70) (by decide) c_34
                              have n_71 : (71 : Int) ≠ (x_1 : Int32).toInt := i32_ne (k := 71) (by decide) c_38
                              have n_72 : (72 : Int) ≠ (x_1 : Int32).toInt := i32_ne (k := 72) (by decide) c_41
                              have n_74 : (74 : Int) ≠ (x_1 : Int32).toInt := i32_ne (k := 74) (by decide) c_46
                              have n_76 : (76 : Int) ≠ (x_1 : Int32).toInt := i32_ne (k := 76) (by decide) c_49
                              refine ev_ts (off := 408) (t := 409) rfl rfl ?hsw rfl ?_
                              case hsw =>
                                by_cases hq : (x_1 : Int32).toInt < 61 ∨ 76 < (x_1 : Int32).toInt
                                · exact if_pos hq
                                · rw [if_neg hq]
                                  have hw : (x_1 : Int32).toInt = 73 ∨ (x_1 : Int32).toInt = 75 := by omega
                                  rcases hw with hw | hw <;> rw [hw] <;> rfl
                              refine ev_x (i := .aload_n 0) (len := 1) (p' := 410) (s' := [.ref 66]) rfl rfl rfl ?_
                              refine ev_x (i := .iload_n 2) (len := 1) (p' := 411) (s' := [.int x_2, .ref 66]) rfl rfl rfl ?_
                              obtain ⟨p_53, G_53, H⟩ := F_bd H
                              refine ev_cv (d := d + 3) (As := [.int x_2]) (a := 66) (p' := 414) rfl rfl rfl ly_66 rfl rfl rfl rfl rfl rfl rfl (F_158_ok (d := d + 1)   G_53) ?_
                              refine ev_st (st' := [.int p_53.1]) rfl ?_
                              have e_53 := F_158_R G_53
                              obtain rfl := Option.some.inj H
                              exact ev_iret rfl rfl rfl rfl
/-- GameTextModel.readText()Z, its loops -/
def L_147 (N : Nat) : Nat → Int32 → st_S → Option (Int32 × st_S)
  | 0, _, _ => none
  | k + 1, l_1, σ =>
      if 0 ≤ (gI σ 66 8) then
          some (0, σ)
      else
        if (gI σ 77 1) ≤ 0 then
            some (1, σ)
        else
          (N_148 N 77 (σ)).bind fun p_4 =>
          (N_139 N 71 l_1 (p_4.2)).bind fun p_5 =>
          if p_4.1 = 75 then
            L_147 N k l_1 (st_i (p_5.2) 66 7 ((gI p_5.2 66 7) - 1))
          else
            if 50 ≤ p_4.1 then
              if 61 ≤ p_4.1 then
                (F_155 N p_4.1 p_5.1 (p_5.2)).bind fun p_9 =>
                L_147 N k (if p_9.1 ≤ 0 then l_1 else (l_1 + 1) : Int32) (st_i (p_9.2) 66 8 (if 0 ≤ p_9.1 then (-1) else l_1 : Int32))
              else
                (F_149 N p_4.1 p_5.1 (p_5.2)).bind fun p_12 =>
                L_147 N k (if p_12.1 ≤ 0 then l_1 else (l_1 + 1) : Int32) (st_i (p_12.2) 66 8 (if 0 ≤ p_12.1 then (-1) else l_1 : Int32))
            else
              L_147 N k (l_1 + 1) (st_i (p_5.2) 66 8 (if p_4.1 = p_5.1 then (-1) else l_1 : Int32))
set_option maxRecDepth 100000 in
theorem L_147_R {N : Nat} : ∀ (k : Nat) (l_1 : Int32) (σ : st_S) (p : Int32 × st_S), L_147 N k l_1 σ = some p → gR p.2 = gR σ := by
  intro k
  induction k with
  | zero => intro l_1 σ p H; unfold L_147 at H; cases H
  | succ k ih =>
    intro l_1 σ p H
    unfold L_147 at H
    refine F_if H (fun _ H => ?_) (fun _ H => ?_)
    · obtain rfl := Option.some.inj H
      exact rfl
    · refine F_if H (fun _ H => ?_) (fun _ H => ?_)
      · obtain rfl := Option.some.inj H
        exact rfl
      · obtain ⟨p_4, G_4, H⟩ := F_bd H
        obtain ⟨p_5, G_5, H⟩ := F_bd H
        refine F_if H (fun _ H => ?_) (fun _ H => ?_)
        · exact (((ih _ _ _ H)).trans ((N_139_R G_5).trans ((N_148_R G_4).trans rfl)))
        · refine F_if H (fun _ H => ?_) (fun _ H => ?_)
          · refine F_if H (fun _ H => ?_) (fun _ H => ?_)
            · obtain ⟨p_9, G_9, H⟩ := F_bd H
              exact (((ih _ _ _ H)).trans ((F_155_R G_9).trans ((N_139_R G_5).trans ((N_148_R G_4).trans rfl))))
            · obtain ⟨p_12, G_12, H⟩ := F_bd H
              exact (((ih _ _ _ H)).trans ((F_149_R G_12).trans ((N_139_R G_5).trans ((N_148_R G_4).trans rfl))))
          · exact (((ih _ _ _ H)).trans ((N_139_R G_5).trans ((N_148_R G_4).trans rfl)))
set_option maxHeartbeats 4000000 in
set_option maxRecDepth 100000 in
theorem L_147_ok {N d : Nat} : ∀ k : Nat, ∀ (l_1 : Int32) (σ : st_S) (lv : vz_L) (p : Int32 × st_S), vz_g lv 0 = some (.ref 66) → vz_g lv 1 = some (.int l_1) → vz_nbL (vz_gr P0) lv = true → L_147 N k l_1 σ = some p → vz_ev P0 (d + 5) 147 29 lv [] (hp σ) (.inl (some (.int p.1)), hp p.2) := by
  intro k
  induction k with
  | zero => intro l_1 σ lv p g_0 g_1 hnb H; unfold L_147 at H; cases H
  | succ k ih =>
    intro l_1 σ lv p g_0 g_1 hnb H
    unfold L_147 at H
    refine ev_x (i := .aload_n 0) (len := 1) (p' := 30) (s' := [.ref 66]) rfl rfl (ld_a g_0) ?_
    refine ev_gi (p' := 33) (v := (gI σ 66 8)) rfl rfl rfl ly_66 rfl rfl rfl ?_
    refine F_if H (fun c_2 H => ?_) (fun c_2 H => ?_)
    · refine ev_b0 (t := 161) (p' := 161) rfl rfl rfl (if_pos c_2) ?_
      refine ev_x (i := .aload_n 0) (len := 1) (p' := 162) (s' := [.ref 66]) rfl rfl (ld_a g_0) ?_
      refine ev_gi (p' := 165) (v := (gI σ 66 8)) rfl rfl rfl ly_66 rfl rfl rfl ?_
      refine ev_b0 (t := 172) (p' := 172) rfl rfl rfl (if_pos c_2) ?_
      refine ev_x (i := .iconst 0) (len := 1) (p' := 173) (s' := [.int 0]) rfl rfl rfl ?_
      obtain rfl := Option.some.inj H
      exact ev_iret rfl rfl rfl rfl
    · refine ev_b0 (t := 161) (p' := 36) rfl rfl rfl (if_neg c_2) ?_
      refine ev_x (i := .aload_n 0) (len := 1) (p' := 37) (s' := [.ref 66]) rfl rfl (ld_a g_0) ?_
      refine ev_gc (p' := 40) (v := 77) rfl rfl rfl ly_66 rfl rfl ?_
      refine ev_gi (p' := 43) (v := (gI σ 77 1)) rfl rfl rfl ly_77 rfl rfl rfl ?_
      refine F_if H (fun c_3 H => ?_) (fun c_3 H => ?_)
      · refine ev_b0 (t := 161) (p' := 161) rfl rfl rfl (if_pos c_3) ?_
        refine ev_x (i := .aload_n 0) (len := 1) (p' := 162) (s' := [.ref 66]) rfl rfl (ld_a g_0) ?_
        refine ev_gi (p' := 165) (v := (gI σ 66 8)) rfl rfl rfl ly_66 rfl rfl rfl ?_
        refine ev_b0 (t := 172) (p' := 168) rfl rfl rfl (if_neg c_2) ?_
        refine ev_x (i := .iconst 1) (len := 1) (p' := 169) (s' := [.int 1]) rfl rfl rfl ?_
        refine ev_x (i := .goto 4) (len := 3) (p' := 173) (s' := [.int 1]) rfl rfl rfl ?_
        obtain rfl := Option.some.inj H
        exact ev_iret rfl rfl rfl rfl
      · refine ev_b0 (t := 161) (p' := 46) rfl rfl rfl (if_neg c_3) ?_
        refine ev_x (i := .aload_n 0) (len := 1) (p' := 47) (s' := [.ref 66]) rfl rfl (ld_a g_0) ?_
        refine ev_gc (p' := 50) (v := 77) rfl rfl rfl ly_66 rfl rfl ?_
        obtain ⟨p_4, G_4, H⟩ := F_bd H
        refine ev_cv (d := d + 4) (As := []) (a := 77) (p' := 53) rfl rfl rfl ly_77 rfl rfl rfl rfl rfl hnb rfl (N_148_ok (d := d + 3) nm_77 G_4) ?_
        refine ev_st (st' := [.int p_4.1]) rfl ?_
        have e_4 := N_148_R G_4
        refine ev_x (i := .istore_n 2) (len := 1) (p' := 54) (s' := []) (l' := vz_s1 (lv) 2 (.int p_4.1)) rfl rfl rfl ?_
        refine ev_x (i := .aload_n 0) (len := 1) (p' := 55) (s' := [.ref 66]) rfl rfl (ld_a (vg_o (i := 2) (v := .int p_4.1) g_0 (by decide) (Or.inl rfl))) ?_
        refine ev_gc (p' := 58) (v := 71) rfl rfl rfl ly_66 rfl rfl ?_
        refine ev_x (i := .iload_n 1) (len := 1) (p' := 59) (s' := [.int l_1, .ref 71]) rfl rfl (ld_i (vg_o (i := 2) (v := .int p_4.1) g_1 (by decide) (Or.inl rfl))) ?_
        obtain ⟨p_5, G_5, H⟩ := F_bd H
        refine ev_cv (d := d + 4) (As := [.int l_1]) (a := 71) (p' := 62) rfl rfl rfl ly_71 rfl rfl rfl rfl rfl (nb_s1 hnb rfl) rfl (N_139_ok (d := d + 3) nm_71 G_5) ?_
        refine ev_st (st' := [.int p_5.1]) rfl ?_
        have e_5 := N_139_R G_5
        refine ev_x (i := .istore_n 3) (len := 1) (p' := 63) (s' := []) (l' := vz_s1 (vz_s1 (lv) 2 (.int p_4.1)) 3 (.int p_5.1)) rfl rfl rfl ?_
        refine ev_x (i := .iload_n 2) (len := 1) (p' := 64) (s' := [.int p_4.1]) rfl rfl (ld_i (vg_o (i := 3) (v := .int p_5.1) (vg_s (lv) 2 (.int p_4.1)) (by decide) (Or.inl rfl))) ?_
        refine ev_x (i := .bipush 75) (len := 2) (p' := 66) (s' := [.int 75, .int p_4.1]) rfl rfl rfl ?_
        refine F_if H (fun c_6 H => ?_) (fun c_6 H => ?_)
        · refine ev_b2 (t := 82) (p' := 69) rfl rfl rfl (if_neg (fun q => q c_6)) ?_
          refine ev_x (i := .aload_n 0) (len := 1) (p' := 70) (s' := [.ref 66]) rfl rfl (ld_a (vg_o (i := 3) (v := .int p_5.1) (vg_o (i := 2) (v := .int p_4.1) g_0 (by decide) (Or.inl rfl)) (by decide) (Or.inl rfl))) ?_
          refine ev_x (i := .aload_n 0) (len := 1) (p' := 71) (s' := [.ref 66, .ref 66]) rfl rfl (ld_a (vg_o (i := 3) (v := .int p_5.1) (vg_o (i := 2) (v := .int p_4.1) g_0 (by decide) (Or.inl rfl)) (by decide) (Or.inl rfl))) ?_
          refine ev_gi (p' := 74) (v := (gI p_5.2 66 7)) rfl rfl rfl ly_66 rfl rfl rfl ?_
          refine ev_x (i := .iconst 1) (len := 1) (p' := 75) (s' := [.int 1, .int (gI p_5.2 66 7), .ref 66]) rfl rfl rfl ?_
          refine ev_x (i := .isub) (len := 1) (p' := 76) (s' := [.int ((gI p_5.2 66 7) - 1), .ref 66]) rfl rfl rfl ?_
          refine ev_pi (p' := 79) rfl rfl rfl ly_66 rfl rfl rfl rfl ?_
          refine ev_x (i := .goto 79) (len := 3) (p' := 158) (s' := []) rfl rfl rfl ?_
          refine ev_x (i := .goto (-129)) (len := 3) (p' := 29) (s' := []) rfl rfl rfl ?_
          exact ih _ _ _ _ (vg_o (i := 3) (v := .int p_5.1) (vg_o (i := 2) (v := .int p_4.1) g_0 (by decide) (Or.inl rfl)) (by decide) (Or.inl rfl)) (vg_o (i := 3) (v := .int p_5.1) (vg_o (i := 2) (v := .int p_4.1) g_1 (by decide) (Or.inl rfl)) (by decide) (Or.inl rfl)) (nb_s1 (nb_s1 hnb rfl) rfl)  H
        · refine ev_b2 (t := 82) (p' := 82) rfl rfl rfl (if_pos c_6) ?_
          refine ev_x (i := .iload_n 2) (len := 1) (p' := 83) (s' := [.int p_4.1]) rfl rfl (ld_i (vg_o (i := 3) (v := .int p_5.1) (vg_s (lv) 2 (.int p_4.1)) (by decide) (Or.inl rfl))) ?_
          refine ev_x (i := .bipush 50) (len := 2) (p' := 85) (s' := [.int 50, .int p_4.1]) rfl rfl rfl ?_
          refine F_if H (fun c_7 H => ?_) (fun c_7 H => ?_)
          · refine ev_b2 (t := 108) (p' := 108) rfl rfl rfl (if_pos c_7) ?_
            refine ev_x (i := .iload_n 2) (len := 1) (p' := 109) (s' := [.int p_4.1]) rfl rfl (ld_i (vg_o (i := 3) (v := .int p_5.1) (vg_s (lv) 2 (.int p_4.1)) (by decide) (Or.inl rfl))) ?_
            refine ev_x (i := .bipush 61) (len := 2) (p' := 111) (s' := [.int 61, .int p_4.1]) rfl rfl rfl ?_
            refine F_if H (fun c_8 H => ?_) (fun c_8 H => ?_)
            · refine ev_b2 (t := 123) (p' := 123) rfl rfl rfl (if_pos c_8) ?_
              refine ev_x (i := .aload_n 0) (len := 1) (p' := 124) (s' := [.ref 66]) rfl rfl (ld_a (vg_o (i := 3) (v := .int p_5.1) (vg_o (i := 2) (v := .int p_4.1) g_0 (by decide) (Or.inl rfl)) (by decide) (Or.inl rfl))) ?_
              refine ev_x (i := .iload_n 2) (len := 1) (p' := 125) (s' := [.int p_4.1, .ref 66]) rfl rfl (ld_i (vg_o (i := 3) (v := .int p_5.1) (vg_s (lv) 2 (.int p_4.1)) (by decide) (Or.inl rfl))) ?_
              refine ev_x (i := .iload_n 3) (len := 1) (p' := 126) (s' := [.int p_5.1, .int p_4.1, .ref 66]) rfl rfl (ld_i (vg_s (vz_s1 (lv) 2 (.int p_4.1)) 3 (.int p_5.1))) ?_
              obtain ⟨p_9, G_9, H⟩ := F_bd H
              refine ev_cv (d := d + 4) (As := [.int p_4.1, .int p_5.1]) (a := 66) (p' := 129) rfl rfl rfl ly_66 rfl rfl rfl rfl rfl (nb_s1 (nb_s1 hnb rfl) rfl) rfl (F_155_ok (d := d + 0)   G_9) ?_
              refine ev_st (st' := [.int p_9.1]) rfl ?_
              have e_9 := F_155_R G_9
              refine ev_x (i := .istore 4) (len := 2) (p' := 131) (s' := []) (l' := vz_s1 (vz_s1 (vz_s1 (lv) 2 (.int p_4.1)) 3 (.int p_5.1)) 4 (.int p_9.1)) rfl rfl rfl ?_
              refine ev_x (i := .aload_n 0) (len := 1) (p' := 132) (s' := [.ref 66]) rfl rfl (ld_a (vg_o (i := 4) (v := .int p_9.1) (vg_o (i := 3) (v := .int p_5.1) (vg_o (i := 2) (v := .int p_4.1) g_0 (by decide) (Or.inl rfl)) (by decide) (Or.inl rfl)) (by decide) (Or.inl rfl))) ?_
              refine ev_x (i := .iload 4) (len := 2) (p' := 134) (s' := [.int p_9.1, .ref 66]) rfl rfl (ld_i (vg_s (vz_s1 (vz_s1 (lv) 2 (.int p_4.1)) 3 (.int p_5.1)) 4 (.int p_9.1))) ?_
              refine F_jn (A := vz_ev P0 (d + 5) 147 142 (vz_s1 (vz_s1 (vz_s1 (lv) 2 (.int p_4.1)) 3 (.int p_5.1)) 4 (.int p_9.1)) [.int (if 0 ≤ p_9.1 then (-1) else l_1 : Int32), .ref 66] (hp (p_9.2)) (.inl (some (.int p.1)), hp p.2)) ?_ (fun J => ?_)
              · refine ev_pi (p' := 145) rfl rfl rfl ly_66 rfl rfl rfl rfl ?_
                refine ev_x (i := .iload 4) (len := 2) (p' := 147) (s' := [.int p_9.1]) rfl rfl (ld_i (vg_s (vz_s1 (vz_s1 (lv) 2 (.int p_4.1)) 3 (.int p_5.1)) 4 (.int p_9.1))) ?_
                refine F_jn (A := vz_ev P0 (d + 5) 147 157 (vz_s1 (vz_s1 (vz_s1 (lv) 2 (.int p_4.1)) 3 (.int p_5.1)) 4 (.int p_9.1)) [.int (if p_9.1 ≤ 0 then l_1 else (l_1 + 1) : Int32)] (hp (st_i (p_9.2) 66 8 (if 0 ≤ p_9.1 then (-1) else l_1 : Int32))) (.inl (some (.int p.1)), hp p.2)) ?_ (fun J => ?_)
                · refine ev_x (i := .istore_n 1) (len := 1) (p' := 158) (s' := []) (l' := vz_s1 (vz_s1 (vz_s1 (vz_s1 (lv) 2 (.int p_4.1)) 3 (.int p_5.1)) 4 (.int p_9.1)) 1 (.int (if p_9.1 ≤ 0 then l_1 else (l_1 + 1) : Int32))) rfl rfl rfl ?_
                  refine ev_x (i := .goto (-129)) (len := 3) (p' := 29) (s' := []) rfl rfl rfl ?_
                  exact ih _ _ _ _ (vg_o (i := 1) (v := .int (if p_9.1 ≤ 0 then l_1 else (l_1 + 1) : Int32)) (vg_o (i := 4) (v := .int p_9.1) (vg_o (i := 3) (v := .int p_5.1) (vg_o (i := 2) (v := .int p_4.1) g_0 (by decide) (Or.inl rfl)) (by decide) (Or.inl rfl)) (by decide) (Or.inl rfl)) (by decide) (Or.inl rfl)) (vg_s (vz_s1 (vz_s1 (vz_s1 (lv) 2 (.int p_4.1)) 3 (.int p_5.1)) 4 (.int p_9.1)) 1 (.int (if p_9.1 ≤ 0 then l_1 else (l_1 + 1) : Int32))) (nb_s1 (nb_s1 (nb_s1 (nb_s1 hnb rfl) rfl) rfl) rfl)  H
                · by_cases c_11 : p_9.1 ≤ 0
                  · refine ev_b0 (t := 156) (p' := 156) rfl rfl rfl (if_pos c_11) ?_
                    refine ev_x (i := .iload_n 1) (len := 1) (p' := 157) (s' := [.int l_1]) rfl rfl (ld_i (vg_o (i := 4) (v := .int p_9.1) (vg_o (i := 3) (v := .int p_5.1) (vg_o (i := 2) (v := .int p_4.1) g_1 (by decide) (Or.inl rfl)) (by decide) (Or.inl rfl)) (by decide) (Or.inl rfl))) ?_
                    exact ev_st (congrArg (fun z => Value.int z :: []) (by rw [if_pos c_11])) J
                  · refine ev_b0 (t := 156) (p' := 150) rfl rfl rfl (if_neg c_11) ?_
                    refine ev_x (i := .iload_n 1) (len := 1) (p' := 151) (s' := [.int l_1]) rfl rfl (ld_i (vg_o (i := 4) (v := .int p_9.1) (vg_o (i := 3) (v := .int p_5.1) (vg_o (i := 2) (v := .int p_4.1) g_1 (by decide) (Or.inl rfl)) (by decide) (Or.inl rfl)) (by decide) (Or.inl rfl))) ?_
                    refine ev_x (i := .iconst 1) (len := 1) (p' := 152) (s' := [.int 1, .int l_1]) rfl rfl rfl ?_
                    refine ev_x (i := .iadd) (len := 1) (p' := 153) (s' := [.int (l_1 + 1)]) rfl rfl rfl ?_
                    refine ev_x (i := .goto 4) (len := 3) (p' := 157) (s' := [.int (l_1 + 1)]) rfl rfl rfl ?_
                    exact ev_st (congrArg (fun z => Value.int z :: []) (by rw [if_neg c_11])) J
              · by_cases c_10 : 0 ≤ p_9.1
                · refine ev_b0 (t := 141) (p' := 141) rfl rfl rfl (if_pos c_10) ?_
                  refine ev_x (i := .iconst (-1)) (len := 1) (p' := 142) (s' := [.int (-1), .ref 66]) rfl rfl rfl ?_
                  exact ev_st (congrArg (fun z => Value.int z :: [.ref 66]) (by rw [if_pos c_10])) J
                · refine ev_b0 (t := 141) (p' := 137) rfl rfl rfl (if_neg c_10) ?_
                  refine ev_x (i := .iload_n 1) (len := 1) (p' := 138) (s' := [.int l_1, .ref 66]) rfl rfl (ld_i (vg_o (i := 4) (v := .int p_9.1) (vg_o (i := 3) (v := .int p_5.1) (vg_o (i := 2) (v := .int p_4.1) g_1 (by decide) (Or.inl rfl)) (by decide) (Or.inl rfl)) (by decide) (Or.inl rfl))) ?_
                  refine ev_x (i := .goto 4) (len := 3) (p' := 142) (s' := [.int l_1, .ref 66]) rfl rfl rfl ?_
                  exact ev_st (congrArg (fun z => Value.int z :: [.ref 66]) (by rw [if_neg c_10])) J
            · refine ev_b2 (t := 123) (p' := 114) rfl rfl rfl (if_neg c_8) ?_
              refine ev_x (i := .aload_n 0) (len := 1) (p' := 115) (s' := [.ref 66]) rfl rfl (ld_a (vg_o (i := 3) (v := .int p_5.1) (vg_o (i := 2) (v := .int p_4.1) g_0 (by decide) (Or.inl rfl)) (by decide) (Or.inl rfl))) ?_
              refine ev_x (i := .iload_n 2) (len := 1) (p' := 116) (s' := [.int p_4.1, .ref 66]) rfl rfl (ld_i (vg_o (i := 3) (v := .int p_5.1) (vg_s (lv) 2 (.int p_4.1)) (by decide) (Or.inl rfl))) ?_
              refine ev_x (i := .iload_n 3) (len := 1) (p' := 117) (s' := [.int p_5.1, .int p_4.1, .ref 66]) rfl rfl (ld_i (vg_s (vz_s1 (lv) 2 (.int p_4.1)) 3 (.int p_5.1))) ?_
              obtain ⟨p_12, G_12, H⟩ := F_bd H
              refine ev_cv (d := d + 4) (As := [.int p_4.1, .int p_5.1]) (a := 66) (p' := 120) rfl rfl rfl ly_66 rfl rfl rfl rfl rfl (nb_s1 (nb_s1 hnb rfl) rfl) rfl (F_149_ok (d := d + 0)   G_12) ?_
              refine ev_st (st' := [.int p_12.1]) rfl ?_
              have e_12 := F_149_R G_12
              refine ev_x (i := .goto 9) (len := 3) (p' := 129) (s' := [.int p_12.1]) rfl rfl rfl ?_
              refine ev_x (i := .istore 4) (len := 2) (p' := 131) (s' := []) (l' := vz_s1 (vz_s1 (vz_s1 (lv) 2 (.int p_4.1)) 3 (.int p_5.1)) 4 (.int p_12.1)) rfl rfl rfl ?_
              refine ev_x (i := .aload_n 0) (len := 1) (p' := 132) (s' := [.ref 66]) rfl rfl (ld_a (vg_o (i := 4) (v := .int p_12.1) (vg_o (i := 3) (v := .int p_5.1) (vg_o (i := 2) (v := .int p_4.1) g_0 (by decide) (Or.inl rfl)) (by decide) (Or.inl rfl)) (by decide) (Or.inl rfl))) ?_
              refine ev_x (i := .iload 4) (len := 2) (p' := 134) (s' := [.int p_12.1, .ref 66]) rfl rfl (ld_i (vg_s (vz_s1 (vz_s1 (lv) 2 (.int p_4.1)) 3 (.int p_5.1)) 4 (.int p_12.1))) ?_
              refine F_jn (A := vz_ev P0 (d + 5) 147 142 (vz_s1 (vz_s1 (vz_s1 (lv) 2 (.int p_4.1)) 3 (.int p_5.1)) 4 (.int p_12.1)) [.int (if 0 ≤ p_12.1 then (-1) else l_1 : Int32), .ref 66] (hp (p_12.2)) (.inl (some (.int p.1)), hp p.2)) ?_ (fun J => ?_)
              · refine ev_pi (p' := 145) rfl rfl rfl ly_66 rfl rfl rfl rfl ?_
                refine ev_x (i := .iload 4) (len := 2) (p' := 147) (s' := [.int p_12.1]) rfl rfl (ld_i (vg_s (vz_s1 (vz_s1 (lv) 2 (.int p_4.1)) 3 (.int p_5.1)) 4 (.int p_12.1))) ?_
                refine F_jn (A := vz_ev P0 (d + 5) 147 157 (vz_s1 (vz_s1 (vz_s1 (lv) 2 (.int p_4.1)) 3 (.int p_5.1)) 4 (.int p_12.1)) [.int (if p_12.1 ≤ 0 then l_1 else (l_1 + 1) : Int32)] (hp (st_i (p_12.2) 66 8 (if 0 ≤ p_12.1 then (-1) else l_1 : Int32))) (.inl (some (.int p.1)), hp p.2)) ?_ (fun J => ?_)
                · refine ev_x (i := .istore_n 1) (len := 1) (p' := 158) (s' := []) (l' := vz_s1 (vz_s1 (vz_s1 (vz_s1 (lv) 2 (.int p_4.1)) 3 (.int p_5.1)) 4 (.int p_12.1)) 1 (.int (if p_12.1 ≤ 0 then l_1 else (l_1 + 1) : Int32))) rfl rfl rfl ?_
                  refine ev_x (i := .goto (-129)) (len := 3) (p' := 29) (s' := []) rfl rfl rfl ?_
                  exact ih _ _ _ _ (vg_o (i := 1) (v := .int (if p_12.1 ≤ 0 then l_1 else (l_1 + 1) : Int32)) (vg_o (i := 4) (v := .int p_12.1) (vg_o (i := 3) (v := .int p_5.1) (vg_o (i := 2) (v := .int p_4.1) g_0 (by decide) (Or.inl rfl)) (by decide) (Or.inl rfl)) (by decide) (Or.inl rfl)) (by decide) (Or.inl rfl)) (vg_s (vz_s1 (vz_s1 (vz_s1 (lv) 2 (.int p_4.1)) 3 (.int p_5.1)) 4 (.int p_12.1)) 1 (.int (if p_12.1 ≤ 0 then l_1 else (l_1 + 1) : Int32))) (nb_s1 (nb_s1 (nb_s1 (nb_s1 hnb rfl) rfl) rfl) rfl)  H
                · by_cases c_14 : p_12.1 ≤ 0
                  · refine ev_b0 (t := 156) (p' := 156) rfl rfl rfl (if_pos c_14) ?_
                    refine ev_x (i := .iload_n 1) (len := 1) (p' := 157) (s' := [.int l_1]) rfl rfl (ld_i (vg_o (i := 4) (v := .int p_12.1) (vg_o (i := 3) (v := .int p_5.1) (vg_o (i := 2) (v := .int p_4.1) g_1 (by decide) (Or.inl rfl)) (by decide) (Or.inl rfl)) (by decide) (Or.inl rfl))) ?_
                    exact ev_st (congrArg (fun z => Value.int z :: []) (by rw [if_pos c_14])) J
                  · refine ev_b0 (t := 156) (p' := 150) rfl rfl rfl (if_neg c_14) ?_
                    refine ev_x (i := .iload_n 1) (len := 1) (p' := 151) (s' := [.int l_1]) rfl rfl (ld_i (vg_o (i := 4) (v := .int p_12.1) (vg_o (i := 3) (v := .int p_5.1) (vg_o (i := 2) (v := .int p_4.1) g_1 (by decide) (Or.inl rfl)) (by decide) (Or.inl rfl)) (by decide) (Or.inl rfl))) ?_
                    refine ev_x (i := .iconst 1) (len := 1) (p' := 152) (s' := [.int 1, .int l_1]) rfl rfl rfl ?_
                    refine ev_x (i := .iadd) (len := 1) (p' := 153) (s' := [.int (l_1 + 1)]) rfl rfl rfl ?_
                    refine ev_x (i := .goto 4) (len := 3) (p' := 157) (s' := [.int (l_1 + 1)]) rfl rfl rfl ?_
                    exact ev_st (congrArg (fun z => Value.int z :: []) (by rw [if_neg c_14])) J
              · by_cases c_13 : 0 ≤ p_12.1
                · refine ev_b0 (t := 141) (p' := 141) rfl rfl rfl (if_pos c_13) ?_
                  refine ev_x (i := .iconst (-1)) (len := 1) (p' := 142) (s' := [.int (-1), .ref 66]) rfl rfl rfl ?_
                  exact ev_st (congrArg (fun z => Value.int z :: [.ref 66]) (by rw [if_pos c_13])) J
                · refine ev_b0 (t := 141) (p' := 137) rfl rfl rfl (if_neg c_13) ?_
                  refine ev_x (i := .iload_n 1) (len := 1) (p' := 138) (s' := [.int l_1, .ref 66]) rfl rfl (ld_i (vg_o (i := 4) (v := .int p_12.1) (vg_o (i := 3) (v := .int p_5.1) (vg_o (i := 2) (v := .int p_4.1) g_1 (by decide) (Or.inl rfl)) (by decide) (Or.inl rfl)) (by decide) (Or.inl rfl))) ?_
                  refine ev_x (i := .goto 4) (len := 3) (p' := 142) (s' := [.int l_1, .ref 66]) rfl rfl rfl ?_
                  exact ev_st (congrArg (fun z => Value.int z :: [.ref 66]) (by rw [if_neg c_13])) J
          · refine ev_b2 (t := 108) (p' := 88) rfl rfl rfl (if_neg c_7) ?_
            refine ev_x (i := .aload_n 0) (len := 1) (p' := 89) (s' := [.ref 66]) rfl rfl (ld_a (vg_o (i := 3) (v := .int p_5.1) (vg_o (i := 2) (v := .int p_4.1) g_0 (by decide) (Or.inl rfl)) (by decide) (Or.inl rfl))) ?_
            refine ev_x (i := .iload_n 2) (len := 1) (p' := 90) (s' := [.int p_4.1, .ref 66]) rfl rfl (ld_i (vg_o (i := 3) (v := .int p_5.1) (vg_s (lv) 2 (.int p_4.1)) (by decide) (Or.inl rfl))) ?_
            refine ev_x (i := .iload_n 3) (len := 1) (p' := 91) (s' := [.int p_5.1, .int p_4.1, .ref 66]) rfl rfl (ld_i (vg_s (vz_s1 (lv) 2 (.int p_4.1)) 3 (.int p_5.1))) ?_
            refine F_jn (A := vz_ev P0 (d + 5) 147 99 (vz_s1 (vz_s1 (lv) 2 (.int p_4.1)) 3 (.int p_5.1)) [.int (if p_4.1 = p_5.1 then (-1) else l_1 : Int32), .ref 66] (hp (p_5.2)) (.inl (some (.int p.1)), hp p.2)) ?_ (fun J => ?_)
            · refine ev_pi (p' := 102) rfl rfl rfl ly_66 rfl rfl rfl rfl ?_
              refine ev_x (i := .iinc 1 1) (len := 3) (p' := 105) (s' := []) (l' := vz_s1 (vz_s1 (vz_s1 (lv) 2 (.int p_4.1)) 3 (.int p_5.1)) 1 (.int (l_1 + 1))) rfl rfl (ld_inc (vg_o (i := 3) (v := .int p_5.1) (vg_o (i := 2) (v := .int p_4.1) g_1 (by decide) (Or.inl rfl)) (by decide) (Or.inl rfl)) rfl) ?_
              refine ev_x (i := .goto 53) (len := 3) (p' := 158) (s' := []) rfl rfl rfl ?_
              refine ev_x (i := .goto (-129)) (len := 3) (p' := 29) (s' := []) rfl rfl rfl ?_
              exact ih _ _ _ _ (vg_o (i := 1) (v := .int (l_1 + 1)) (vg_o (i := 3) (v := .int p_5.1) (vg_o (i := 2) (v := .int p_4.1) g_0 (by decide) (Or.inl rfl)) (by decide) (Or.inl rfl)) (by decide) (Or.inl rfl)) (vg_s (vz_s1 (vz_s1 (lv) 2 (.int p_4.1)) 3 (.int p_5.1)) 1 (.int (l_1 + 1))) (nb_s1 (nb_s1 (nb_s1 hnb rfl) rfl) rfl)  H
            · by_cases c_15 : p_4.1 = p_5.1
              · refine ev_b2 (t := 98) (p' := 94) rfl rfl rfl (if_neg (fun q => q c_15)) ?_
                refine ev_x (i := .iconst (-1)) (len := 1) (p' := 95) (s' := [.int (-1), .ref 66]) rfl rfl rfl ?_
                refine ev_x (i := .goto 4) (len := 3) (p' := 99) (s' := [.int (-1), .ref 66]) rfl rfl rfl ?_
                exact ev_st (congrArg (fun z => Value.int z :: [.ref 66]) (by rw [if_pos c_15])) J
              · refine ev_b2 (t := 98) (p' := 98) rfl rfl rfl (if_pos c_15) ?_
                refine ev_x (i := .iload_n 1) (len := 1) (p' := 99) (s' := [.int l_1, .ref 66]) rfl rfl (ld_i (vg_o (i := 3) (v := .int p_5.1) (vg_o (i := 2) (v := .int p_4.1) g_1 (by decide) (Or.inl rfl)) (by decide) (Or.inl rfl))) ?_
                exact ev_st (congrArg (fun z => Value.int z :: [.ref 66]) (by rw [if_neg c_15])) J
/-- GameTextModel.readText()Z -/
def F_147 (N : Nat) (σ : st_S) : Option (Int32 × st_S) :=
  (N_133 N 77 50 (st_i (st_i (st_i (σ) 77 1 0) 66 7 0) 66 8 (-1))).bind fun p_1 =>
  L_147 N N 0 (p_1)
set_option maxRecDepth 100000 in
theorem F_147_R {N : Nat} {σ : st_S} {p : Int32 × st_S} (H : F_147 N σ = some p) : gR p.2 = gR σ := by
  unfold F_147 at H
  obtain ⟨p_1, G_1, H⟩ := F_bd H
  exact (((L_147_R _ _ _ _ H)).trans ((N_133_R G_1).trans rfl))
set_option maxHeartbeats 4000000 in
set_option maxRecDepth 100000 in
theorem F_147_ok {N d : Nat} {σ : st_S} {p : Int32 × st_S}  (H : F_147 N σ = some p) : vz_ev P0 (d + 5) 147 0 (lv_args 0 [.ref 66]) [] (hp σ) (.inl (some (.int p.1)), hp p.2) := by
  unfold F_147 at H
  refine ev_x (i := .aload_n 0) (len := 1) (p' := 1) (s' := [.ref 66]) rfl rfl rfl ?_
  refine ev_gc (p' := 4) (v := 77) rfl rfl rfl ly_66 rfl rfl ?_
  refine ev_x (i := .iconst 0) (len := 1) (p' := 5) (s' := [.int 0, .ref 77]) rfl rfl rfl ?_
  refine ev_pi (p' := 8) rfl rfl rfl ly_77 rfl rfl rfl rfl ?_
  refine ev_x (i := .aload_n 0) (len := 1) (p' := 9) (s' := [.ref 66]) rfl rfl rfl ?_
  refine ev_x (i := .iconst 0) (len := 1) (p' := 10) (s' := [.int 0, .ref 66]) rfl rfl rfl ?_
  refine ev_pi (p' := 13) rfl rfl rfl ly_66 rfl rfl rfl rfl ?_
  refine ev_x (i := .aload_n 0) (len := 1) (p' := 14) (s' := [.ref 66]) rfl rfl rfl ?_
  refine ev_x (i := .iconst (-1)) (len := 1) (p' := 15) (s' := [.int (-1), .ref 66]) rfl rfl rfl ?_
  refine ev_pi (p' := 18) rfl rfl rfl ly_66 rfl rfl rfl rfl ?_
  refine ev_x (i := .aload_n 0) (len := 1) (p' := 19) (s' := [.ref 66]) rfl rfl rfl ?_
  refine ev_gc (p' := 22) (v := 77) rfl rfl rfl ly_66 rfl rfl ?_
  refine ev_x (i := .bipush 50) (len := 2) (p' := 24) (s' := [.int 50, .ref 77]) rfl rfl rfl ?_
  obtain ⟨p_1, G_1, H⟩ := F_bd H
  refine ev_cv (d := d + 4) (As := [.int 50]) (a := 77) (p' := 27) rfl rfl rfl ly_77 rfl rfl rfl rfl rfl rfl rfl (N_133_ok (d := d + 3) nm_77 G_1) ?_
  refine ev_st (st' := []) rfl ?_
  have e_1 := N_133_R G_1
  refine ev_x (i := .iconst 0) (len := 1) (p' := 28) (s' := [.int 0]) rfl rfl rfl ?_
  refine ev_x (i := .istore_n 1) (len := 1) (p' := 29) (s' := []) (l' := [(1, .int 0), (0, .ref 66)]) rfl rfl rfl ?_
  exact (L_147_ok (d := d) N) _ _ _ _ rfl rfl rfl  H
