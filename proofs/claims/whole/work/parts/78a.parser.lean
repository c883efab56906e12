/-! methods as functions of the store. Written by wip/prog/dec2.py, gen_all.py -/
/-- GameText$Parser.takesOperator()Z -/
def F_26 (N : Nat) (t : Nat) (σ : st_S) : Option (Int32 × st_S) :=
  if (gI σ 2 3) = 37 then
    (F_27 N t 8 7 (σ)).bind fun p_2 =>
    if (p_2.1 = 0 ∨ p_2.1 = 1) then
    some (p_2.1, p_2.2)
    else none
  else
  if (gI σ 2 3) = 38 then
    (F_34 N t 17 3 23 (σ)).bind fun p_5 =>
    if (p_5.1 = 0 ∨ p_5.1 = 1) then
    some (p_5.1, p_5.2)
    else none
  else
  if (gI σ 2 3) = 42 then
    (F_27 N t 6 7 (σ)).bind fun p_8 =>
    if (p_8.1 = 0 ∨ p_8.1 = 1) then
    some (p_8.1, p_8.2)
    else none
  else
  if (gI σ 2 3) = 43 then
    (F_27 N t 4 6 (σ)).bind fun p_11 =>
    if (p_11.1 = 0 ∨ p_11.1 = 1) then
    some (p_11.1, p_11.2)
    else none
  else
  if (gI σ 2 3) = 45 then
    (F_27 N t 5 6 (σ)).bind fun p_14 =>
    if (p_14.1 = 0 ∨ p_14.1 = 1) then
    some (p_14.1, p_14.2)
    else none
  else
  if (gI σ 2 3) = 47 then
    (F_27 N t 7 7 (σ)).bind fun p_17 =>
    if (p_17.1 = 0 ∨ p_17.1 = 1) then
    some (p_17.1, p_17.2)
    else none
  else
  if (gI σ 2 3) = 60 then
    (F_33 N t 12 (σ)).bind fun p_20 =>
    if (p_20.1 = 0 ∨ p_20.1 = 1) then
    some (p_20.1, p_20.2)
    else none
  else
  if (gI σ 2 3) = 61 then
    (F_33 N t 10 (σ)).bind fun p_23 =>
    if (p_23.1 = 0 ∨ p_23.1 = 1) then
    some (p_23.1, p_23.2)
    else none
  else
  if (gI σ 2 3) = 62 then
    (F_33 N t 14 (σ)).bind fun p_26 =>
    if (p_26.1 = 0 ∨ p_26.1 = 1) then
    some (p_26.1, p_26.2)
    else none
  else
  if (gI σ 2 3) = 63 then
    (F_35 N t (σ)).bind fun p_29 =>
    if (p_29.1 = 0 ∨ p_29.1 = 1) then
    some (p_29.1, p_29.2)
    else none
  else
  if (gI σ 2 3) = 124 then
    (F_34 N t 18 2 24 (σ)).bind fun p_32 =>
    if (p_32.1 = 0 ∨ p_32.1 = 1) then
    some (p_32.1, p_32.2)
    else none
  else
  if (gI σ 2 3) = 258 then
    (F_33 N t 11 (σ)).bind fun p_35 =>
    if (p_35.1 = 0 ∨ p_35.1 = 1) then
    some (p_35.1, p_35.2)
    else none
  else
  if (gI σ 2 3) = 259 then
    (F_33 N t 13 (σ)).bind fun p_38 =>
    if (p_38.1 = 0 ∨ p_38.1 = 1) then
    some (p_38.1, p_38.2)
    else none
  else
  if (gI σ 2 3) = 260 then
    (F_33 N t 15 (σ)).bind fun p_41 =>
    if (p_41.1 = 0 ∨ p_41.1 = 1) then
    some (p_41.1, p_41.2)
    else none
  else
    (F_37 N t (σ)).bind fun p_43 =>
    if (p_43.1 = 0 ∨ p_43.1 = 1) then
    some (p_43.1, p_43.2)
    else none
set_option maxRecDepth 100000 in
theorem F_26_R {N : Nat} {t : Nat} {σ : st_S} {p : Int32 × st_S} (H : F_26 N t σ = some p) : gR p.2 = gR σ := by
  unfold F_26 at H
  refine F_if H (fun _ H => ?_) (fun _ H => ?_)
  · obtain ⟨p_2, G_2, H⟩ := F_bd H
    obtain ⟨_, H⟩ := F_gd H
    obtain rfl := Option.some.inj H
    exact ((F_27_R G_2).trans rfl)
  · refine F_if H (fun _ H => ?_) (fun _ H => ?_)
    · obtain ⟨p_5, G_5, H⟩ := F_bd H
      obtain ⟨_, H⟩ := F_gd H
      obtain rfl := Option.some.inj H
      exact ((F_34_R G_5).trans rfl)
    · refine F_if H (fun _ H => ?_) (fun _ H => ?_)
      · obtain ⟨p_8, G_8, H⟩ := F_bd H
        obtain ⟨_, H⟩ := F_gd H
        obtain rfl := Option.some.inj H
        exact ((F_27_R G_8).trans rfl)
      · refine F_if H (fun _ H => ?_) (fun _ H => ?_)
        · obtain ⟨p_11, G_11, H⟩ := F_bd H
          obtain ⟨_, H⟩ := F_gd H
          obtain rfl := Option.some.inj H
          exact ((F_27_R G_11).trans rfl)
        · refine F_if H (fun _ H => ?_) (fun _ H => ?_)
          · obtain ⟨p_14, G_14, H⟩ := F_bd H
            obtain ⟨_, H⟩ := F_gd H
            obtain rfl := Option.some.inj H
            exact ((F_27_R G_14).trans rfl)
          · refine F_if H (fun _ H => ?_) (fun _ H => ?_)
            · obtain ⟨p_17, G_17, H⟩ := F_bd H
              obtain ⟨_, H⟩ := F_gd H
              obtain rfl := Option.some.inj H
              exact ((F_27_R G_17).trans rfl)
            · refine F_if H (fun _ H => ?_) (fun _ H => ?_)
              · obtain ⟨p_20, G_20, H⟩ := F_bd H
                obtain ⟨_, H⟩ := F_gd H
                obtain rfl := Option.some.inj H
                exact ((F_33_R G_20).trans rfl)
              · refine F_if H (fun _ H => ?_) (fun _ H => ?_)
                · obtain ⟨p_23, G_23, H⟩ := F_bd H
                  obtain ⟨_, H⟩ := F_gd H
                  obtain rfl := Option.some.inj H
                  exact ((F_33_R G_23).trans rfl)
                · refine F_if H (fun _ H => ?_) (fun _ H => ?_)
                  · obtain ⟨p_26, G_26, H⟩ := F_bd H
                    obtain ⟨_, H⟩ := F_gd H
                    obtain rfl := Option.some.inj H
                    exact ((F_33_R G_26).trans rfl)
                  · refine F_if H (fun _ H => ?_) (fun _ H => ?_)
                    · obtain ⟨p_29, G_29, H⟩ := F_bd H
                      obtain ⟨_, H⟩ := F_gd H
                      obtain rfl := Option.some.inj H
                      exact ((F_35_R G_29).trans rfl)
                    · refine F_if H (fun _ H => ?_) (fun _ H => ?_)
                      · obtain ⟨p_32, G_32, H⟩ := F_bd H
                        obtain ⟨_, H⟩ := F_gd H
                        obtain rfl := Option.some.inj H
                        exact ((F_34_R G_32).trans rfl)
                      · refine F_if H (fun _ H => ?_) (fun _ H => ?_)
                        · obtain ⟨p_35, G_35, H⟩ := F_bd H
                          obtain ⟨_, H⟩ := F_gd H
                          obtain rfl := Option.some.inj H
                          exact ((F_33_R G_35).trans rfl)
                        · refine F_if H (fun _ H => ?_) (fun _ H => ?_)
                          · obtain ⟨p_38, G_38, H⟩ := F_bd H
                            obtain ⟨_, H⟩ := F_gd H
                            obtain rfl := Option.some.inj H
                            exact ((F_33_R G_38).trans rfl)
                          · refine F_if H (fun _ H => ?_) (fun _ H => ?_)
                            · obtain ⟨p_41, G_41, H⟩ := F_bd H
                              obtain ⟨_, H⟩ := F_gd H
                              obtain rfl := Option.some.inj H
                              exact ((F_33_R G_41).trans rfl)
                            · obtain ⟨p_43, G_43, H⟩ := F_bd H
                              obtain ⟨_, H⟩ := F_gd H
                              obtain rfl := Option.some.inj H
                              exact ((F_37_R G_43).trans rfl)
set_option maxHeartbeats 4000000 in
set_option maxRecDepth 100000 in
theorem F_26_ok {N d : Nat} {t : Nat} (ht : t = 4 ∨ t = 20) {σ : st_S} {p : Int32 × st_S} (hr_36_7 : gR σ 36 7 = (t + 1)) (H : F_26 N t σ = some p) : vz_ev P0 (d + 9) 26 0 (lv_args 0 [.ref 36]) [] (hp σ) (.inl (some (.int p.1)), hp p.2) := by
  unfold F_26 at H
  refine ev_x (i := .aload_n 0) (len := 1) (p' := 1) (s' := [.ref 36]) rfl rfl rfl ?_
  refine ev_gc (p' := 4) (v := 2) rfl rfl rfl ly_36 rfl rfl ?_
  refine ev_gi (p' := 7) (v := (gI σ 2 3)) rfl rfl rfl ly_2 rfl rfl rfl ?_
  refine F_if H (fun c_1 H => ?_) (fun c_1 H => ?_)
  · refine ev_st (st' := [.int 37]) (congrArg (fun z => Value.int z :: []) c_1) ?_
    refine ev_ls (t := 146) rfl rfl rfl (by decide) ?_
    refine ev_x (i := .aload_n 0) (len := 1) (p' := 147) (s' := [.ref 36]) rfl rfl rfl ?_
    refine ev_x (i := .bipush 8) (len := 2) (p' := 149) (s' := [.int 8, .ref 36]) rfl rfl rfl ?_
    refine ev_x (i := .bipush 7) (len := 2) (p' := 151) (s' := [.int 7, .int 8, .ref 36]) rfl rfl rfl ?_
    obtain ⟨p_2, G_2, H⟩ := F_bd H
    refine ev_cv (d := d + 8) (As := [.int 8, .int 7]) (a := 36) (p' := 154) rfl rfl rfl ly_36 rfl rfl rfl rfl rfl rfl rfl (F_27_ok (d := d + 1) (ht := ht) (hr_36_7 := hr_36_7) G_2) ?_
    refine ev_st (st' := [.int p_2.1]) rfl ?_
    have e_2 := F_27_R G_2
    obtain ⟨b_3, H⟩ := F_gd H
    obtain rfl := Option.some.inj H
    exact ev_iret rfl rfl rfl (fit_b b_3)
  · refine F_if H (fun c_4 H => ?_) (fun c_4 H => ?_)
    · refine ev_st (st' := [.int 38]) (congrArg (fun z => Value.int z :: []) c_4) ?_
      refine ev_ls (t := 213) rfl rfl rfl (by decide) ?_
      refine ev_x (i := .aload_n 0) (len := 1) (p' := 214) (s' := [.ref 36]) rfl rfl rfl ?_
      refine ev_x (i := .bipush 17) (len := 2) (p' := 216) (s' := [.int 17, .ref 36]) rfl rfl rfl ?_
      refine ev_x (i := .iconst 3) (len := 1) (p' := 217) (s' := [.int 3, .int 17, .ref 36]) rfl rfl rfl ?_
      refine ev_x (i := .bipush 23) (len := 2) (p' := 219) (s' := [.int 23, .int 3, .int 17, .ref 36]) rfl rfl rfl ?_
      obtain ⟨p_5, G_5, H⟩ := F_bd H
      refine ev_cv (d := d + 8) (As := [.int 17, .int 3, .int 23]) (a := 36) (p' := 222) rfl rfl rfl ly_36 rfl rfl rfl rfl rfl rfl rfl (F_34_ok (d := d + 1) (ht := ht) (hr_36_7 := hr_36_7) G_5) ?_
      refine ev_st (st' := [.int p_5.1]) rfl ?_
      have e_5 := F_34_R G_5
      obtain ⟨b_6, H⟩ := F_gd H
      obtain rfl := Option.some.inj H
      exact ev_iret rfl rfl rfl (fit_b b_6)
    · refine F_if H (fun c_7 H => ?_) (fun c_7 H => ?_)
      · refine ev_st (st' := [.int 42]) (congrArg (fun z => Value.int z :: []) c_7) ?_
        refine ev_ls (t := 128) rfl rfl rfl (by decide) ?_
        refine ev_x (i := .aload_n 0) (len := 1) (p' := 129) (s' := [.ref 36]) rfl rfl rfl ?_
        refine ev_x (i := .bipush 6) (len := 2) (p' := 131) (s' := [.int 6, .ref 36]) rfl rfl rfl ?_
        refine ev_x (i := .bipush 7) (len := 2) (p' := 133) (s' := [.int 7, .int 6, .ref 36]) rfl rfl rfl ?_
        obtain ⟨p_8, G_8, H⟩ := F_bd H
        refine ev_cv (d := d + 8) (As := [.int 6, .int 7]) (a := 36) (p' := 136) rfl rfl rfl ly_36 rfl rfl rfl rfl rfl rfl rfl (F_27_ok (d := d + 1) (ht := ht) (hr_36_7 := hr_36_7) G_8) ?_
        refine ev_st (st' := [.int p_8.1]) rfl ?_
        have e_8 := F_27_R G_8
        obtain ⟨b_9, H⟩ := F_gd H
        obtain rfl := Option.some.inj H
        exact ev_iret rfl rfl rfl (fit_b b_9)
      · refine F_if H (fun c_10 H => ?_) (fun c_10 H => ?_)
        · refine ev_st (st' := [.int 43]) (congrArg (fun z => Value.int z :: []) c_10) ?_
          refine ev_ls (t := 155) rfl rfl rfl (by decide) ?_
          refine ev_x (i := .aload_n 0) (len := 1) (p' := 156) (s' := [.ref 36]) rfl rfl rfl ?_
          refine ev_x (i := .iconst 4) (len := 1) (p' := 157) (s' := [.int 4, .ref 36]) rfl rfl rfl ?_
          refine ev_x (i := .bipush 6) (len := 2) (p' := 159) (s' := [.int 6, .int 4, .ref 36]) rfl rfl rfl ?_
          obtain ⟨p_11, G_11, H⟩ := F_bd H
          refine ev_cv (d := d + 8) (As := [.int 4, .int 6]) (a := 36) (p' := 162) rfl rfl rfl ly_36 rfl rfl rfl rfl rfl rfl rfl (F_27_ok (d := d + 1) (ht := ht) (hr_36_7 := hr_36_7) G_11) ?_
          refine ev_st (st' := [.int p_11.1]) rfl ?_
          have e_11 := F_27_R G_11
          obtain ⟨b_12, H⟩ := F_gd H
          obtain rfl := Option.some.inj H
          exact ev_iret rfl rfl rfl (fit_b b_12)
        · refine F_if H (fun c_13 H => ?_) (fun c_13 H => ?_)
          · refine ev_st (st' := [.int 45]) (congrArg (fun z => Value.int z :: []) c_13) ?_
            refine ev_ls (t := 163) rfl rfl rfl (by decide) ?_
            refine ev_x (i := .aload_n 0) (len := 1) (p' := 164) (s' := [.ref 36]) rfl rfl rfl ?_
            refine ev_x (i := .iconst 5) (len := 1) (p' := 165) (s' := [.int 5, .ref 36]) rfl rfl rfl ?_
            refine ev_x (i := .bipush 6) (len := 2) (p' := 167) (s' := [.int 6, .int 5, .ref 36]) rfl rfl rfl ?_
            obtain ⟨p_14, G_14, H⟩ := F_bd H
            refine ev_cv (d := d + 8) (As := [.int 5, .int 6]) (a := 36) (p' := 170) rfl rfl rfl ly_36 rfl rfl rfl rfl rfl rfl rfl (F_27_ok (d := d + 1) (ht := ht) (hr_36_7 := hr_36_7) G_14) ?_
            refine ev_st (st' := [.int p_14.1]) rfl ?_
            have e_14 := F_27_R G_14
            obtain ⟨b_15, H⟩ := F_gd H
            obtain rfl := Option.some.inj H
            exact ev_iret rfl rfl rfl (fit_b b_15)
          · refine F_if H (fun c_16 H => ?_) (fun c_16 H => ?_)
            · refine ev_st (st' := [.int 47]) (congrArg (fun z => Value.int z :: []) c_16) ?_
              refine ev_ls (t := 137) rfl rfl rfl (by decide) ?_
              refine ev_x (i := .aload_n 0) (len := 1) (p' := 138) (s' := [.ref 36]) rfl rfl rfl ?_
              refine ev_x (i := .bipush 7) (len := 2) (p' := 140) (s' := [.int 7, .ref 36]) rfl rfl rfl ?_
              refine ev_x (i := .bipush 7) (len := 2) (p' := 142) (s' := [.int 7, .int 7, .ref 36]) rfl rfl rfl ?_
              obtain ⟨p_17, G_17, H⟩ := F_bd H
              refine ev_cv (d := d + 8) (As := [.int 7, .int 7]) (a := 36) (p' := 145) rfl rfl rfl ly_36 rfl rfl rfl rfl rfl rfl rfl (F_27_ok (d := d + 1) (ht := ht) (hr_36_7 := hr_36_7) G_17) ?_
              refine ev_st (st' := [.int p_17.1]) rfl ?_
              have e_17 := F_27_R G_17
              obtain ⟨b_18, H⟩ := F_gd H
              obtain rfl := Option.some.inj H
              exact ev_iret rfl rfl rfl (fit_b b_18)
            · refine F_if H (fun c_19 H => ?_) (fun c_19 H => ?_)
              · refine ev_st (st' := [.int 60]) (congrArg (fun z => Value.int z :: []) c_19) ?_
                refine ev_ls (t := 185) rfl rfl rfl (by decide) ?_
                refine ev_x (i := .aload_n 0) (len := 1) (p' := 186) (s' := [.ref 36]) rfl rfl rfl ?_
                refine ev_x (i := .bipush 12) (len := 2) (p' := 188) (s' := [.int 12, .ref 36]) rfl rfl rfl ?_
                obtain ⟨p_20, G_20, H⟩ := F_bd H
                refine ev_cv (d := d + 8) (As := [.int 12]) (a := 36) (p' := 191) rfl rfl rfl ly_36 rfl rfl rfl rfl rfl rfl rfl (F_33_ok (d := d + 1) (ht := ht) (hr_36_7 := hr_36_7) G_20) ?_
                refine ev_st (st' := [.int p_20.1]) rfl ?_
                have e_20 := F_33_R G_20
                obtain ⟨b_21, H⟩ := F_gd H
                obtain rfl := Option.some.inj H
                exact ev_iret rfl rfl rfl (fit_b b_21)
              · refine F_if H (fun c_22 H => ?_) (fun c_22 H => ?_)
                · refine ev_st (st' := [.int 61]) (congrArg (fun z => Value.int z :: []) c_22) ?_
                  refine ev_ls (t := 171) rfl rfl rfl (by decide) ?_
                  refine ev_x (i := .aload_n 0) (len := 1) (p' := 172) (s' := [.ref 36]) rfl rfl rfl ?_
                  refine ev_x (i := .bipush 10) (len := 2) (p' := 174) (s' := [.int 10, .ref 36]) rfl rfl rfl ?_
                  obtain ⟨p_23, G_23, H⟩ := F_bd H
                  refine ev_cv (d := d + 8) (As := [.int 10]) (a := 36) (p' := 177) rfl rfl rfl ly_36 rfl rfl rfl rfl rfl rfl rfl (F_33_ok (d := d + 1) (ht := ht) (hr_36_7 := hr_36_7) G_23) ?_
                  refine ev_st (st' := [.int p_23.1]) rfl ?_
                  have e_23 := F_33_R G_23
                  obtain ⟨b_24, H⟩ := F_gd H
                  obtain rfl := Option.some.inj H
                  exact ev_iret rfl rfl rfl (fit_b b_24)
                · refine F_if H (fun c_25 H => ?_) (fun c_25 H => ?_)
                  · refine ev_st (st' := [.int 62]) (congrArg (fun z => Value.int z :: []) c_25) ?_
                    refine ev_ls (t := 199) rfl rfl rfl (by decide) ?_
                    refine ev_x (i := .aload_n 0) (len := 1) (p' := 200) (s' := [.ref 36]) rfl rfl rfl ?_
                    refine ev_x (i := .bipush 14) (len := 2) (p' := 202) (s' := [.int 14, .ref 36]) rfl rfl rfl ?_
                    obtain ⟨p_26, G_26, H⟩ := F_bd H
                    refine ev_cv (d := d + 8) (As := [.int 14]) (a := 36) (p' := 205) rfl rfl rfl ly_36 rfl rfl rfl rfl rfl rfl rfl (F_33_ok (d := d + 1) (ht := ht) (hr_36_7 := hr_36_7) G_26) ?_
                    refine ev_st (st' := [.int p_26.1]) rfl ?_
                    have e_26 := F_33_R G_26
                    obtain ⟨b_27, H⟩ := F_gd H
                    obtain rfl := Option.some.inj H
                    exact ev_iret rfl rfl rfl (fit_b b_27)
                  · refine F_if H (fun c_28 H => ?_) (fun c_28 H => ?_)
                    · refine ev_st (st' := [.int 63]) (congrArg (fun z => Value.int z :: []) c_28) ?_
                      refine ev_ls (t := 233) rfl rfl rfl (by decide) ?_
                      refine ev_x (i := .aload_n 0) (len := 1) (p' := 234) (s' := [.ref 36]) rfl rfl rfl ?_
                      obtain ⟨p_29, G_29, H⟩ := F_bd H
                      refine ev_cv (d := d + 8) (As := []) (a := 36) (p' := 237) rfl rfl rfl ly_36 rfl rfl rfl rfl rfl rfl rfl (F_35_ok (d := d + 1) (ht := ht) (hr_36_7 := hr_36_7) G_29) ?_
                      refine ev_st (st' := [.int p_29.1]) rfl ?_
                      have e_29 := F_35_R G_29
                      obtain ⟨b_30, H⟩ := F_gd H
                      obtain rfl := Option.some.inj H
                      exact ev_iret rfl rfl rfl (fit_b b_30)
                    · refine F_if H (fun c_31 H => ?_) (fun c_31 H => ?_)
                      · refine ev_st (st' := [.int 124]) (congrArg (fun z => Value.int z :: []) c_31) ?_
                        refine ev_ls (t := 223) rfl rfl rfl (by decide) ?_
                        refine ev_x (i := .aload_n 0) (len := 1) (p' := 224) (s' := [.ref 36]) rfl rfl rfl ?_
                        refine ev_x (i := .bipush 18) (len := 2) (p' := 226) (s' := [.int 18, .ref 36]) rfl rfl rfl ?_
                        refine ev_x (i := .iconst 2) (len := 1) (p' := 227) (s' := [.int 2, .int 18, .ref 36]) rfl rfl rfl ?_
                        refine ev_x (i := .bipush 24) (len := 2) (p' := 229) (s' := [.int 24, .int 2, .int 18, .ref 36]) rfl rfl rfl ?_
                        obtain ⟨p_32, G_32, H⟩ := F_bd H
                        refine ev_cv (d := d + 8) (As := [.int 18, .int 2, .int 24]) (a := 36) (p' := 232) rfl rfl rfl ly_36 rfl rfl rfl rfl rfl rfl rfl (F_34_ok (d := d + 1) (ht := ht) (hr_36_7 := hr_36_7) G_32) ?_
                        refine ev_st (st' := [.int p_32.1]) rfl ?_
                        have e_32 := F_34_R G_32
                        obtain ⟨b_33, H⟩ := F_gd H
                        obtain rfl := Option.some.inj H
                        exact ev_iret rfl rfl rfl (fit_b b_33)
                      · refine F_if H (fun c_34 H => ?_) (fun c_34 H => ?_)
                        · refine ev_st (st' := [.int 258]) (congrArg (fun z => Value.int z :: []) c_34) ?_
                          refine ev_ls (t := 178) rfl rfl rfl (by decide) ?_
                          refine ev_x (i := .aload_n 0) (len := 1) (p' := 179) (s' := [.ref 36]) rfl rfl rfl ?_
                          refine ev_x (i := .bipush 11) (len := 2) (p' := 181) (s' := [.int 11, .ref 36]) rfl rfl rfl ?_
                          obtain ⟨p_35, G_35, H⟩ := F_bd H
                          refine ev_cv (d := d + 8) (As := [.int 11]) (a := 36) (p' := 184) rfl rfl rfl ly_36 rfl rfl rfl rfl rfl rfl rfl (F_33_ok (d := d + 1) (ht := ht) (hr_36_7 := hr_36_7) G_35) ?_
                          refine ev_st (st' := [.int p_35.1]) rfl ?_
                          have e_35 := F_33_R G_35
                          obtain ⟨b_36, H⟩ := F_gd H
                          obtain rfl := Option.some.inj H
                          exact ev_iret rfl rfl rfl (fit_b b_36)
                        · refine F_if H (fun c_37 H => ?_) (fun c_37 H => ?_)
                          · refine ev_st (st' := [.int 259]) (congrArg (fun z => Value.int z :: []) c_37) ?_
                            refine ev_ls (t := 192) rfl rfl rfl (by decide) ?_
                            refine ev_x (i := .aload_n 0) (len := 1) (p' := 193) (s' := [.ref 36]) rfl rfl rfl ?_
                            refine ev_x (i := .bipush 13) (len := 2) (p' := 195) (s' := [.int 13, .ref 36]) rfl rfl rfl ?_
                            obtain ⟨p_38, G_38, H⟩ := F_bd H
                            refine ev_cv (d := d + 8) (As := [.int 13]) (a := 36) (p' := 198) rfl rfl rfl ly_36 rfl rfl rfl rfl rfl rfl rfl (F_33_ok (d := d + 1) (ht := ht) (hr_36_7 := hr_36_7) G_38) ?_
                            refine ev_st (st' := [.int p_38.1]) rfl ?_
                            have e_38 := F_33_R G_38
                            obtain ⟨b_39, H⟩ := F_gd H
                            obtain rfl := Option.some.inj H
                            exact ev_iret rfl rfl rfl (fit_b b_39)
                          · refine F_if H (fun c_40 H => ?_) (fun c_40 H => ?_)
                            · refine ev_st (st' := [.int 260]) (congrArg (fun z => Value.int z :: []) c_40) ?_
                              refine ev_ls (t := 206) rfl rfl rfl (by decide) ?_
                              refine ev_x (i := .aload_n 0) (len := 1) (p' := 207) (s' := [.ref 36]) rfl rfl rfl ?_
                              refine ev_x (i := .bipush 15) (len := 2) (p' := 209) (s' := [.int 15, .ref 36]) rfl rfl rfl ?_
                              obtain ⟨p_41, G_41, H⟩ := F_bd H
                              refine ev_cv (d := d + 8) (As := [.int 15]) (a := 36) (p' := 212) rfl rfl rfl ly_36 rfl rfl rfl rfl rfl rfl rfl (F_33_ok (d := d + 1) (ht := ht) (hr_36_7 := hr_36_7) G_41) ?_
                              refine ev_st (st' := [.int p_41.1]) rfl ?_
                              have e_41 := F_33_R G_41
                              obtain ⟨b_42, H⟩ := F_gd H
                              obtain rfl := Option.some.inj H
                              exact ev_iret rfl rfl rfl (fit_b b_42)
                            · refine ev_ls (t := 238) rfl rfl rfl (ls_go ((ls_ne (i32_ne (k := 37) (by decide) c_1)).trans ((ls_ne (i32_ne (k := 38) (by decide) c_4)).trans ((ls_ne (i32_ne (k := 42) (by decide) c_7)).trans ((ls_ne (i32_ne (k := 43) (by decide) c_10)).trans ((ls_ne (i32_ne (k := 45) (by decide) c_13)).trans ((ls_ne (i32_ne (k := 47) (by decide) c_16)).trans ((ls_ne (i32_ne (k := 60) (by decide) c_19)).trans ((ls_ne (i32_ne (k := 61) (by decide) c_22)).trans ((ls_ne (i32_ne (k := 62) (by decide) c_25)).trans ((ls_ne (i32_ne (k := 63) (by decide) c_28)).trans ((ls_ne (i32_ne (k := 124) (by decide) c_31)).trans ((ls_ne (i32_ne (k := 258) (by decide) c_34)).trans ((ls_ne (i32_ne (k := 259) (by decide) c_37)).trans ((ls_ne (i32_ne (k := 260) (by decide) c_40)).trans rfl)))))))))))))) rfl) ?_
                              refine ev_x (i := .aload_n 0) (len := 1) (p' := 239) (s' := [.ref 36]) rfl rfl rfl ?_
                              obtain ⟨p_43, G_43, H⟩ := F_bd H
                              refine ev_cv (d := d + 8) (As := []) (a := 36) (p' := 242) rfl rfl rfl ly_36 rfl rfl rfl rfl rfl rfl rfl (F_37_ok (d := d + 0) (ht := ht) (hr_36_7 := hr_36_7) G_43) ?_
                              refine ev_st (st' := [.int p_43.1]) rfl ?_
                              have e_43 := F_37_R G_43
                              obtain ⟨b_44, H⟩ := F_gd H
                              obtain rfl := Option.some.inj H
                              exact ev_iret rfl rfl rfl (fit_b b_44)
/-- GameText$Parser.takesValue(II)Z -/
def F_46 (N : Nat) (t : Nat) (x_1 : Int32) (x_2 : Int32) (σ : st_S) : Option (Int32 × st_S) :=
  (F_30 N t 0 (gI σ 2 4) (-1) (-1) (-1) (σ)).bind fun p_1 =>
  if aB p_1.1 (gN p_1.2 (t + 7)) then
  if aB p_1.1 (gN p_1.2 (t + 8)) then
  (F_32 N 15 (st_e (st_e (st_i (p_1.2) 36 13 p_1.1) (t + 7) ((p_1.1 : Int32).toNatClampNeg) x_1) (t + 8) ((p_1.1 : Int32).toNatClampNeg) x_2)).bind fun p_4 =>
  if (p_4.1 = 0 ∨ p_4.1 = 1) then
  some (p_4.1, p_4.2)
  else none
  else none
  else none
set_option maxRecDepth 100000 in
theorem F_46_R {N : Nat} {t : Nat} {x_1 : Int32} {x_2 : Int32} {σ : st_S} {p : Int32 × st_S} (H : F_46 N t x_1 x_2 σ = some p) : gR p.2 = gR σ := by
  unfold F_46 at H
  obtain ⟨p_1, G_1, H⟩ := F_bd H
  obtain ⟨_, H⟩ := F_gd H
  obtain ⟨_, H⟩ := F_gd H
  obtain ⟨p_4, G_4, H⟩ := F_bd H
  obtain ⟨_, H⟩ := F_gd H
  obtain rfl := Option.some.inj H
  exact ((F_32_R G_4).trans ((F_30_R G_1).trans rfl))
set_option maxHeartbeats 4000000 in
set_option maxRecDepth 100000 in
theorem F_46_ok {N d : Nat} {t : Nat} (ht : t = 4 ∨ t = 20) {x_1 : Int32} {x_2 : Int32} {σ : st_S} {p : Int32 × st_S} (hr_36_7 : gR σ 36 7 = (t + 1)) (H : F_46 N t x_1 x_2 σ = some p) : vz_ev P0 (d + 6) 46 0 (lv_args 0 [.ref 36, .int x_1, .int x_2]) [] (hp σ) (.inl (some (.int p.1)), hp p.2) := by
  unfold F_46 at H
  rcases ht with rfl | rfl
  · refine ev_x (i := .aload_n 0) (len := 1) (p' := 1) (s' := [.ref 36]) rfl rfl rfl ?_
    refine ev_x (i := .aload_n 0) (len := 1) (p' := 2) (s' := [.ref 36, .ref 36]) rfl rfl rfl ?_
    refine ev_gr (p' := 5) (v := 5) rfl rfl rfl ly_36 rfl rfl hr_36_7 ?_
    refine ev_x (i := .iconst 0) (len := 1) (p' := 6) (s' := [.int 0, .ref 5, .ref 36]) rfl rfl rfl ?_
    refine ev_x (i := .aload_n 0) (len := 1) (p' := 7) (s' := [.ref 36, .int 0, .ref 5, .ref 36]) rfl rfl rfl ?_
    refine ev_gc (p' := 10) (v := 2) rfl rfl rfl ly_36 rfl rfl ?_
    refine ev_gi (p' := 13) (v := (gI σ 2 4)) rfl rfl rfl ly_2 rfl rfl rfl ?_
    refine ev_x (i := .iconst (-1)) (len := 1) (p' := 14) (s' := [.int (-1), .int (gI σ 2 4), .int 0, .ref 5, .ref 36]) rfl rfl rfl ?_
    refine ev_x (i := .iconst (-1)) (len := 1) (p' := 15) (s' := [.int (-1), .int (-1), .int (gI σ 2 4), .int 0, .ref 5, .ref 36]) rfl rfl rfl ?_
    refine ev_x (i := .iconst (-1)) (len := 1) (p' := 16) (s' := [.int (-1), .int (-1), .int (-1), .int (gI σ 2 4), .int 0, .ref 5, .ref 36]) rfl rfl rfl ?_
    obtain ⟨p_1, G_1, H⟩ := F_bd H
    refine ev_cv (d := d + 5) (As := [.int 0, .int (gI σ 2 4), .int (-1), .int (-1), .int (-1)]) (a := 5) (p' := 19) rfl rfl rfl ly_5 rfl rfl rfl rfl rfl rfl rfl (F_30_ok (d := d + 0) (ht := (Or.inl rfl))  G_1) ?_
    refine ev_st (st' := [.int p_1.1, .ref 36]) rfl ?_
    have e_1 := F_30_R G_1
    refine ev_pi (p' := 22) rfl rfl rfl ly_36 rfl rfl rfl rfl ?_
    refine ev_x (i := .aload_n 0) (len := 1) (p' := 23) (s' := [.ref 36]) rfl rfl rfl ?_
    refine ev_gr (p' := 26) (v := 5) rfl rfl rfl ly_36 rfl rfl ((congrFun (congrFun e_1 36) 7).trans hr_36_7) ?_
    refine ev_gc (p' := 29) (v := 11) rfl rfl rfl ly_5 rfl rfl ?_
    refine ev_x (i := .aload_n 0) (len := 1) (p' := 30) (s' := [.ref 36, .ref 11]) rfl rfl rfl ?_
    refine ev_gi (p' := 33) (v := p_1.1) rfl rfl rfl ly_36 rfl rfl rfl ?_
    refine ev_x (i := .iload_n 1) (len := 1) (p' := 34) (s' := [.int x_1, .int p_1.1, .ref 11]) rfl rfl rfl ?_
    obtain ⟨b_2, H⟩ := F_gd H
    refine ev_pa (j := (p_1.1 : Int32).toNatClampNeg) (p' := 35) rfl rfl ly_11 rfl (gd_in b_2) rfl ?_
    refine ev_x (i := .aload_n 0) (len := 1) (p' := 36) (s' := [.ref 36]) rfl rfl rfl ?_
    refine ev_gr (p' := 39) (v := 5) rfl rfl rfl ly_36 rfl rfl ((congrFun (congrFun e_1 36) 7).trans hr_36_7) ?_
    refine ev_gc (p' := 42) (v := 12) rfl rfl rfl ly_5 rfl rfl ?_
    refine ev_x (i := .aload_n 0) (len := 1) (p' := 43) (s' := [.ref 36, .ref 12]) rfl rfl rfl ?_
    refine ev_gi (p' := 46) (v := p_1.1) rfl rfl rfl ly_36 rfl rfl rfl ?_
    refine ev_x (i := .iload_n 2) (len := 1) (p' := 47) (s' := [.int x_2, .int p_1.1, .ref 12]) rfl rfl rfl ?_
    obtain ⟨b_3, H⟩ := F_gd H
    refine ev_pa (j := (p_1.1 : Int32).toNatClampNeg) (p' := 48) rfl rfl ly_12 rfl (gd_in b_3) rfl ?_
    refine ev_x (i := .aload_n 0) (len := 1) (p' := 49) (s' := [.ref 36]) rfl rfl rfl ?_
    refine ev_x (i := .bipush 15) (len := 2) (p' := 51) (s' := [.int 15, .ref 36]) rfl rfl rfl ?_
    obtain ⟨p_4, G_4, H⟩ := F_bd H
    refine ev_cv (d := d + 5) (As := [.int 15]) (a := 36) (p' := 54) rfl rfl rfl ly_36 rfl rfl rfl rfl rfl rfl rfl (F_32_ok (d := d + 4)   G_4) ?_
    refine ev_st (st' := [.int p_4.1]) rfl ?_
    have e_4 := F_32_R G_4
    obtain ⟨b_5, H⟩ := F_gd H
    obtain rfl := Option.some.inj H
    exact ev_iret rfl rfl rfl (fit_b b_5)
  · refine ev_x (i := .aload_n 0) (len := 1) (p' := 1) (s' := [.ref 36]) rfl rfl rfl ?_
    refine ev_x (i := .aload_n 0) (len := 1) (p' := 2) (s' := [.ref 36, .ref 36]) rfl rfl rfl ?_
    refine ev_gr (p' := 5) (v := 21) rfl rfl rfl ly_36 rfl rfl hr_36_7 ?_
    refine ev_x (i := .iconst 0) (len := 1) (p' := 6) (s' := [.int 0, .ref 21, .ref 36]) rfl rfl rfl ?_
    refine ev_x (i := .aload_n 0) (len := 1) (p' := 7) (s' := [.ref 36, .int 0, .ref 21, .ref 36]) rfl rfl rfl ?_
    refine ev_gc (p' := 10) (v := 2) rfl rfl rfl ly_36 rfl rfl ?_
    refine ev_gi (p' := 13) (v := (gI σ 2 4)) rfl rfl rfl ly_2 rfl rfl rfl ?_
    refine ev_x (i := .iconst (-1)) (len := 1) (p' := 14) (s' := [.int (-1), .int (gI σ 2 4), .int 0, .ref 21, .ref 36]) rfl rfl rfl ?_
    refine ev_x (i := .iconst (-1)) (len := 1) (p' := 15) (s' := [.int (-1), .int (-1), .int (gI σ 2 4), .int 0, .ref 21, .ref 36]) rfl rfl rfl ?_
    refine ev_x (i := .iconst (-1)) (len := 1) (p' := 16) (s' := [.int (-1), .int (-1), .int (-1), .int (gI σ 2 4), .int 0, .ref 21, .ref 36]) rfl rfl rfl ?_
    obtain ⟨p_1, G_1, H⟩ := F_bd H
    refine ev_cv (d := d + 5) (As := [.int 0, .int (gI σ 2 4), .int (-1), .int (-1), .int (-1)]) (a := 21) (p' := 19) rfl rfl rfl ly_21 rfl rfl rfl rfl rfl rfl rfl (F_30_ok (d := d + 0) (ht := (Or.inr rfl))  G_1) ?_
    refine ev_st (st' := [.int p_1.1, .ref 36]) rfl ?_
    have e_1 := F_30_R G_1
    refine ev_pi (p' := 22) rfl rfl rfl ly_36 rfl rfl rfl rfl ?_
    refine ev_x (i := .aload_n 0) (len := 1) (p' := 23) (s' := [.ref 36]) rfl rfl rfl ?_
    refine ev_gr (p' := 26) (v := 21) rfl rfl rfl ly_36 rfl rfl ((congrFun (congrFun e_1 36) 7).trans hr_36_7) ?_
    refine ev_gc (p' := 29) (v := 27) rfl rfl rfl ly_21 rfl rfl ?_
    refine ev_x (i := .aload_n 0) (len := 1) (p' := 30) (s' := [.ref 36, .ref 27]) rfl rfl rfl ?_
    refine ev_gi (p' := 33) (v := p_1.1) rfl rfl rfl ly_36 rfl rfl rfl ?_
    refine ev_x (i := .iload_n 1) (len := 1) (p' := 34) (s' := [.int x_1, .int p_1.1, .ref 27]) rfl rfl rfl ?_
    obtain ⟨b_2, H⟩ := F_gd H
    refine ev_pa (j := (p_1.1 : Int32).toNatClampNeg) (p' := 35) rfl rfl ly_27 rfl (gd_in b_2) rfl ?_
    refine ev_x (i := .aload_n 0) (len := 1) (p' := 36) (s' := [.ref 36]) rfl rfl rfl ?_
    refine ev_gr (p' := 39) (v := 21) rfl rfl rfl ly_36 rfl rfl ((congrFun (congrFun e_1 36) 7).trans hr_36_7) ?_
    refine ev_gc (p' := 42) (v := 28) rfl rfl rfl ly_21 rfl rfl ?_
    refine ev_x (i := .aload_n 0) (len := 1) (p' := 43) (s' := [.ref 36, .ref 28]) rfl rfl rfl ?_
    refine ev_gi (p' := 46) (v := p_1.1) rfl rfl rfl ly_36 rfl rfl rfl ?_
    refine ev_x (i := .iload_n 2) (len := 1) (p' := 47) (s' := [.int x_2, .int p_1.1, .ref 28]) rfl rfl rfl ?_
    obtain ⟨b_3, H⟩ := F_gd H
    refine ev_pa (j := (p_1.1 : Int32).toNatClampNeg) (p' := 48) rfl rfl ly_28 rfl (gd_in b_3) rfl ?_
    refine ev_x (i := .aload_n 0) (len := 1) (p' := 49) (s' := [.ref 36]) rfl rfl rfl ?_
    refine ev_x (i := .bipush 15) (len := 2) (p' := 51) (s' := [.int 15, .ref 36]) rfl rfl rfl ?_
    obtain ⟨p_4, G_4, H⟩ := F_bd H
    refine ev_cv (d := d + 5) (As := [.int 15]) (a := 36) (p' := 54) rfl rfl rfl ly_36 rfl rfl rfl rfl rfl rfl rfl (F_32_ok (d := d + 4)   G_4) ?_
    refine ev_st (st' := [.int p_4.1]) rfl ?_
    have e_4 := F_32_R G_4
    obtain ⟨b_5, H⟩ := F_gd H
    obtain rfl := Option.some.inj H
    exact ev_iret rfl rfl rfl (fit_b b_5)
/-- GameText$Parser.takesOperand()Z, from 18 -/
def J_45_18 (N : Nat) (t : Nat) (σ : st_S) : Option (Int32 × st_S) :=
  if (gI σ 2 3) = 33 then
    (F_29 N (σ)).bind fun p_3 =>
    if 4 < p_3.1 then
      some (0, p_3.2)
    else
      (F_36 N (p_3.2)).bind fun p_5 =>
      if p_5.1 = 0 then
        some (0, p_5.2)
      else
        (F_31 N 16 (-1) (p_5.2)).bind fun p_7 =>
        some ((if p_7.1 = 0 then 0 else 1 : Int32), p_7.2)
  else
  if (gI σ 2 3) = 40 then
    (F_36 N (σ)).bind fun p_10 =>
    if p_10.1 = 0 then
      some (0, p_10.2)
    else
      (F_31 N 35 (-1) (p_10.2)).bind fun p_12 =>
      some ((if p_12.1 = 0 then 0 else 1 : Int32), p_12.2)
  else
  if (gI σ 2 3) = 45 then
    (F_36 N (σ)).bind fun p_15 =>
    if p_15.1 = 0 then
      some (0, p_15.2)
    else
      (F_31 N 9 (-1) (p_15.2)).bind fun p_17 =>
      some ((if p_17.1 = 0 then 0 else 1 : Int32), p_17.2)
  else
  if (gI σ 2 3) = 261 then
    (F_30 N t 1 (gI σ 2 4) (gI σ 2 4) (gI σ 2 5) (-1) (σ)).bind fun p_20 =>
    (F_32 N 15 (st_i (p_20.2) 36 13 p_20.1)).bind fun p_21 =>
    if (p_21.1 = 0 ∨ p_21.1 = 1) then
    some (p_21.1, p_21.2)
    else none
  else
  if (gI σ 2 3) = 262 then
    (F_46 N t 1 (gI σ 2 6) (σ)).bind fun p_24 =>
    if (p_24.1 = 0 ∨ p_24.1 = 1) then
    some (p_24.1, p_24.2)
    else none
  else
  if (gI σ 2 3) = 309 then
    (F_46 N t 2 1 (σ)).bind fun p_27 =>
    if (p_27.1 = 0 ∨ p_27.1 = 1) then
    some (p_27.1, p_27.2)
    else none
  else
  if (gI σ 2 3) = 310 then
    (F_46 N t 2 0 (σ)).bind fun p_30 =>
    if (p_30.1 = 0 ∨ p_30.1 = 1) then
    some (p_30.1, p_30.2)
    else none
  else
  if (gI σ 2 3) = 311 then
    (F_31 N 20 (-1) (σ)).bind fun p_33 =>
    if p_33.1 = 0 then
      some (0, p_33.2)
    else
      (F_32 N 13 (p_33.2)).bind fun p_35 =>
      some ((if p_35.1 = 0 then 0 else 1 : Int32), p_35.2)
  else
  if (gI σ 2 3) = 312 then
    (F_31 N 21 (-1) (σ)).bind fun p_38 =>
    if p_38.1 = 0 then
      some (0, p_38.2)
    else
      (F_32 N 13 (p_38.2)).bind fun p_40 =>
      some ((if p_40.1 = 0 then 0 else 1 : Int32), p_40.2)
  else
    some (0, σ)
set_option maxRecDepth 100000 in
theorem J_45_18_R {N : Nat} {t : Nat} {σ : st_S} {p : Int32 × st_S} (H : J_45_18 N t σ = some p) : gR p.2 = gR σ := by
  unfold J_45_18 at H
  refine F_if H (fun _ H => ?_) (fun _ H => ?_)
  · obtain ⟨p_3, G_3, H⟩ := F_bd H
    refine F_if H (fun _ H => ?_) (fun _ H => ?_)
    · obtain rfl := Option.some.inj H
      exact ((F_29_R G_3).trans rfl)
    · obtain ⟨p_5, G_5, H⟩ := F_bd H
      refine F_if H (fun _ H => ?_) (fun _ H => ?_)
      · obtain rfl := Option.some.inj H
        exact ((F_36_R G_5).trans ((F_29_R G_3).trans rfl))
      · obtain ⟨p_7, G_7, H⟩ := F_bd H
        obtain rfl := Option.some.inj H
        exact ((F_31_R G_7).trans ((F_36_R G_5).trans ((F_29_R G_3).trans rfl)))
  · refine F_if H (fun _ H => ?_) (fun _ H => ?_)
    · obtain ⟨p_10, G_10, H⟩ := F_bd H
      refine F_if H (fun _ H => ?_) (fun _ H => ?_)
      · obtain rfl := Option.some.inj H
        exact ((F_36_R G_10).trans rfl)
      · obtain ⟨p_12, G_12, H⟩ := F_bd H
        obtain rfl := Option.some.inj H
        exact ((F_31_R G_12).trans ((F_36_R G_10).trans rfl))
    · refine F_if H (fun _ H => ?_) (fun _ H => ?_)
      · obtain ⟨p_15, G_15, H⟩ := F_bd H
        refine F_if H (fun _ H => ?_) (fun _ H => ?_)
        · obtain rfl := Option.some.inj H
          exact ((F_36_R G_15).trans rfl)
        · obtain ⟨p_17, G_17, H⟩ := F_bd H
          obtain rfl := Option.some.inj H
          exact ((F_31_R G_17).trans ((F_36_R G_15).trans rfl))
      · refine F_if H (fun _ H => ?_) (fun _ H => ?_)
        · obtain ⟨p_20, G_20, H⟩ := F_bd H
          obtain ⟨p_21, G_21, H⟩ := F_bd H
          obtain ⟨_, H⟩ := F_gd H
          obtain rfl := Option.some.inj H
          exact ((F_32_R G_21).trans ((F_30_R G_20).trans rfl))
        · refine F_if H (fun _ H => ?_) (fun _ H => ?_)
          · obtain ⟨p_24, G_24, H⟩ := F_bd H
            obtain ⟨_, H⟩ := F_gd H
            obtain rfl := Option.some.inj H
            exact ((F_46_R G_24).trans rfl)
          · refine F_if H (fun _ H => ?_) (fun _ H => ?_)
            · obtain ⟨p_27, G_27, H⟩ := F_bd H
              obtain ⟨_, H⟩ := F_gd H
              obtain rfl := Option.some.inj H
              exact ((F_46_R G_27).trans rfl)
            · refine F_if H (fun _ H => ?_) (fun _ H => ?_)
              · obtain ⟨p_30, G_30, H⟩ := F_bd H
                obtain ⟨_, H⟩ := F_gd H
                obtain rfl := Option.some.inj H
                exact ((F_46_R G_30).trans rfl)
              · refine F_if H (fun _ H => ?_) (fun _ H => ?_)
                · obtain ⟨p_33, G_33, H⟩ := F_bd H
                  refine F_if H (fun _ H => ?_) (fun _ H => ?_)
                  · obtain rfl := Option.some.inj H
                    exact ((F_31_R G_33).trans rfl)
                  · obtain ⟨p_35, G_35, H⟩ := F_bd H
                    obtain rfl := Option.some.inj H
                    exact ((F_32_R G_35).trans ((F_31_R G_33).trans rfl))
                · refine F_if H (fun _ H => ?_) (fun _ H => ?_)
                  · obtain ⟨p_38, G_38, H⟩ := F_bd H
                    refine F_if H (fun _ H => ?_) (fun _ H => ?_)
                    · obtain rfl := Option.some.inj H
                      exact ((F_31_R G_38).trans rfl)
                    · obtain ⟨p_40, G_40, H⟩ := F_bd H
                      obtain rfl := Option.some.inj H
                      exact ((F_32_R G_40).trans ((F_31_R G_38).trans rfl))
                  · obtain rfl := Option.some.inj H
                    exact rfl
set_option maxHeartbeats 4000000 in
set_option maxRecDepth 100000 in
theorem J_45_18_ok {N d : Nat} {t : Nat} (ht : t = 4 ∨ t = 20) {σ : st_S} {lv : vz_L} {p : Int32 × st_S} (g_0 : vz_g lv 0 = some (.ref 36)) (hnb : vz_nbL (vz_gr P0) lv = true) (hr_36_7 : gR σ 36 7 = (t + 1)) (H : J_45_18 N t σ = some p) : vz_ev P0 (d + 7) 45 18 lv [] (hp σ) (.inl (some (.int p.1)), hp p.2) := by
  unfold J_45_18 at H
  rcases ht with rfl | rfl
  · refine ev_x (i := .aload_n 0) (len := 1) (p' := 19) (s' := [.ref 36]) rfl rfl (ld_a g_0) ?_
    refine ev_gc (p' := 22) (v := 2) rfl rfl rfl ly_36 rfl rfl ?_
    refine ev_gi (p' := 25) (v := (gI σ 2 3)) rfl rfl rfl ly_2 rfl rfl rfl ?_
    refine F_if H (fun c_2 H => ?_) (fun c_2 H => ?_)
    · refine ev_st (st' := [.int 33]) (congrArg (fun z => Value.int z :: []) c_2) ?_
      refine ev_ls (t := 222) rfl rfl rfl (by decide) ?_
      refine ev_x (i := .aload_n 0) (len := 1) (p' := 223) (s' := [.ref 36]) rfl rfl (ld_a g_0) ?_
      obtain ⟨p_3, G_3, H⟩ := F_bd H
      refine ev_cv (d := d + 6) (As := []) (a := 36) (p' := 226) rfl rfl rfl ly_36 rfl rfl rfl rfl rfl hnb rfl (F_29_ok (d := d + 5)   G_3) ?_
      refine ev_st (st' := [.int p_3.1]) rfl ?_
      have e_3 := F_29_R G_3
      refine ev_x (i := .iconst 4) (len := 1) (p' := 227) (s' := [.int 4, .int p_3.1]) rfl rfl rfl ?_
      refine F_if H (fun c_4 H => ?_) (fun c_4 H => ?_)
      · refine ev_b2 (t := 251) (p' := 251) rfl rfl rfl (if_pos c_4) ?_
        refine ev_x (i := .iconst 0) (len := 1) (p' := 252) (s' := [.int 0]) rfl rfl rfl ?_
        obtain rfl := Option.some.inj H
        exact ev_iret rfl rfl rfl rfl
      · refine ev_b2 (t := 251) (p' := 230) rfl rfl rfl (if_neg c_4) ?_
        refine ev_x (i := .aload_n 0) (len := 1) (p' := 231) (s' := [.ref 36]) rfl rfl (ld_a g_0) ?_
        obtain ⟨p_5, G_5, H⟩ := F_bd H
        refine ev_cv (d := d + 6) (As := []) (a := 36) (p' := 234) rfl rfl rfl ly_36 rfl rfl rfl rfl rfl hnb rfl (F_36_ok (d := d + 5)   G_5) ?_
        refine ev_st (st' := [.int p_5.1]) rfl ?_
        have e_5 := F_36_R G_5
        refine F_if H (fun c_6 H => ?_) (fun c_6 H => ?_)
        · refine ev_b0 (t := 251) (p' := 251) rfl rfl rfl (if_pos c_6) ?_
          refine ev_x (i := .iconst 0) (len := 1) (p' := 252) (s' := [.int 0]) rfl rfl rfl ?_
          obtain rfl := Option.some.inj H
          exact ev_iret rfl rfl rfl rfl
        · refine ev_b0 (t := 251) (p' := 237) rfl rfl rfl (if_neg c_6) ?_
          refine ev_x (i := .aload_n 0) (len := 1) (p' := 238) (s' := [.ref 36]) rfl rfl (ld_a g_0) ?_
          refine ev_x (i := .bipush 16) (len := 2) (p' := 240) (s' := [.int 16, .ref 36]) rfl rfl rfl ?_
          refine ev_x (i := .iconst (-1)) (len := 1) (p' := 241) (s' := [.int (-1), .int 16, .ref 36]) rfl rfl rfl ?_
          obtain ⟨p_7, G_7, H⟩ := F_bd H
          refine ev_cv (d := d + 6) (As := [.int 16, .int (-1)]) (a := 36) (p' := 244) rfl rfl rfl ly_36 rfl rfl rfl rfl rfl hnb rfl (F_31_ok (d := d + 4)   G_7) ?_
          refine ev_st (st' := [.int p_7.1]) rfl ?_
          have e_7 := F_31_R G_7
          refine F_jn (A := vz_ev P0 (d + 7) 45 252 (lv) [.int (if p_7.1 = 0 then 0 else 1 : Int32)] (hp (p_7.2)) (.inl (some (.int p.1)), hp p.2)) ?_ (fun J => ?_)
          · obtain rfl := Option.some.inj H
            exact ev_iret rfl rfl rfl (fit_b (by (repeat' split) <;> decide))
          · by_cases c_8 : p_7.1 = 0
            · refine ev_b0 (t := 251) (p' := 251) rfl rfl rfl (if_pos c_8) ?_
              refine ev_x (i := .iconst 0) (len := 1) (p' := 252) (s' := [.int 0]) rfl rfl rfl ?_
              exact ev_st (congrArg (fun z => Value.int z :: []) (by rw [if_pos c_8])) J
            · refine ev_b0 (t := 251) (p' := 247) rfl rfl rfl (if_neg c_8) ?_
              refine ev_x (i := .iconst 1) (len := 1) (p' := 248) (s' := [.int 1]) rfl rfl rfl ?_
              refine ev_x (i := .goto 4) (len := 3) (p' := 252) (s' := [.int 1]) rfl rfl rfl ?_
              exact ev_st (congrArg (fun z => Value.int z :: []) (by rw [if_neg c_8])) J
    · refine F_if H (fun c_9 H => ?_) (fun c_9 H => ?_)
      · refine ev_st (st' := [.int 40]) (congrArg (fun z => Value.int z :: []) c_9) ?_
        refine ev_ls (t := 176) rfl rfl rfl (by decide) ?_
        refine ev_x (i := .aload_n 0) (len := 1) (p' := 177) (s' := [.ref 36]) rfl rfl (ld_a g_0) ?_
        obtain ⟨p_10, G_10, H⟩ := F_bd H
        refine ev_cv (d := d + 6) (As := []) (a := 36) (p' := 180) rfl rfl rfl ly_36 rfl rfl rfl rfl rfl hnb rfl (F_36_ok (d := d + 5)   G_10) ?_
        refine ev_st (st' := [.int p_10.1]) rfl ?_
        have e_10 := F_36_R G_10
        refine F_if H (fun c_11 H => ?_) (fun c_11 H => ?_)
        · refine ev_b0 (t := 197) (p' := 197) rfl rfl rfl (if_pos c_11) ?_
          refine ev_x (i := .iconst 0) (len := 1) (p' := 198) (s' := [.int 0]) rfl rfl rfl ?_
          obtain rfl := Option.some.inj H
          exact ev_iret rfl rfl rfl rfl
        · refine ev_b0 (t := 197) (p' := 183) rfl rfl rfl (if_neg c_11) ?_
          refine ev_x (i := .aload_n 0) (len := 1) (p' := 184) (s' := [.ref 36]) rfl rfl (ld_a g_0) ?_
          refine ev_x (i := .bipush 35) (len := 2) (p' := 186) (s' := [.int 35, .ref 36]) rfl rfl rfl ?_
          refine ev_x (i := .iconst (-1)) (len := 1) (p' := 187) (s' := [.int (-1), .int 35, .ref 36]) rfl rfl rfl ?_
          obtain ⟨p_12, G_12, H⟩ := F_bd H
          refine ev_cv (d := d + 6) (As := [.int 35, .int (-1)]) (a := 36) (p' := 190) rfl rfl rfl ly_36 rfl rfl rfl rfl rfl hnb rfl (F_31_ok (d := d + 4)   G_12) ?_
          refine ev_st (st' := [.int p_12.1]) rfl ?_
          have e_12 := F_31_R G_12
          refine F_jn (A := vz_ev P0 (d + 7) 45 198 (lv) [.int (if p_12.1 = 0 then 0 else 1 : Int32)] (hp (p_12.2)) (.inl (some (.int p.1)), hp p.2)) ?_ (fun J => ?_)
          · obtain rfl := Option.some.inj H
            exact ev_iret rfl rfl rfl (fit_b (by (repeat' split) <;> decide))
          · by_cases c_13 : p_12.1 = 0
            · refine ev_b0 (t := 197) (p' := 197) rfl rfl rfl (if_pos c_13) ?_
              refine ev_x (i := .iconst 0) (len := 1) (p' := 198) (s' := [.int 0]) rfl rfl rfl ?_
              exact ev_st (congrArg (fun z => Value.int z :: []) (by rw [if_pos c_13])) J
            · refine ev_b0 (t := 197) (p' := 193) rfl rfl rfl (if_neg c_13) ?_
              refine ev_x (i := .iconst 1) (len := 1) (p' := 194) (s' := [.int 1]) rfl rfl rfl ?_
              refine ev_x (i := .goto 4) (len := 3) (p' := 198) (s' := [.int 1]) rfl rfl rfl ?_
              exact ev_st (congrArg (fun z => Value.int z :: []) (by rw [if_neg c_13])) J
      · refine F_if H (fun c_14 H => ?_) (fun c_14 H => ?_)
        · refine ev_st (st' := [.int 45]) (congrArg (fun z => Value.int z :: []) c_14) ?_
          refine ev_ls (t := 199) rfl rfl rfl (by decide) ?_
          refine ev_x (i := .aload_n 0) (len := 1) (p' := 200) (s' := [.ref 36]) rfl rfl (ld_a g_0) ?_
          obtain ⟨p_15, G_15, H⟩ := F_bd H
          refine ev_cv (d := d + 6) (As := []) (a := 36) (p' := 203) rfl rfl rfl ly_36 rfl rfl rfl rfl rfl hnb rfl (F_36_ok (d := d + 5)   G_15) ?_
          refine ev_st (st' := [.int p_15.1]) rfl ?_
          have e_15 := F_36_R G_15
          refine F_if H (fun c_16 H => ?_) (fun c_16 H => ?_)
          · refine ev_b0 (t := 220) (p' := 220) rfl rfl rfl (if_pos c_16) ?_
            refine ev_x (i := .iconst 0) (len := 1) (p' := 221) (s' := [.int 0]) rfl rfl rfl ?_
            obtain rfl := Option.some.inj H
            exact ev_iret rfl rfl rfl rfl
          · refine ev_b0 (t := 220) (p' := 206) rfl rfl rfl (if_neg c_16) ?_
            refine ev_x (i := .aload_n 0) (len := 1) (p' := 207) (s' := [.ref 36]) rfl rfl (ld_a g_0) ?_
            refine ev_x (i := .bipush 9) (len := 2) (p' := 209) (s' := [.int 9, .ref 36]) rfl rfl rfl ?_
            refine ev_x (i := .iconst (-1)) (len := 1) (p' := 210) (s' := [.int (-1), .int 9, .ref 36]) rfl rfl rfl ?_
            obtain ⟨p_17, G_17, H⟩ := F_bd H
            refine ev_cv (d := d + 6) (As := [.int 9, .int (-1)]) (a := 36) (p' := 213) rfl rfl rfl ly_36 rfl rfl rfl rfl rfl hnb rfl (F_31_ok (d := d + 4)   G_17) ?_
            refine ev_st (st' := [.int p_17.1]) rfl ?_
            have e_17 := F_31_R G_17
            refine F_jn (A := vz_ev P0 (d + 7) 45 221 (lv) [.int (if p_17.1 = 0 then 0 else 1 : Int32)] (hp (p_17.2)) (.inl (some (.int p.1)), hp p.2)) ?_ (fun J => ?_)
            · obtain rfl := Option.some.inj H
              exact ev_iret rfl rfl rfl (fit_b (by (repeat' split) <;> decide))
            · by_cases c_18 : p_17.1 = 0
              · refine ev_b0 (t := 220) (p' := 220) rfl rfl rfl (if_pos c_18) ?_
                refine ev_x (i := .iconst 0) (len := 1) (p' := 221) (s' := [.int 0]) rfl rfl rfl ?_
                exact ev_st (congrArg (fun z => Value.int z :: []) (by rw [if_pos c_18])) J
              · refine ev_b0 (t := 220) (p' := 216) rfl rfl rfl (if_neg c_18) ?_
                refine ev_x (i := .iconst 1) (len := 1) (p' := 217) (s' := [.int 1]) rfl rfl rfl ?_
                refine ev_x (i := .goto 4) (len := 3) (p' := 221) (s' := [.int 1]) rfl rfl rfl ?_
                exact ev_st (congrArg (fun z => Value.int z :: []) (by rw [if_neg c_18])) J
        · refine F_if H (fun c_19 H => ?_) (fun c_19 H => ?_)
          · refine ev_st (st' := [.int 261]) (congrArg (fun z => Value.int z :: []) c_19) ?_
            refine ev_ls (t := 135) rfl rfl rfl (by decide) ?_
            refine ev_x (i := .aload_n 0) (len := 1) (p' := 136) (s' := [.ref 36]) rfl rfl (ld_a g_0) ?_
            refine ev_x (i := .aload_n 0) (len := 1) (p' := 137) (s' := [.ref 36, .ref 36]) rfl rfl (ld_a g_0) ?_
            refine ev_gr (p' := 140) (v := 5) rfl rfl rfl ly_36 rfl rfl hr_36_7 ?_
            refine ev_x (i := .iconst 1) (len := 1) (p' := 141) (s' := [.int 1, .ref 5, .ref 36]) rfl rfl rfl ?_
            refine ev_x (i := .aload_n 0) (len := 1) (p' := 142) (s' := [.ref 36, .int 1, .ref 5, .ref 36]) rfl rfl (ld_a g_0) ?_
            refine ev_gc (p' := 145) (v := 2) rfl rfl rfl ly_36 rfl rfl ?_
            refine ev_gi (p' := 148) (v := (gI σ 2 4)) rfl rfl rfl ly_2 rfl rfl rfl ?_
            refine ev_x (i := .aload_n 0) (len := 1) (p' := 149) (s' := [.ref 36, .int (gI σ 2 4), .int 1, .ref 5, .ref 36]) rfl rfl (ld_a g_0) ?_
            refine ev_gc (p' := 152) (v := 2) rfl rfl rfl ly_36 rfl rfl ?_
            refine ev_gi (p' := 155) (v := (gI σ 2 4)) rfl rfl rfl ly_2 rfl rfl rfl ?_
            refine ev_x (i := .aload_n 0) (len := 1) (p' := 156) (s' := [.ref 36, .int (gI σ 2 4), .int (gI σ 2 4), .int 1, .ref 5, .ref 36]) rfl rfl (ld_a g_0) ?_
            refine ev_gc (p' := 159) (v := 2) rfl rfl rfl ly_36 rfl rfl ?_
            refine ev_gi (p' := 162) (v := (gI σ 2 5)) rfl rfl rfl ly_2 rfl rfl rfl ?_
            refine ev_x (i := .iconst (-1)) (len := 1) (p' := 163) (s' := [.int (-1), .int (gI σ 2 5), .int (gI σ 2 4), .int (gI σ 2 4), .int 1, .ref 5, .ref 36]) rfl rfl rfl ?_
            obtain ⟨p_20, G_20, H⟩ := F_bd H
            refine ev_cv (d := d + 6) (As := [.int 1, .int (gI σ 2 4), .int (gI σ 2 4), .int (gI σ 2 5), .int (-1)]) (a := 5) (p' := 166) rfl rfl rfl ly_5 rfl rfl rfl rfl rfl hnb rfl (F_30_ok (d := d + 1) (ht := (Or.inl rfl))  G_20) ?_
            refine ev_st (st' := [.int p_20.1, .ref 36]) rfl ?_
            have e_20 := F_30_R G_20
            refine ev_pi (p' := 169) rfl rfl rfl ly_36 rfl rfl rfl rfl ?_
            refine ev_x (i := .aload_n 0) (len := 1) (p' := 170) (s' := [.ref 36]) rfl rfl (ld_a g_0) ?_
            refine ev_x (i := .bipush 15) (len := 2) (p' := 172) (s' := [.int 15, .ref 36]) rfl rfl rfl ?_
            obtain ⟨p_21, G_21, H⟩ := F_bd H
            refine ev_cv (d := d + 6) (As := [.int 15]) (a := 36) (p' := 175) rfl rfl rfl ly_36 rfl rfl rfl rfl rfl hnb rfl (F_32_ok (d := d + 5)   G_21) ?_
            refine ev_st (st' := [.int p_21.1]) rfl ?_
            have e_21 := F_32_R G_21
            obtain ⟨b_22, H⟩ := F_gd H
            obtain rfl := Option.some.inj H
            exact ev_iret rfl rfl rfl (fit_b b_22)
          · refine F_if H (fun c_23 H => ?_) (fun c_23 H => ?_)
            · refine ev_st (st' := [.int 262]) (congrArg (fun z => Value.int z :: []) c_23) ?_
              refine ev_ls (t := 108) rfl rfl rfl (by decide) ?_
              refine ev_x (i := .aload_n 0) (len := 1) (p' := 109) (s' := [.ref 36]) rfl rfl (ld_a g_0) ?_
              refine ev_x (i := .iconst 1) (len := 1) (p' := 110) (s' := [.int 1, .ref 36]) rfl rfl rfl ?_
              refine ev_x (i := .aload_n 0) (len := 1) (p' := 111) (s' := [.ref 36, .int 1, .ref 36]) rfl rfl (ld_a g_0) ?_
              refine ev_gc (p' := 114) (v := 2) rfl rfl rfl ly_36 rfl rfl ?_
              refine ev_gi (p' := 117) (v := (gI σ 2 6)) rfl rfl rfl ly_2 rfl rfl rfl ?_
              obtain ⟨p_24, G_24, H⟩ := F_bd H
              refine ev_cv (d := d + 6) (As := [.int 1, .int (gI σ 2 6)]) (a := 36) (p' := 120) rfl rfl rfl ly_36 rfl rfl rfl rfl rfl hnb rfl (F_46_ok (d := d + 0) (ht := (Or.inl rfl)) (hr_36_7 := hr_36_7) G_24) ?_
              refine ev_st (st' := [.int p_24.1]) rfl ?_
              have e_24 := F_46_R G_24
              obtain ⟨b_25, H⟩ := F_gd H
              obtain rfl := Option.some.inj H
              exact ev_iret rfl rfl rfl (fit_b b_25)
            · refine F_if H (fun c_26 H => ?_) (fun c_26 H => ?_)
              · refine ev_st (st' := [.int 309]) (congrArg (fun z => Value.int z :: []) c_26) ?_
                refine ev_ls (t := 121) rfl rfl rfl (by decide) ?_
                refine ev_x (i := .aload_n 0) (len := 1) (p' := 122) (s' := [.ref 36]) rfl rfl (ld_a g_0) ?_
                refine ev_x (i := .iconst 2) (len := 1) (p' := 123) (s' := [.int 2, .ref 36]) rfl rfl rfl ?_
                refine ev_x (i := .iconst 1) (len := 1) (p' := 124) (s' := [.int 1, .int 2, .ref 36]) rfl rfl rfl ?_
                obtain ⟨p_27, G_27, H⟩ := F_bd H
                refine ev_cv (d := d + 6) (As := [.int 2, .int 1]) (a := 36) (p' := 127) rfl rfl rfl ly_36 rfl rfl rfl rfl rfl hnb rfl (F_46_ok (d := d + 0) (ht := (Or.inl rfl)) (hr_36_7 := hr_36_7) G_27) ?_
                refine ev_st (st' := [.int p_27.1]) rfl ?_
                have e_27 := F_46_R G_27
                obtain ⟨b_28, H⟩ := F_gd H
                obtain rfl := Option.some.inj H
                exact ev_iret rfl rfl rfl (fit_b b_28)
              · refine F_if H (fun c_29 H => ?_) (fun c_29 H => ?_)
                · refine ev_st (st' := [.int 310]) (congrArg (fun z => Value.int z :: []) c_29) ?_
                  refine ev_ls (t := 128) rfl rfl rfl (by decide) ?_
                  refine ev_x (i := .aload_n 0) (len := 1) (p' := 129) (s' := [.ref 36]) rfl rfl (ld_a g_0) ?_
                  refine ev_x (i := .iconst 2) (len := 1) (p' := 130) (s' := [.int 2, .ref 36]) rfl rfl rfl ?_
                  refine ev_x (i := .iconst 0) (len := 1) (p' := 131) (s' := [.int 0, .int 2, .ref 36]) rfl rfl rfl ?_
                  obtain ⟨p_30, G_30, H⟩ := F_bd H
                  refine ev_cv (d := d + 6) (As := [.int 2, .int 0]) (a := 36) (p' := 134) rfl rfl rfl ly_36 rfl rfl rfl rfl rfl hnb rfl (F_46_ok (d := d + 0) (ht := (Or.inl rfl)) (hr_36_7 := hr_36_7) G_30) ?_
                  refine ev_st (st' := [.int p_30.1]) rfl ?_
                  have e_30 := F_46_R G_30
                  obtain ⟨b_31, H⟩ := F_gd H
                  obtain rfl := Option.some.inj H
                  exact ev_iret rfl rfl rfl (fit_b b_31)
                · refine F_if H (fun c_32 H => ?_) (fun c_32 H => ?_)
                  · refine ev_st (st' := [.int 311]) (congrArg (fun z => Value.int z :: []) c_32) ?_
                    refine ev_ls (t := 253) rfl rfl rfl (by decide) ?_
                    refine ev_x (i := .aload_n 0) (len := 1) (p' := 254) (s' := [.ref 36]) rfl rfl (ld_a g_0) ?_
                    refine ev_x (i := .bipush 20) (len := 2) (p' := 256) (s' := [.int 20, .ref 36]) rfl rfl rfl ?_
                    refine ev_x (i := .iconst (-1)) (len := 1) (p' := 257) (s' := [.int (-1), .int 20, .ref 36]) rfl rfl rfl ?_
                    obtain ⟨p_33, G_33, H⟩ := F_bd H
                    refine ev_cv (d := d + 6) (As := [.int 20, .int (-1)]) (a := 36) (p' := 260) rfl rfl rfl ly_36 rfl rfl rfl rfl rfl hnb rfl (F_31_ok (d := d + 4)   G_33) ?_
                    refine ev_st (st' := [.int p_33.1]) rfl ?_
                    have e_33 := F_31_R G_33
                    refine F_if H (fun c_34 H => ?_) (fun c_34 H => ?_)
                    · refine ev_b0 (t := 276) (p' := 276) rfl rfl rfl (if_pos c_34) ?_
                      refine ev_x (i := .iconst 0) (len := 1) (p' := 277) (s' := [.int 0]) rfl rfl rfl ?_
                      obtain rfl := Option.some.inj H
                      exact ev_iret rfl rfl rfl rfl
                    · refine ev_b0 (t := 276) (p' := 263) rfl rfl rfl (if_neg c_34) ?_
                      refine ev_x (i := .aload_n 0) (len := 1) (p' := 264) (s' := [.ref 36]) rfl rfl (ld_a g_0) ?_
                      refine ev_x (i := .bipush 13) (len := 2) (p' := 266) (s' := [.int 13, .ref 36]) rfl rfl rfl ?_
                      obtain ⟨p_35, G_35, H⟩ := F_bd H
                      refine ev_cv (d := d + 6) (As := [.int 13]) (a := 36) (p' := 269) rfl rfl rfl ly_36 rfl rfl rfl rfl rfl hnb rfl (F_32_ok (d := d + 5)   G_35) ?_
                      refine ev_st (st' := [.int p_35.1]) rfl ?_
                      have e_35 := F_32_R G_35
                      refine F_jn (A := vz_ev P0 (d + 7) 45 277 (lv) [.int (if p_35.1 = 0 then 0 else 1 : Int32)] (hp (p_35.2)) (.inl (some (.int p.1)), hp p.2)) ?_ (fun J => ?_)
                      · obtain rfl := Option.some.inj H
                        exact ev_iret rfl rfl rfl (fit_b (by (repeat' split) <;> decide))
                      · by_cases c_36 : p_35.1 = 0
                        · refine ev_b0 (t := 276) (p' := 276) rfl rfl rfl (if_pos c_36) ?_
                          refine ev_x (i := .iconst 0) (len := 1) (p' := 277) (s' := [.int 0]) rfl rfl rfl ?_
                          exact ev_st (congrArg (fun z => Value.int z :: []) (by rw [if_pos c_36])) J
                        · refine ev_b0 (t := 276) (p' := 272) rfl rfl rfl (if_neg c_36) ?_
                          refine ev_x (i := .iconst 1) (len := 1) (p' := 273) (s' := [.int 1]) rfl rfl rfl ?_
                          refine ev_x (i := .goto 4) (len := 3) (p' := 277) (s' := [.int 1]) rfl rfl rfl ?_
                          exact ev_st (congrArg (fun z => Value.int z :: []) (by rw [if_neg c_36])) J
                  · refine F_if H (fun c_37 H => ?_) (fun c_37 H => ?_)
                    · refine ev_st (st' := [.int 312]) (congrArg (fun z => Value.int z :: []) c_37) ?_
                      refine ev_ls (t := 278) rfl rfl rfl (by decide) ?_
                      refine ev_x (i := .aload_n 0) (len := 1) (p' := 279) (s' := [.ref 36]) rfl rfl (ld_a g_0) ?_
                      refine ev_x (i := .bipush 21) (len := 2) (p' := 281) (s' := [.int 21, .ref 36]) rfl rfl rfl ?_
                      refine ev_x (i := .iconst (-1)) (len := 1) (p' := 282) (s' := [.int (-1), .int 21, .ref 36]) rfl rfl rfl ?_
                      obtain ⟨p_38, G_38, H⟩ := F_bd H
                      refine ev_cv (d := d + 6) (As := [.int 21, .int (-1)]) (a := 36) (p' := 285) rfl rfl rfl ly_36 rfl rfl rfl rfl rfl hnb rfl (F_31_ok (d := d + 4)   G_38) ?_
                      refine ev_st (st' := [.int p_38.1]) rfl ?_
                      have e_38 := F_31_R G_38
                      refine F_if H (fun c_39 H => ?_) (fun c_39 H => ?_)
                      · refine ev_b0 (t := 301) (p' := 301) rfl rfl rfl (if_pos c_39) ?_
                        refine ev_x (i := .iconst 0) (len := 1) (p' := 302) (s' := [.int 0]) rfl rfl rfl ?_
                        obtain rfl := Option.some.inj H
                        exact ev_iret rfl rfl rfl rfl
                      · refine ev_b0 (t := 301) (p' := 288) rfl rfl rfl (if_neg c_39) ?_
                        refine ev_x (i := .aload_n 0) (len := 1) (p' := 289) (s' := [.ref 36]) rfl rfl (ld_a g_0) ?_
                        refine ev_x (i := .bipush 13) (len := 2) (p' := 291) (s' := [.int 13, .ref 36]) rfl rfl rfl ?_
                        obtain ⟨p_40, G_40, H⟩ := F_bd H
                        refine ev_cv (d := d + 6) (As := [.int 13]) (a := 36) (p' := 294) rfl rfl rfl ly_36 rfl rfl rfl rfl rfl hnb rfl (F_32_ok (d := d + 5)   G_40) ?_
                        refine ev_st (st' := [.int p_40.1]) rfl ?_
                        have e_40 := F_32_R G_40
                        refine F_jn (A := vz_ev P0 (d + 7) 45 302 (lv) [.int (if p_40.1 = 0 then 0 else 1 : Int32)] (hp (p_40.2)) (.inl (some (.int p.1)), hp p.2)) ?_ (fun J => ?_)
                        · obtain rfl := Option.some.inj H
                          exact ev_iret rfl rfl rfl (fit_b (by (repeat' split) <;> decide))
                        · by_cases c_41 : p_40.1 = 0
                          · refine ev_b0 (t := 301) (p' := 301) rfl rfl rfl (if_pos c_41) ?_
                            refine ev_x (i := .iconst 0) (len := 1) (p' := 302) (s' := [.int 0]) rfl rfl rfl ?_
                            exact ev_st (congrArg (fun z => Value.int z :: []) (by rw [if_pos c_41])) J
                          · refine ev_b0 (t := 301) (p' := 297) rfl rfl rfl (if_neg c_41) ?_
                            refine ev_x (i := .iconst 1) (len := 1) (p' := 298) (s' := [.int 1]) rfl rfl rfl ?_
                            refine ev_x (i := .goto 4) (len := 3) (p' := 302) (s' := [.int 1]) rfl rfl rfl ?_
                            exact ev_st (congrArg (fun z => Value.int z :: []) (by rw [if_neg c_41])) J
                    · refine ev_ls (t := 303) rfl rfl rfl (ls_go ((ls_ne (i32_ne (k := 33) (by decide) c_2)).trans ((ls_ne (i32_ne (k := 40) (by decide) c_9)).trans ((ls_ne (i32_ne (k := 45) (by decide) c_14)).trans ((ls_ne (i32_ne (k := 261) (by decide) c_19)).trans ((ls_ne (i32_ne (k := 262) (by decide) c_23)).trans ((ls_ne (i32_ne (k := 309) (by decide) c_26)).trans ((ls_ne (i32_ne (k := 310) (by decide) c_29)).trans ((ls_ne (i32_ne (k := 311) (by decide) c_32)).trans ((ls_ne (i32_ne (k := 312) (by decide) c_37)).trans rfl))))))))) rfl) ?_
                      refine ev_x (i := .iconst 0) (len := 1) (p' := 304) (s' := [.int 0]) rfl rfl rfl ?_
                      obtain rfl := Option.some.inj H
                      exact ev_iret rfl rfl rfl rfl
  · refine ev_x (i := .aload_n 0) (len := 1) (p' := 19) (s' := [.ref 36]) rfl rfl (ld_a g_0) ?_
    refine ev_gc (p' := 22) (v := 2) rfl rfl rfl ly_36 rfl rfl ?_
    refine ev_gi (p' := 25) (v := (gI σ 2 3)) rfl rfl rfl ly_2 rfl rfl rfl ?_
    refine F_if H (fun c_2 H => ?_) (fun c_2 H => ?_)
    · refine ev_st (st' := [.int 33]) (congrArg (fun z => Value.int z :: []) c_2) ?_
      refine ev_ls (t := 222) rfl rfl rfl (by decide) ?_
      refine ev_x (i := .aload_n 0) (len := 1) (p' := 223) (s' := [.ref 36]) rfl rfl (ld_a g_0) ?_
      obtain ⟨p_3, G_3, H⟩ := F_bd H
      refine ev_cv (d := d + 6) (As := []) (a := 36) (p' := 226) rfl rfl rfl ly_36 rfl rfl rfl rfl rfl hnb rfl (F_29_ok (d := d + 5)   G_3) ?_
      refine ev_st (st' := [.int p_3.1]) rfl ?_
      have e_3 := F_29_R G_3
      refine ev_x (i := .iconst 4) (len := 1) (p' := 227) (s' := [.int 4, .int p_3.1]) rfl rfl rfl ?_
      refine F_if H (fun c_4 H => ?_) (fun c_4 H => ?_)
      · refine ev_b2 (t := 251) (p' := 251) rfl rfl rfl (if_pos c_4) ?_
        refine ev_x (i := .iconst 0) (len := 1) (p' := 252) (s' := [.int 0]) rfl rfl rfl ?_
        obtain rfl := Option.some.inj H
        exact ev_iret rfl rfl rfl rfl
      · refine ev_b2 (t := 251) (p' := 230) rfl rfl rfl (if_neg c_4) ?_
        refine ev_x (i := .aload_n 0) (len := 1) (p' := 231) (s' := [.ref 36]) rfl rfl (ld_a g_0) ?_
        obtain ⟨p_5, G_5, H⟩ := F_bd H
        refine ev_cv (d := d + 6) (As := []) (a := 36) (p' := 234) rfl rfl rfl ly_36 rfl rfl rfl rfl rfl hnb rfl (F_36_ok (d := d + 5)   G_5) ?_
        refine ev_st (st' := [.int p_5.1]) rfl ?_
        have e_5 := F_36_R G_5
        refine F_if H (fun c_6 H => ?_) (fun c_6 H => ?_)
        · refine ev_b0 (t := 251) (p' := 251) rfl rfl rfl (if_pos c_6) ?_
          refine ev_x (i := .iconst 0) (len := 1) (p' := 252) (s' := [.int 0]) rfl rfl rfl ?_
          obtain rfl := Option.some.inj H
          exact ev_iret rfl rfl rfl rfl
        · refine ev_b0 (t := 251) (p' := 237) rfl rfl rfl (if_neg c_6) ?_
          refine ev_x (i := .aload_n 0) (len := 1) (p' := 238) (s' := [.ref 36]) rfl rfl (ld_a g_0) ?_
          refine ev_x (i := .bipush 16) (len := 2) (p' := 240) (s' := [.int 16, .ref 36]) rfl rfl rfl ?_
          refine ev_x (i := .iconst (-1)) (len := 1) (p' := 241) (s' := [.int (-1), .int 16, .ref 36]) rfl rfl rfl ?_
          obtain ⟨p_7, G_7, H⟩ := F_bd H
          refine ev_cv (d := d + 6) (As := [.int 16, .int (-1)]) (a := 36) (p' := 244) rfl rfl rfl ly_36 rfl rfl rfl rfl rfl hnb rfl (F_31_ok (d := d + 4)   G_7) ?_
          refine ev_st (st' := [.int p_7.1]) rfl ?_
          have e_7 := F_31_R G_7
          refine F_jn (A := vz_ev P0 (d + 7) 45 252 (lv) [.int (if p_7.1 = 0 then 0 else 1 : Int32)] (hp (p_7.2)) (.inl (some (.int p.1)), hp p.2)) ?_ (fun J => ?_)
          · obtain rfl := Option.some.inj H
            exact ev_iret rfl rfl rfl (fit_b (by (repeat' split) <;> decide))
          · by_cases c_8 : p_7.1 = 0
            · refine ev_b0 (t := 251) (p' := 251) rfl rfl rfl (if_pos c_8) ?_
              refine ev_x (i := .iconst 0) (len := 1) (p' := 252) (s' := [.int 0]) rfl rfl rfl ?_
              exact ev_st (congrArg (fun z => Value.int z :: []) (by rw [if_pos c_8])) J
            · refine ev_b0 (t := 251) (p' := 247) rfl rfl rfl (if_neg c_8) ?_
              refine ev_x (i := .iconst 1) (len := 1) (p' := 248) (s' := [.int 1]) rfl rfl rfl ?_
              refine ev_x (i := .goto 4) (len := 3) (p' := 252) (s' := [.int 1]) rfl rfl rfl ?_
              exact ev_st (congrArg (fun z => Value.int z :: []) (by rw [if_neg c_8])) J
    · refine F_if H (fun c_9 H => ?_) (fun c_9 H => ?_)
      · refine ev_st (st' := [.int 40]) (congrArg (fun z => Value.int z :: []) c_9) ?_
        refine ev_ls (t := 176) rfl rfl rfl (by decide) ?_
        refine ev_x (i := .aload_n 0) (len := 1) (p' := 177) (s' := [.ref 36]) rfl rfl (ld_a g_0) ?_
        obtain ⟨p_10, G_10, H⟩ := F_bd H
        refine ev_cv (d := d + 6) (As := []) (a := 36) (p' := 180) rfl rfl rfl ly_36 rfl rfl rfl rfl rfl hnb rfl (F_36_ok (d := d + 5)   G_10) ?_
        refine ev_st (st' := [.int p_10.1]) rfl ?_
        have e_10 := F_36_R G_10
        refine F_if H (fun c_11 H => ?_) (fun c_11 H => ?_)
        · refine ev_b0 (t := 197) (p' := 197) rfl rfl rfl (if_pos c_11) ?_
          refine ev_x (i := .iconst 0) (len := 1) (p' := 198) (s' := [.int 0]) rfl rfl rfl ?_
          obtain rfl := Option.some.inj H
          exact ev_iret rfl rfl rfl rfl
        · refine ev_b0 (t := 197) (p' := 183) rfl rfl rfl (if_neg c_11) ?_
          refine ev_x (i := .aload_n 0) (len := 1) (p' := 184) (s' := [.ref 36]) rfl rfl (ld_a g_0) ?_
          refine ev_x (i := .bipush 35) (len := 2) (p' := 186) (s' := [.int 35, .ref 36]) rfl rfl rfl ?_
          refine ev_x (i := .iconst (-1)) (len := 1) (p' := 187) (s' := [.int (-1), .int 35, .ref 36]) rfl rfl rfl ?_
          obtain ⟨p_12, G_12, H⟩ := F_bd H
          refine ev_cv (d := d + 6) (As := [.int 35, .int (-1)]) (a := 36) (p' := 190) rfl rfl rfl ly_36 rfl rfl rfl rfl rfl hnb rfl (F_31_ok (d := d + 4)   G_12) ?_
          refine ev_st (st' := [.int p_12.1]) rfl ?_
          have e_12 := F_31_R G_12
          refine F_jn (A := vz_ev P0 (d + 7) 45 198 (lv) [.int (if p_12.1 = 0 then 0 else 1 : Int32)] (hp (p_12.2)) (.inl (some (.int p.1)), hp p.2)) ?_ (fun J => ?_)
          · obtain rfl := Option.some.inj H
            exact ev_iret rfl rfl rfl (fit_b (by (repeat' split) <;> decide))
          · by_cases c_13 : p_12.1 = 0
            · refine ev_b0 (t := 197) (p' := 197) rfl rfl rfl (if_pos c_13) ?_
              refine ev_x (i := .iconst 0) (len := 1) (p' := 198) (s' := [.int 0]) rfl rfl rfl ?_
              exact ev_st (congrArg (fun z => Value.int z :: []) (by rw [if_pos c_13])) J
            · refine ev_b0 (t := 197) (p' := 193) rfl rfl rfl (if_neg c_13) ?_
              refine ev_x (i := .iconst 1) (len := 1) (p' := 194) (s' := [.int 1]) rfl rfl rfl ?_
              refine ev_x (i := .goto 4) (len := 3) (p' := 198) (s' := [.int 1]) rfl rfl rfl ?_
              exact ev_st (congrArg (fun z => Value.int z :: []) (by rw [if_neg c_13])) J
      · refine F_if H (fun c_14 H => ?_) (fun c_14 H => ?_)
        · refine ev_st (st' := [.int 45]) (congrArg (fun z => Value.int z :: []) c_14) ?_
          refine ev_ls (t := 199) rfl rfl rfl (by decide) ?_
          refine ev_x (i := .aload_n 0) (len := 1) (p' := 200) (s' := [.ref 36]) rfl rfl (ld_a g_0) ?_
          obtain ⟨p_15, G_15, H⟩ := F_bd H
          refine ev_cv (d := d + 6) (As := []) (a := 36) (p' := 203) rfl rfl rfl ly_36 rfl rfl rfl rfl rfl hnb rfl (F_36_ok (d := d + 5)   G_15) ?_
          refine ev_st (st' := [.int p_15.1]) rfl ?_
          have e_15 := F_36_R G_15
          refine F_if H (fun c_16 H => ?_) (fun c_16 H => ?_)
          · refine ev_b0 (t := 220) (p' := 220) rfl rfl rfl (if_pos c_16) ?_
            refine ev_x (i := .iconst 0) (len := 1) (p' := 221) (s' := [.int 0]) rfl rfl rfl ?_
            obtain rfl := Option.some.inj H
            exact ev_iret rfl rfl rfl rfl
          · refine ev_b0 (t := 220) (p' := 206) rfl rfl rfl (if_neg c_16) ?_
            refine ev_x (i := .aload_n 0) (len := 1) (p' := 207) (s' := [.ref 36]) rfl rfl (ld_a g_0) ?_
            refine ev_x (i := .bipush 9) (len := 2) (p' := 209) (s' := [.int 9, .ref 36]) rfl rfl rfl ?_
            refine ev_x (i := .iconst (-1)) (len := 1) (p' := 210) (s' := [.int (-1), .int 9, .ref 36]) rfl rfl rfl ?_
            obtain ⟨p_17, G_17, H⟩ := F_bd H
            refine ev_cv (d := d + 6) (As := [.int 9, .int (-1)]) (a := 36) (p' := 213) rfl rfl rfl ly_36 rfl rfl rfl rfl rfl hnb rfl (F_31_ok (d := d + 4)   G_17) ?_
            refine ev_st (st' := [.int p_17.1]) rfl ?_
            have e_17 := F_31_R G_17
            refine F_jn (A := vz_ev P0 (d + 7) 45 221 (lv) [.int (if p_17.1 = 0 then 0 else 1 : Int32)] (hp (p_17.2)) (.inl (some (.int p.1)), hp p.2)) ?_ (fun J => ?_)
            · obtain rfl := Option.some.inj H
              exact ev_iret rfl rfl rfl (fit_b (by (repeat' split) <;> decide))
            · by_cases c_18 : p_17.1 = 0
              · refine ev_b0 (t := 220) (p' := 220) rfl rfl rfl (if_pos c_18) ?_
                refine ev_x (i := .iconst 0) (len := 1) (p' := 221) (s' := [.int 0]) rfl rfl rfl ?_
                exact ev_st (congrArg (fun z => Value.int z :: []) (by rw [if_pos c_18])) J
              · refine ev_b0 (t := 220) (p' := 216) rfl rfl rfl (if_neg c_18) ?_
                refine ev_x (i := .iconst 1) (len := 1) (p' := 217) (s' := [.int 1]) rfl rfl rfl ?_
                refine ev_x (i := .goto 4) (len := 3) (p' := 221) (s' := [.int 1]) rfl rfl rfl ?_
                exact ev_st (congrArg (fun z => Value.int z :: []) (by rw [if_neg c_18])) J
        · refine F_if H (fun c_19 H => ?_) (fun c_19 H => ?_)
          · refine ev_st (st' := [.int 261]) (congrArg (fun z => Value.int z :: []) c_19) ?_
            refine ev_ls (t := 135) rfl rfl rfl (by decide) ?_
            refine ev_x (i := .aload_n 0) (len := 1) (p' := 136) (s' := [.ref 36]) rfl rfl (ld_a g_0) ?_
            refine ev_x (i := .aload_n 0) (len := 1) (p' := 137) (s' := [.ref 36, .ref 36]) rfl rfl (ld_a g_0) ?_
            refine ev_gr (p' := 140) (v := 21) rfl rfl rfl ly_36 rfl rfl hr_36_7 ?_
            refine ev_x (i := .iconst 1) (len := 1) (p' := 141) (s' := [.int 1, .ref 21, .ref 36]) rfl rfl rfl ?_
            refine ev_x (i := .aload_n 0) (len := 1) (p' := 142) (s' := [.ref 36, .int 1, .ref 21, .ref 36]) rfl rfl (ld_a g_0) ?_
            refine ev_gc (p' := 145) (v := 2) rfl rfl rfl ly_36 rfl rfl ?_
            refine ev_gi (p' := 148) (v := (gI σ 2 4)) rfl rfl rfl ly_2 rfl rfl rfl ?_
            refine ev_x (i := .aload_n 0) (len := 1) (p' := 149) (s' := [.ref 36, .int (gI σ 2 4), .int 1, .ref 21, .ref 36]) rfl rfl (ld_a g_0) ?_
            refine ev_gc (p' := 152) (v := 2) rfl rfl rfl ly_36 rfl rfl ?_
            refine ev_gi (p' := 155) (v := (gI σ 2 4)) rfl rfl rfl ly_2 rfl rfl rfl ?_
            refine ev_x (i := .aload_n 0) (len := 1) (p' := 156) (s' := [.ref 36, .int (gI σ 2 4), .int (gI σ 2 4), .int 1, .ref 21, .ref 36]) rfl rfl (ld_a g_0) ?_
            refine ev_gc (p' := 159) (v := 2) rfl rfl rfl ly_36 rfl rfl ?_
            refine ev_gi (p' := 162) (v := (gI σ 2 5)) rfl rfl rfl ly_2 rfl rfl rfl ?_
            refine ev_x (i := .iconst (-1)) (len := 1) (p' := 163) (s' := [.int (-1), .int (gI σ 2 5), .int (gI σ 2 4), .int (gI σ 2 4), .int 1, .ref 21, .ref 36]) rfl rfl rfl ?_
            obtain ⟨p_20, G_20, H⟩ := F_bd H
            refine ev_cv (d := d + 6) (As := [.int 1, .int (gI σ 2 4), .int (gI σ 2 4), .int (gI σ 2 5), .int (-1)]) (a := 21) (p' := 166) rfl rfl rfl ly_21 rfl rfl rfl rfl rfl hnb rfl (F_30_ok (d := d + 1) (ht := (Or.inr rfl))  G_20) ?_
            refine ev_st (st' := [.int p_20.1, .ref 36]) rfl ?_
            have e_20 := F_30_R G_20
            refine ev_pi (p' := 169) rfl rfl rfl ly_36 rfl rfl rfl rfl ?_
            refine ev_x (i := .aload_n 0) (len := 1) (p' := 170) (s' := [.ref 36]) rfl rfl (ld_a g_0) ?_
            refine ev_x (i := .bipush 15) (len := 2) (p' := 172) (s' := [.int 15, .ref 36]) rfl rfl rfl ?_
            obtain ⟨p_21, G_21, H⟩ := F_bd H
            refine ev_cv (d := d + 6) (As := [.int 15]) (a := 36) (p' := 175) rfl rfl rfl ly_36 rfl rfl rfl rfl rfl hnb rfl (F_32_ok (d := d + 5)   G_21) ?_
            refine ev_st (st' := [.int p_21.1]) rfl ?_
            have e_21 := F_32_R G_21
            obtain ⟨b_22, H⟩ := F_gd H
            obtain rfl := Option.some.inj H
            exact ev_iret rfl rfl rfl (fit_b b_22)
          · refine F_if H (fun c_23 H => ?_) (fun c_23 H => ?_)
            · refine ev_st (st' := [.int 262]) (congrArg (fun z => Value.int z :: []) c_23) ?_
              refine ev_ls (t := 108) rfl rfl rfl (by decide) ?_
              refine ev_x (i := .aload_n 0) (len := 1) (p' := 109) (s' := [.ref 36]) rfl rfl (ld_a g_0) ?_
              refine ev_x (i := .iconst 1) (len := 1) (p' := 110) (s' := [.int 1, .ref 36]) rfl rfl rfl ?_
              refine ev_x (i := .aload_n 0) (len := 1) (p' := 111) (s' := [.ref 36, .int 1, .ref 36]) rfl rfl (ld_a g_0) ?_
              refine ev_gc (p' := 114) (v := 2) rfl rfl rfl ly_36 rfl rfl ?_
              refine ev_gi (p' := 117) (v := (gI σ 2 6)) rfl rfl rfl ly_2 rfl rfl rfl ?_
              obtain ⟨p_24, G_24, H⟩ := F_bd H
              refine ev_cv (d := d + 6) (As := [.int 1, .int (gI σ 2 6)]) (a := 36) (p' := 120) rfl rfl rfl ly_36 rfl rfl rfl rfl rfl hnb rfl (F_46_ok (d := d + 0) (ht := (Or.inr rfl)) (hr_36_7 := hr_36_7) G_24) ?_
              refine ev_st (st' := [.int p_24.1]) rfl ?_
              have e_24 := F_46_R G_24
              obtain ⟨b_25, H⟩ := F_gd H
              obtain rfl := Option.some.inj H
              exact ev_iret rfl rfl rfl (fit_b b_25)
            · refine F_if H (fun c_26 H => ?_) (fun c_26 H => ?_)
              · refine ev_st (st' := [.int 309]) (congrArg (fun z => Value.int z :: []) c_26) ?_
                refine ev_ls (t := 121) rfl rfl rfl (by decide) ?_
                refine ev_x (i := .aload_n 0) (len := 1) (p' := 122) (s' := [.ref 36]) rfl rfl (ld_a g_0) ?_
                refine ev_x (i := .iconst 2) (len := 1) (p' := 123) (s' := [.int 2, .ref 36]) rfl rfl rfl ?_
                refine ev_x (i := .iconst 1) (len := 1) (p' := 124) (s' := [.int 1, .int 2, .ref 36]) rfl rfl rfl ?_
                obtain ⟨p_27, G_27, H⟩ := F_bd H
                refine ev_cv (d := d + 6) (As := [.int 2, .int 1]) (a := 36) (p' := 127) rfl rfl rfl ly_36 rfl rfl rfl rfl rfl hnb rfl (F_46_ok (d := d + 0) (ht := (Or.inr rfl)) (hr_36_7 := hr_36_7) G_27) ?_
                refine ev_st (st' := [.int p_27.1]) rfl ?_
                have e_27 := F_46_R G_27
                obtain ⟨b_28, H⟩ := F_gd H
                obtain rfl := Option.some.inj H
                exact ev_iret rfl rfl rfl (fit_b b_28)
              · refine F_if H (fun c_29 H => ?_) (fun c_29 H => ?_)
                · refine ev_st (st' := [.int 310]) (congrArg (fun z => Value.int z :: []) c_29) ?_
                  refine ev_ls (t := 128) rfl rfl rfl (by decide) ?_
                  refine ev_x (i := .aload_n 0) (len := 1) (p' := 129) (s' := [.ref 36]) rfl rfl (ld_a g_0) ?_
                  refine ev_x (i := .iconst 2) (len := 1) (p' := 130) (s' := [.int 2, .ref 36]) rfl rfl rfl ?_
                  refine ev_x (i := .iconst 0) (len := 1) (p' := 131) (s' := [.int 0, .int 2, .ref 36]) rfl rfl rfl ?_
                  obtain ⟨p_30, G_30, H⟩ := F_bd H
                  refine ev_cv (d := d + 6) (As := [.int 2, .int 0]) (a := 36) (p' := 134) rfl rfl rfl ly_36 rfl rfl rfl rfl rfl hnb rfl (F_46_ok (d := d + 0) (ht := (Or.inr rfl)) (hr_36_7 := hr_36_7) G_30) ?_
                  refine ev_st (st' := [.int p_30.1]) rfl ?_
                  have e_30 := F_46_R G_30
                  obtain ⟨b_31, H⟩ := F_gd H
                  obtain rfl := Option.some.inj H
                  exact ev_iret rfl rfl rfl (fit_b b_31)
                · refine F_if H (fun c_32 H => ?_) (fun c_32 H => ?_)
                  · refine ev_st (st' := [.int 311]) (congrArg (fun z => Value.int z :: []) c_32) ?_
                    refine ev_ls (t := 253) rfl rfl rfl (by decide) ?_
                    refine ev_x (i := .aload_n 0) (len := 1) (p' := 254) (s' := [.ref 36]) rfl rfl (ld_a g_0) ?_
                    refine ev_x (i := .bipush 20) (len := 2) (p' := 256) (s' := [.int 20, .ref 36]) rfl rfl rfl ?_
                    refine ev_x (i := .iconst (-1)) (len := 1) (p' := 257) (s' := [.int (-1), .int 20, .ref 36]) rfl rfl rfl ?_
                    obtain ⟨p_33, G_33, H⟩ := F_bd H
                    refine ev_cv (d := d + 6) (As := [.int 20, .int (-1)]) (a := 36) (p' := 260) rfl rfl rfl ly_36 rfl rfl rfl rfl rfl hnb rfl (F_31_ok (d := d + 4)   G_33) ?_
                    refine ev_st (st' := [.int p_33.1]) rfl ?_
                    have e_33 := F_31_R G_33
                    refine F_if H (fun c_34 H => ?_) (fun c_34 H => ?_)
                    · refine ev_b0 (t := 276) (p' := 276) rfl rfl rfl (if_pos c_34) ?_
                      refine ev_x (i := .iconst 0) (len := 1) (p' := 277) (s' := [.int 0]) rfl rfl rfl ?_
                      obtain rfl := Option.some.inj H
                      exact ev_iret rfl rfl rfl rfl
                    · refine ev_b0 (t := 276) (p' := 263) rfl rfl rfl (if_neg c_34) ?_
                      refine ev_x (i := .aload_n 0) (len := 1) (p' := 264) (s' := [.ref 36]) rfl rfl (ld_a g_0) ?_
                      refine ev_x (i := .bipush 13) (len := 2) (p' := 266) (s' := [.int 13, .ref 36]) rfl rfl rfl ?_
                      obtain ⟨p_35, G_35, H⟩ := F_bd H
                      refine ev_cv (d := d + 6) (As := [.int 13]) (a := 36) (p' := 269) rfl rfl rfl ly_36 rfl rfl rfl rfl rfl hnb rfl (F_32_ok (d := d + 5)   G_35) ?_
                      refine ev_st (st' := [.int p_35.1]) rfl ?_
                      have e_35 := F_32_R G_35
                      refine F_jn (A := vz_ev P0 (d + 7) 45 277 (lv) [.int (if p_35.1 = 0 then 0 else 1 : Int32)] (hp (p_35.2)) (.inl (some (.int p.1)), hp p.2)) ?_ (fun J => ?_)
                      · obtain rfl := Option.some.inj H
                        exact ev_iret rfl rfl rfl (fit_b (by (repeat' split) <;> decide))
                      · by_cases c_36 : p_35.1 = 0
                        · refine ev_b0 (t := 276) (p' := 276) rfl rfl rfl (if_pos c_36) ?_
                          refine ev_x (i := .iconst 0) (len := 1) (p' := 277) (s' := [.int 0]) rfl rfl rfl ?_
                          exact ev_st (congrArg (fun z => Value.int z :: []) (by rw [if_pos c_36])) J
                        · refine ev_b0 (t := 276) (p' := 272) rfl rfl rfl (if_neg c_36) ?_
                          refine ev_x (i := .iconst 1) (len := 1) (p' := 273) (s' := [.int 1]) rfl rfl rfl ?_
                          refine ev_x (i := .goto 4) (len := 3) (p' := 277) (s' := [.int 1]) rfl rfl rfl ?_
                          exact ev_st (congrArg (fun z => Value.int z :: []) (by rw [if_neg c_36])) J
                  · refine F_if H (fun c_37 H => ?_) (fun c_37 H => ?_)
                    · refine ev_st (st' := [.int 312]) (congrArg (fun z => Value.int z :: []) c_37) ?_
                      refine ev_ls (t := 278) rfl rfl rfl (by decide) ?_
                      refine ev_x (i := .aload_n 0) (len := 1) (p' := 279) (s' := [.ref 36]) rfl rfl (ld_a g_0) ?_
                      refine ev_x (i := .bipush 21) (len := 2) (p' := 281) (s' := [.int 21, .ref 36]) rfl rfl rfl ?_
                      refine ev_x (i := .iconst (-1)) (len := 1) (p' := 282) (s' := [.int (-1), .int 21, .ref 36]) rfl rfl rfl ?_
                      obtain ⟨p_38, G_38, H⟩ := F_bd H
                      refine ev_cv (d := d + 6) (As := [.int 21, .int (-1)]) (a := 36) (p' := 285) rfl rfl rfl ly_36 rfl rfl rfl rfl rfl hnb rfl (F_31_ok (d := d + 4)   G_38) ?_
                      refine ev_st (st' := [.int p_38.1]) rfl ?_
                      have e_38 := F_31_R G_38
                      refine F_if H (fun c_39 H => ?_) (fun c_39 H => ?_)
                      · refine ev_b0 (t := 301) (p' := 301) rfl rfl rfl (if_pos c_39) ?_
                        refine ev_x (i := .iconst 0) (len := 1) (p' := 302) (s' := [.int 0]) rfl rfl rfl ?_
                        obtain rfl := Option.some.inj H
                        exact ev_iret rfl rfl rfl rfl
                      · refine ev_b0 (t := 301) (p' := 288) rfl rfl rfl (if_neg c_39) ?_
                        refine ev_x (i := .aload_n 0) (len := 1) (p' := 289) (s' := [.ref 36]) rfl rfl (ld_a g_0) ?_
                        refine ev_x (i := .bipush 13) (len := 2) (p' := 291) (s' := [.int 13, .ref 36]) rfl rfl rfl ?_
                        obtain ⟨p_40, G_40, H⟩ := F_bd H
                        refine ev_cv (d := d + 6) (As := [.int 13]) (a := 36) (p' := 294) rfl rfl rfl ly_36 rfl rfl rfl rfl rfl hnb rfl (F_32_ok (d := d + 5)   G_40) ?_
                        refine ev_st (st' := [.int p_40.1]) rfl ?_
                        have e_40 := F_32_R G_40
                        refine F_jn (A := vz_ev P0 (d + 7) 45 302 (lv) [.int (if p_40.1 = 0 then 0 else 1 : Int32)] (hp (p_40.2)) (.inl (some (.int p.1)), hp p.2)) ?_ (fun J => ?_)
                        · obtain rfl := Option.some.inj H
                          exact ev_iret rfl rfl rfl (fit_b (by (repeat' split) <;> decide))
                        · by_cases c_41 : p_40.1 = 0
                          · refine ev_b0 (t := 301) (p' := 301) rfl rfl rfl (if_pos c_41) ?_
                            refine ev_x (i := .iconst 0) (len := 1) (p' := 302) (s' := [.int 0]) rfl rfl rfl ?_
                            exact ev_st (congrArg (fun z => Value.int z :: []) (by rw [if_pos c_41])) J
                          · refine ev_b0 (t := 301) (p' := 297) rfl rfl rfl (if_neg c_41) ?_
                            refine ev_x (i := .iconst 1) (len := 1) (p' := 298) (s' := [.int 1]) rfl rfl rfl ?_
                            refine ev_x (i := .goto 4) (len := 3) (p' := 302) (s' := [.int 1]) rfl rfl rfl ?_
                            exact ev_st (congrArg (fun z => Value.int z :: []) (by rw [if_neg c_41])) J
                    · refine ev_ls (t := 303) rfl rfl rfl (ls_go ((ls_ne (i32_ne (k := 33) (by decide) c_2)).trans ((ls_ne (i32_ne (k := 40) (by decide) c_9)).trans ((ls_ne (i32_ne (k := 45) (by decide) c_14)).trans ((ls_ne (i32_ne (k := 261) (by decide) c_19)).trans ((ls_ne (i32_ne (k := 262) (by decide) c_23)).trans ((ls_ne (i32_ne (k := 309) (by decide) c_26)).trans ((ls_ne (i32_ne (k := 310) (by decide) c_29)).trans ((ls_ne (i32_ne (k := 311) (by decide) c_32)).trans ((ls_ne (i32_ne (k := 312) (by decide) c_37)).trans rfl))))))))) rfl) ?_
                      refine ev_x (i := .iconst 0) (len := 1) (p' := 304) (s' := [.int 0]) rfl rfl rfl ?_
                      obtain rfl := Option.some.inj H
                      exact ev_iret rfl rfl rfl rfl
/-- GameText$Parser.takesOperand()Z -/
def F_45 (N : Nat) (t : Nat) (σ : st_S) : Option (Int32 × st_S) :=
  if 0 ≤ (gI σ 36 10) then
    J_45_18 N t (σ)
  else
    J_45_18 N t (st_i (σ) 36 10 (gI σ 2 4))
set_option maxRecDepth 100000 in
theorem F_45_R {N : Nat} {t : Nat} {σ : st_S} {p : Int32 × st_S} (H : F_45 N t σ = some p) : gR p.2 = gR σ := by
  unfold F_45 at H
  refine F_if H (fun _ H => ?_) (fun _ H => ?_)
  · exact (((J_45_18_R H)).trans rfl)
  · exact (((J_45_18_R H)).trans rfl)
set_option maxHeartbeats 4000000 in
set_option maxRecDepth 100000 in
theorem F_45_ok {N d : Nat} {t : Nat} (ht : t = 4 ∨ t = 20) {σ : st_S} {p : Int32 × st_S} (hr_36_7 : gR σ 36 7 = (t + 1)) (H : F_45 N t σ = some p) : vz_ev P0 (d + 7) 45 0 (lv_args 0 [.ref 36]) [] (hp σ) (.inl (some (.int p.1)), hp p.2) := by
  unfold F_45 at H
  refine ev_x (i := .aload_n 0) (len := 1) (p' := 1) (s' := [.ref 36]) rfl rfl rfl ?_
  refine ev_gi (p' := 4) (v := (gI σ 36 10)) rfl rfl rfl ly_36 rfl rfl rfl ?_
  refine F_if H (fun c_1 H => ?_) (fun c_1 H => ?_)
  · refine ev_b0 (t := 18) (p' := 18) rfl rfl rfl (if_pos c_1) ?_
    exact J_45_18_ok (d := d) ht rfl rfl hr_36_7 H
  · refine ev_b0 (t := 18) (p' := 7) rfl rfl rfl (if_neg c_1) ?_
    refine ev_x (i := .aload_n 0) (len := 1) (p' := 8) (s' := [.ref 36]) rfl rfl rfl ?_
    refine ev_x (i := .aload_n 0) (len := 1) (p' := 9) (s' := [.ref 36, .ref 36]) rfl rfl rfl ?_
    refine ev_gc (p' := 12) (v := 2) rfl rfl rfl ly_36 rfl rfl ?_
    refine ev_gi (p' := 15) (v := (gI σ 2 4)) rfl rfl rfl ly_2 rfl rfl rfl ?_
    refine ev_pi (p' := 18) rfl rfl rfl ly_36 rfl rfl rfl rfl ?_
    exact J_45_18_ok (d := d) ht rfl rfl hr_36_7 H
/-- GameText$Parser.begins(II)Z -/
def F_48 (N : Nat) (t : Nat) (x_1 : Int32) (x_2 : Int32) (σ : st_S) : Option (Int32 × st_S) :=
  (F_30 N t x_1 (gI σ 2 4) x_2 (-1) (-1) (σ)).bind fun p_1 =>
  (F_32 N 1 (st_i (p_1.2) 36 14 p_1.1)).bind fun p_2 =>
  if (p_2.1 = 0 ∨ p_2.1 = 1) then
  some (p_2.1, p_2.2)
  else none
set_option maxRecDepth 100000 in
theorem F_48_R {N : Nat} {t : Nat} {x_1 : Int32} {x_2 : Int32} {σ : st_S} {p : Int32 × st_S} (H : F_48 N t x_1 x_2 σ = some p) : gR p.2 = gR σ := by
  unfold F_48 at H
  obtain ⟨p_1, G_1, H⟩ := F_bd H
  obtain ⟨p_2, G_2, H⟩ := F_bd H
  obtain ⟨_, H⟩ := F_gd H
  obtain rfl := Option.some.inj H
  exact ((F_32_R G_2).trans ((F_30_R G_1).trans rfl))
set_option maxHeartbeats 4000000 in
set_option maxRecDepth 100000 in
theorem F_48_ok {N d : Nat} {t : Nat} (ht : t = 4 ∨ t = 20) {x_1 : Int32} {x_2 : Int32} {σ : st_S} {p : Int32 × st_S} (hr_36_7 : gR σ 36 7 = (t + 1)) (H : F_48 N t x_1 x_2 σ = some p) : vz_ev P0 (d + 6) 48 0 (lv_args 0 [.ref 36, .int x_1, .int x_2]) [] (hp σ) (.inl (some (.int p.1)), hp p.2) := by
  unfold F_48 at H
  rcases ht with rfl | rfl
  · refine ev_x (i := .aload_n 0) (len := 1) (p' := 1) (s' := [.ref 36]) rfl rfl rfl ?_
    refine ev_x (i := .aload_n 0) (len := 1) (p' := 2) (s' := [.ref 36, .ref 36]) rfl rfl rfl ?_
    refine ev_gr (p' := 5) (v := 5) rfl rfl rfl ly_36 rfl rfl hr_36_7 ?_
    refine ev_x (i := .iload_n 1) (len := 1) (p' := 6) (s' := [.int x_1, .ref 5, .ref 36]) rfl rfl rfl ?_
    refine ev_x (i := .aload_n 0) (len := 1) (p' := 7) (s' := [.ref 36, .int x_1, .ref 5, .ref 36]) rfl rfl rfl ?_
    refine ev_gc (p' := 10) (v := 2) rfl rfl rfl ly_36 rfl rfl ?_
    refine ev_gi (p' := 13) (v := (gI σ 2 4)) rfl rfl rfl ly_2 rfl rfl rfl ?_
    refine ev_x (i := .iload_n 2) (len := 1) (p' := 14) (s' := [.int x_2, .int (gI σ 2 4), .int x_1, .ref 5, .ref 36]) rfl rfl rfl ?_
    refine ev_x (i := .iconst (-1)) (len := 1) (p' := 15) (s' := [.int (-1), .int x_2, .int (gI σ 2 4), .int x_1, .ref 5, .ref 36]) rfl rfl rfl ?_
    refine ev_x (i := .iconst (-1)) (len := 1) (p' := 16) (s' := [.int (-1), .int (-1), .int x_2, .int (gI σ 2 4), .int x_1, .ref 5, .ref 36]) rfl rfl rfl ?_
    obtain ⟨p_1, G_1, H⟩ := F_bd H
    refine ev_cv (d := d + 5) (As := [.int x_1, .int (gI σ 2 4), .int x_2, .int (-1), .int (-1)]) (a := 5) (p' := 19) rfl rfl rfl ly_5 rfl rfl rfl rfl rfl rfl rfl (F_30_ok (d := d + 0) (ht := (Or.inl rfl))  G_1) ?_
    refine ev_st (st' := [.int p_1.1, .ref 36]) rfl ?_
    have e_1 := F_30_R G_1
    refine ev_pi (p' := 22) rfl rfl rfl ly_36 rfl rfl rfl rfl ?_
    refine ev_x (i := .aload_n 0) (len := 1) (p' := 23) (s' := [.ref 36]) rfl rfl rfl ?_
    refine ev_x (i := .iconst 1) (len := 1) (p' := 24) (s' := [.int 1, .ref 36]) rfl rfl rfl ?_
    obtain ⟨p_2, G_2, H⟩ := F_bd H
    refine ev_cv (d := d + 5) (As := [.int 1]) (a := 36) (p' := 27) rfl rfl rfl ly_36 rfl rfl rfl rfl rfl rfl rfl (F_32_ok (d := d + 4)   G_2) ?_
    refine ev_st (st' := [.int p_2.1]) rfl ?_
    have e_2 := F_32_R G_2
    obtain ⟨b_3, H⟩ := F_gd H
    obtain rfl := Option.some.inj H
    exact ev_iret rfl rfl rfl (fit_b b_3)
  · refine ev_x (i := .aload_n 0) (len := 1) (p' := 1) (s' := [.ref 36]) rfl rfl rfl ?_
    refine ev_x (i := .aload_n 0) (len := 1) (p' := 2) (s' := [.ref 36, .ref 36]) rfl rfl rfl ?_
    refine ev_gr (p' := 5) (v := 21) rfl rfl rfl ly_36 rfl rfl hr_36_7 ?_
    refine ev_x (i := .iload_n 1) (len := 1) (p' := 6) (s' := [.int x_1, .ref 21, .ref 36]) rfl rfl rfl ?_
    refine ev_x (i := .aload_n 0) (len := 1) (p' := 7) (s' := [.ref 36, .int x_1, .ref 21, .ref 36]) rfl rfl rfl ?_
    refine ev_gc (p' := 10) (v := 2) rfl rfl rfl ly_36 rfl rfl ?_
    refine ev_gi (p' := 13) (v := (gI σ 2 4)) rfl rfl rfl ly_2 rfl rfl rfl ?_
    refine ev_x (i := .iload_n 2) (len := 1) (p' := 14) (s' := [.int x_2, .int (gI σ 2 4), .int x_1, .ref 21, .ref 36]) rfl rfl rfl ?_
    refine ev_x (i := .iconst (-1)) (len := 1) (p' := 15) (s' := [.int (-1), .int x_2, .int (gI σ 2 4), .int x_1, .ref 21, .ref 36]) rfl rfl rfl ?_
    refine ev_x (i := .iconst (-1)) (len := 1) (p' := 16) (s' := [.int (-1), .int (-1), .int x_2, .int (gI σ 2 4), .int x_1, .ref 21, .ref 36]) rfl rfl rfl ?_
    obtain ⟨p_1, G_1, H⟩ := F_bd H
    refine ev_cv (d := d + 5) (As := [.int x_1, .int (gI σ 2 4), .int x_2, .int (-1), .int (-1)]) (a := 21) (p' := 19) rfl rfl rfl ly_21 rfl rfl rfl rfl rfl rfl rfl (F_30_ok (d := d + 0) (ht := (Or.inr rfl))  G_1) ?_
    refine ev_st (st' := [.int p_1.1, .ref 36]) rfl ?_
    have e_1 := F_30_R G_1
    refine ev_pi (p' := 22) rfl rfl rfl ly_36 rfl rfl rfl rfl ?_
    refine ev_x (i := .aload_n 0) (len := 1) (p' := 23) (s' := [.ref 36]) rfl rfl rfl ?_
    refine ev_x (i := .iconst 1) (len := 1) (p' := 24) (s' := [.int 1, .ref 36]) rfl rfl rfl ?_
    obtain ⟨p_2, G_2, H⟩ := F_bd H
    refine ev_cv (d := d + 5) (As := [.int 1]) (a := 36) (p' := 27) rfl rfl rfl ly_36 rfl rfl rfl rfl rfl rfl rfl (F_32_ok (d := d + 4)   G_2) ?_
    refine ev_st (st' := [.int p_2.1]) rfl ?_
    have e_2 := F_32_R G_2
    obtain ⟨b_3, H⟩ := F_gd H
    obtain rfl := Option.some.inj H
    exact ev_iret rfl rfl rfl (fit_b b_3)
/-- GameText$Parser.takesItem()Z -/
def F_47 (N : Nat) (t : Nat) (σ : st_S) : Option (Int32 × st_S) :=
  if (gI σ 2 3) = 300 then
    (F_48 N t 27 0 (σ)).bind fun p_2 =>
    if (p_2.1 = 0 ∨ p_2.1 = 1) then
    some (p_2.1, p_2.2)
    else none
  else
  if (gI σ 2 3) = 301 then
    (F_48 N t 29 0 (σ)).bind fun p_5 =>
    if (p_5.1 = 0 ∨ p_5.1 = 1) then
    some (p_5.1, p_5.2)
    else none
  else
  if (gI σ 2 3) = 303 then
    (F_48 N t 28 0 (σ)).bind fun p_8 =>
    if (p_8.1 = 0 ∨ p_8.1 = 1) then
    some (p_8.1, p_8.2)
    else none
  else
  if (gI σ 2 3) = 304 then
    (F_48 N t 31 1 (σ)).bind fun p_11 =>
    (F_39 N t 5 (p_11.2)).bind fun p_12 =>
    if (p_12.1 = 0 ∨ p_12.1 = 1) then
    some (p_12.1, p_12.2)
    else none
  else
  if (gI σ 2 3) = 305 then
    (F_48 N t 31 2 (σ)).bind fun p_15 =>
    (F_39 N t 5 (p_15.2)).bind fun p_16 =>
    if (p_16.1 = 0 ∨ p_16.1 = 1) then
    some (p_16.1, p_16.2)
    else none
  else
  if (gI σ 2 3) = 308 then
    (F_48 N t 30 0 (σ)).bind fun p_19 =>
    (F_39 N t 4 (p_19.2)).bind fun p_20 =>
    if (p_20.1 = 0 ∨ p_20.1 = 1) then
    some (p_20.1, p_20.2)
    else none
  else
    some (0, σ)
set_option maxRecDepth 100000 in
theorem F_47_R {N : Nat} {t : Nat} {σ : st_S} {p : Int32 × st_S} (H : F_47 N t σ = some p) : gR p.2 = gR σ := by
  unfold F_47 at H
  refine F_if H (fun _ H => ?_) (fun _ H => ?_)
  · obtain ⟨p_2, G_2, H⟩ := F_bd H
    obtain ⟨_, H⟩ := F_gd H
    obtain rfl := Option.some.inj H
    exact ((F_48_R G_2).trans rfl)
  · refine F_if H (fun _ H => ?_) (fun _ H => ?_)
    · obtain ⟨p_5, G_5, H⟩ := F_bd H
      obtain ⟨_, H⟩ := F_gd H
      obtain rfl := Option.some.inj H
      exact ((F_48_R G_5).trans rfl)
    · refine F_if H (fun _ H => ?_) (fun _ H => ?_)
      · obtain ⟨p_8, G_8, H⟩ := F_bd H
        obtain ⟨_, H⟩ := F_gd H
        obtain rfl := Option.some.inj H
        exact ((F_48_R G_8).trans rfl)
      · refine F_if H (fun _ H => ?_) (fun _ H => ?_)
        · obtain ⟨p_11, G_11, H⟩ := F_bd H
          obtain ⟨p_12, G_12, H⟩ := F_bd H
          obtain ⟨_, H⟩ := F_gd H
          obtain rfl := Option.some.inj H
          exact ((F_39_R G_12).trans ((F_48_R G_11).trans rfl))
        · refine F_if H (fun _ H => ?_) (fun _ H => ?_)
          · obtain ⟨p_15, G_15, H⟩ := F_bd H
            obtain ⟨p_16, G_16, H⟩ := F_bd H
            obtain ⟨_, H⟩ := F_gd H
            obtain rfl := Option.some.inj H
            exact ((F_39_R G_16).trans ((F_48_R G_15).trans rfl))
          · refine F_if H (fun _ H => ?_) (fun _ H => ?_)
            · obtain ⟨p_19, G_19, H⟩ := F_bd H
              obtain ⟨p_20, G_20, H⟩ := F_bd H
              obtain ⟨_, H⟩ := F_gd H
              obtain rfl := Option.some.inj H
              exact ((F_39_R G_20).trans ((F_48_R G_19).trans rfl))
            · obtain rfl := Option.some.inj H
              exact rfl
set_option maxHeartbeats 4000000 in
set_option maxRecDepth 100000 in
theorem F_47_ok {N d : Nat} {t : Nat} (ht : t = 4 ∨ t = 20) {σ : st_S} {p : Int32 × st_S} (hr_36_7 : gR σ 36 7 = (t + 1)) (H : F_47 N t σ = some p) : vz_ev P0 (d + 7) 47 0 (lv_args 0 [.ref 36]) [] (hp σ) (.inl (some (.int p.1)), hp p.2) := by
  unfold F_47 at H
  refine ev_x (i := .aload_n 0) (len := 1) (p' := 1) (s' := [.ref 36]) rfl rfl rfl ?_
  refine ev_gc (p' := 4) (v := 2) rfl rfl rfl ly_36 rfl rfl ?_
  refine ev_gi (p' := 7) (v := (gI σ 2 3)) rfl rfl rfl ly_2 rfl rfl rfl ?_
  refine F_if H (fun c_1 H => ?_) (fun c_1 H => ?_)
  · refine ev_st (st' := [.int 300]) (congrArg (fun z => Value.int z :: []) c_1) ?_
    refine ev_ts (off := 49) (t := 56) rfl rfl (by decide) rfl ?_
    refine ev_x (i := .aload_n 0) (len := 1) (p' := 57) (s' := [.ref 36]) rfl rfl rfl ?_
    refine ev_x (i := .bipush 27) (len := 2) (p' := 59) (s' := [.int 27, .ref 36]) rfl rfl rfl ?_
    refine ev_x (i := .iconst 0) (len := 1) (p' := 60) (s' := [.int 0, .int 27, .ref 36]) rfl rfl rfl ?_
    obtain ⟨p_2, G_2, H⟩ := F_bd H
    refine ev_cv (d := d + 6) (As := [.int 27, .int 0]) (a := 36) (p' := 63) rfl rfl rfl ly_36 rfl rfl rfl rfl rfl rfl rfl (F_48_ok (d := d + 0) (ht := ht) (hr_36_7 := hr_36_7) G_2) ?_
    refine ev_st (st' := [.int p_2.1]) rfl ?_
    have e_2 := F_48_R G_2
    obtain ⟨b_3, H⟩ := F_gd H
    obtain rfl := Option.some.inj H
    exact ev_iret rfl rfl rfl (fit_b b_3)
  · refine F_if H (fun c_4 H => ?_) (fun c_4 H => ?_)
    · refine ev_st (st' := [.int 301]) (congrArg (fun z => Value.int z :: []) c_4) ?_
      refine ev_ts (off := 65) (t := 72) rfl rfl (by decide) rfl ?_
      refine ev_x (i := .aload_n 0) (len := 1) (p' := 73) (s' := [.ref 36]) rfl rfl rfl ?_
      refine ev_x (i := .bipush 29) (len := 2) (p' := 75) (s' := [.int 29, .ref 36]) rfl rfl rfl ?_
      refine ev_x (i := .iconst 0) (len := 1) (p' := 76) (s' := [.int 0, .int 29, .ref 36]) rfl rfl rfl ?_
      obtain ⟨p_5, G_5, H⟩ := F_bd H
      refine ev_cv (d := d + 6) (As := [.int 29, .int 0]) (a := 36) (p' := 79) rfl rfl rfl ly_36 rfl rfl rfl rfl rfl rfl rfl (F_48_ok (d := d + 0) (ht := ht) (hr_36_7 := hr_36_7) G_5) ?_
      refine ev_st (st' := [.int p_5.1]) rfl ?_
      have e_5 := F_48_R G_5
      obtain ⟨b_6, H⟩ := F_gd H
      obtain rfl := Option.some.inj H
      exact ev_iret rfl rfl rfl (fit_b b_6)
    · refine F_if H (fun c_7 H => ?_) (fun c_7 H => ?_)
      · refine ev_st (st' := [.int 303]) (congrArg (fun z => Value.int z :: []) c_7) ?_
        refine ev_ts (off := 57) (t := 64) rfl rfl (by decide) rfl ?_
        refine ev_x (i := .aload_n 0) (len := 1) (p' := 65) (s' := [.ref 36]) rfl rfl rfl ?_
        refine ev_x (i := .bipush 28) (len := 2) (p' := 67) (s' := [.int 28, .ref 36]) rfl rfl rfl ?_
        refine ev_x (i := .iconst 0) (len := 1) (p' := 68) (s' := [.int 0, .int 28, .ref 36]) rfl rfl rfl ?_
        obtain ⟨p_8, G_8, H⟩ := F_bd H
        refine ev_cv (d := d + 6) (As := [.int 28, .int 0]) (a := 36) (p' := 71) rfl rfl rfl ly_36 rfl rfl rfl rfl rfl rfl rfl (F_48_ok (d := d + 0) (ht := ht) (hr_36_7 := hr_36_7) G_8) ?_
        refine ev_st (st' := [.int p_8.1]) rfl ?_
        have e_8 := F_48_R G_8
        obtain ⟨b_9, H⟩ := F_gd H
        obtain rfl := Option.some.inj H
        exact ev_iret rfl rfl rfl (fit_b b_9)
      · refine F_if H (fun c_10 H => ?_) (fun c_10 H => ?_)
        · refine ev_st (st' := [.int 304]) (congrArg (fun z => Value.int z :: []) c_10) ?_
          refine ev_ts (off := 87) (t := 94) rfl rfl (by decide) rfl ?_
          refine ev_x (i := .aload_n 0) (len := 1) (p' := 95) (s' := [.ref 36]) rfl rfl rfl ?_
          refine ev_x (i := .bipush 31) (len := 2) (p' := 97) (s' := [.int 31, .ref 36]) rfl rfl rfl ?_
          refine ev_x (i := .iconst 1) (len := 1) (p' := 98) (s' := [.int 1, .int 31, .ref 36]) rfl rfl rfl ?_
          obtain ⟨p_11, G_11, H⟩ := F_bd H
          refine ev_cv (d := d + 6) (As := [.int 31, .int 1]) (a := 36) (p' := 101) rfl rfl rfl ly_36 rfl rfl rfl rfl rfl rfl rfl (F_48_ok (d := d + 0) (ht := ht) (hr_36_7 := hr_36_7) G_11) ?_
          refine ev_st (st' := [.int p_11.1]) rfl ?_
          have e_11 := F_48_R G_11
          refine ev_x (i := .pop) (len := 1) (p' := 102) (s' := []) rfl rfl rfl ?_
          refine ev_x (i := .aload_n 0) (len := 1) (p' := 103) (s' := [.ref 36]) rfl rfl rfl ?_
          refine ev_x (i := .iconst 5) (len := 1) (p' := 104) (s' := [.int 5, .ref 36]) rfl rfl rfl ?_
          obtain ⟨p_12, G_12, H⟩ := F_bd H
          refine ev_cv (d := d + 6) (As := [.int 5]) (a := 36) (p' := 107) rfl rfl rfl ly_36 rfl rfl rfl rfl rfl rfl rfl (F_39_ok (d := d + 5) (ht := ht) (hr_36_7 := ((congrFun (congrFun e_11 36) 7).trans hr_36_7)) G_12) ?_
          refine ev_st (st' := [.int p_12.1]) rfl ?_
          have e_12 := F_39_R G_12
          obtain ⟨b_13, H⟩ := F_gd H
          obtain rfl := Option.some.inj H
          exact ev_iret rfl rfl rfl (fit_b b_13)
        · refine F_if H (fun c_14 H => ?_) (fun c_14 H => ?_)
          · refine ev_st (st' := [.int 305]) (congrArg (fun z => Value.int z :: []) c_14) ?_
            refine ev_ts (off := 101) (t := 108) rfl rfl (by decide) rfl ?_
            refine ev_x (i := .aload_n 0) (len := 1) (p' := 109) (s' := [.ref 36]) rfl rfl rfl ?_
            refine ev_x (i := .bipush 31) (len := 2) (p' := 111) (s' := [.int 31, .ref 36]) rfl rfl rfl ?_
            refine ev_x (i := .iconst 2) (len := 1) (p' := 112) (s' := [.int 2, .int 31, .ref 36]) rfl rfl rfl ?_
            obtain ⟨p_15, G_15, H⟩ := F_bd H
            refine ev_cv (d := d + 6) (As := [.int 31, .int 2]) (a := 36) (p' := 115) rfl rfl rfl ly_36 rfl rfl rfl rfl rfl rfl rfl (F_48_ok (d := d + 0) (ht := ht) (hr_36_7 := hr_36_7) G_15) ?_
            refine ev_st (st' := [.int p_15.1]) rfl ?_
            have e_15 := F_48_R G_15
            refine ev_x (i := .pop) (len := 1) (p' := 116) (s' := []) rfl rfl rfl ?_
            refine ev_x (i := .aload_n 0) (len := 1) (p' := 117) (s' := [.ref 36]) rfl rfl rfl ?_
            refine ev_x (i := .iconst 5) (len := 1) (p' := 118) (s' := [.int 5, .ref 36]) rfl rfl rfl ?_
            obtain ⟨p_16, G_16, H⟩ := F_bd H
            refine ev_cv (d := d + 6) (As := [.int 5]) (a := 36) (p' := 121) rfl rfl rfl ly_36 rfl rfl rfl rfl rfl rfl rfl (F_39_ok (d := d + 5) (ht := ht) (hr_36_7 := ((congrFun (congrFun e_15 36) 7).trans hr_36_7)) G_16) ?_
            refine ev_st (st' := [.int p_16.1]) rfl ?_
            have e_16 := F_39_R G_16
            obtain ⟨b_17, H⟩ := F_gd H
            obtain rfl := Option.some.inj H
            exact ev_iret rfl rfl rfl (fit_b b_17)
          · refine F_if H (fun c_18 H => ?_) (fun c_18 H => ?_)
            · refine ev_st (st' := [.int 308]) (congrArg (fun z => Value.int z :: []) c_18) ?_
              refine ev_ts (off := 73) (t := 80) rfl rfl (by decide) rfl ?_
              refine ev_x (i := .aload_n 0) (len := 1) (p' := 81) (s' := [.ref 36]) rfl rfl rfl ?_
              refine ev_x (i := .bipush 30) (len := 2) (p' := 83) (s' := [.int 30, .ref 36]) rfl rfl rfl ?_
              refine ev_x (i := .iconst 0) (len := 1) (p' := 84) (s' := [.int 0, .int 30, .ref 36]) rfl rfl rfl ?_
              obtain ⟨p_19, G_19, H⟩ := F_bd H
              refine ev_cv (d := d + 6) (As := [.int 30, .int 0]) (a := 36) (p' := 87) rfl rfl rfl ly_36 rfl rfl rfl rfl rfl rfl rfl (F_48_ok (d := d + 0) (ht := ht) (hr_36_7 := hr_36_7) G_19) ?_
              refine ev_st (st' := [.int p_19.1]) rfl ?_
              have e_19 := F_48_R G_19
              refine ev_x (i := .pop) (len := 1) (p' := 88) (s' := []) rfl rfl rfl ?_
              refine ev_x (i := .aload_n 0) (len := 1) (p' := 89) (s' := [.ref 36]) rfl rfl rfl ?_
              refine ev_x (i := .iconst 4) (len := 1) (p' := 90) (s' := [.int 4, .ref 36]) rfl rfl rfl ?_
              obtain ⟨p_20, G_20, H⟩ := F_bd H
              refine ev_cv (d := d + 6) (As := [.int 4]) (a := 36) (p' := 93) rfl rfl rfl ly_36 rfl rfl rfl rfl rfl rfl rfl (F_39_ok (d := d + 5) (ht := ht) (hr_36_7 := ((congrFun (congrFun e_19 36) 7).trans hr_36_7)) G_20) ?_
              refine ev_st (st' := [.int p_20.1]) rfl ?_
              have e_20 := F_39_R G_20
              obtain ⟨b_21, H⟩ := F_gd H
              obtain rfl := Option.some.inj H
              exact ev_iret rfl rfl rfl (fit_b b_21)
            · have n_300 : (300 : Int) ≠ ((gI σ 2 3) : Int32).toInt := i32_ne (k := 300) (by decide) c_1
              have n_301 : (301 : Int) ≠ ((gI σ 2 3) : Int32).toInt := i32_ne (k := 301) (by decide) c_4
              have n_303 : (303 : Int) ≠ ((gI σ 2 3) : Int32).toInt := i32_ne (k := 303) (by decide) c_7
              have n_304 : (304 : Int) ≠ ((gI σ 2 3) : Int32).toInt := i32_ne (k := 304) (by decide) c_10
              have n_305 : (305 : Int) ≠ ((gI σ 2 3) : Int32).toInt := i32_ne (k := 305) (by decide) c_14
              have n_308 : (308 : Int) ≠ ((gI σ 2 3) : Int32).toInt := i32_ne (k := 308) (by decide) c_18
              refine ev_ts (off := 115) (t := 122) rfl rfl ?hsw rfl ?_
              case hsw =>
                by_cases hq : ((gI σ 2 3) : Int32).toInt < 300 ∨ 308 < ((gI σ 2 3) : Int32).toInt
                · exact if_pos hq
                · rw [if_neg hq]
                  have hw : ((gI σ 2 3) : Int32).toInt = 302 ∨ ((gI σ 2 3) : Int32).toInt = 306 ∨ ((gI σ 2 3) : Int32).toInt = 307 := by omega
                  rcases hw with hw | hw | hw <;> rw [hw] <;> rfl
              refine ev_x (i := .iconst 0) (len := 1) (p' := 123) (s' := [.int 0]) rfl rfl rfl ?_
              obtain rfl := Option.some.inj H
              exact ev_iret rfl rfl rfl rfl
/-- GameText$Parser.takesInDefinition()Z -/
def F_49 (N : Nat) (t : Nat) (σ : st_S) : Option (Int32 × st_S) :=
  if (gI σ 36 8) = 1 then
    if aB (gI σ 36 14) (gN σ (t + 4)) then
    if aB (gI σ 36 14) (gN σ (t + 5)) then
    if (gI σ 2 3) = 261 then
      if aB (gI σ 36 14) (gN σ (t + 2)) then
      (F_32 N (if (gE (σ) (t + 2) ((gI σ 36 14) : Int32).toNatClampNeg) = 29 then 3 else 2 : Int32) (st_e (st_e (σ) (t + 4) (((gI σ 36 14) : Int32).toNatClampNeg) (gI σ 2 4)) (t + 5) (((gI σ 36 14) : Int32).toNatClampNeg) (gI σ 2 5))).bind fun p_7 =>
      some ((if p_7.1 = 0 then 0 else 1 : Int32), p_7.2)
      else none
    else
      some (0, st_e (st_e (σ) (t + 4) (((gI σ 36 14) : Int32).toNatClampNeg) (gI σ 2 4)) (t + 5) (((gI σ 36 14) : Int32).toNatClampNeg) (gI σ 2 5))
    else none
    else none
  else
  if (gI σ 36 8) = 2 then
    if (gI σ 2 3) = 61 then
      (F_39 N t 0 (σ)).bind fun p_11 =>
      some ((if p_11.1 = 0 then 0 else 1 : Int32), p_11.2)
    else
      some (0, σ)
  else
  if (gI σ 36 8) = 3 then
    if (gI σ 2 3) = 58 then
      (F_32 N 4 (σ)).bind fun p_15 =>
      some ((if p_15.1 = 0 then 0 else 1 : Int32), p_15.2)
    else
      some (0, σ)
  else
  if (gI σ 36 8) = 4 then
    if (gI σ 2 3) = 302 then
      if aB (gI σ 36 14) (gN σ (t + 6)) then
      (F_32 N 5 (st_e (σ) (t + 6) (((gI σ 36 14) : Int32).toNatClampNeg) 2)).bind fun p_20 =>
      if (p_20.1 = 0 ∨ p_20.1 = 1) then
      some (p_20.1, p_20.2)
      else none
      else none
    else
      if aB (gI σ 36 14) (gN σ (t + 6)) then
      (F_39 N t 1 (st_e (σ) (t + 6) (((gI σ 36 14) : Int32).toNatClampNeg) 1)).bind fun p_23 =>
      (F_45 N t (p_23.2)).bind fun p_24 =>
      if (p_24.1 = 0 ∨ p_24.1 = 1) then
      some (p_24.1, p_24.2)
      else none
      else none
  else
  if (gI σ 36 8) = 5 then
    if (gI σ 2 3) = 306 then
      (F_39 N t 3 (σ)).bind fun p_28 =>
      if (p_28.1 = 0 ∨ p_28.1 = 1) then
      some (p_28.1, p_28.2)
      else none
    else
      if (gI σ 2 3) = 59 then
        (F_40 N t (σ)).bind fun p_31 =>
        some ((if p_31.1 = 0 then 0 else 1 : Int32), p_31.2)
      else
        some (0, σ)
  else
    some (0, σ)
set_option maxRecDepth 100000 in
theorem F_49_R {N : Nat} {t : Nat} {σ : st_S} {p : Int32 × st_S} (H : F_49 N t σ = some p) : gR p.2 = gR σ := by
  unfold F_49 at H
  refine F_if H (fun _ H => ?_) (fun _ H => ?_)
  · obtain ⟨_, H⟩ := F_gd H
    obtain ⟨_, H⟩ := F_gd H
    refine F_if H (fun _ H => ?_) (fun _ H => ?_)
    · obtain ⟨_, H⟩ := F_gd H
      obtain ⟨p_7, G_7, H⟩ := F_bd H
      obtain rfl := Option.some.inj H
      exact ((F_32_R G_7).trans rfl)
    · obtain rfl := Option.some.inj H
      exact rfl
  · refine F_if H (fun _ H => ?_) (fun _ H => ?_)
    · refine F_if H (fun _ H => ?_) (fun _ H => ?_)
      · obtain ⟨p_11, G_11, H⟩ := F_bd H
        obtain rfl := Option.some.inj H
        exact ((F_39_R G_11).trans rfl)
      · obtain rfl := Option.some.inj H
        exact rfl
    · refine F_if H (fun _ H => ?_) (fun _ H => ?_)
      · refine F_if H (fun _ H => ?_) (fun _ H => ?_)
        · obtain ⟨p_15, G_15, H⟩ := F_bd H
          obtain rfl := Option.some.inj H
          exact ((F_32_R G_15).trans rfl)
        · obtain rfl := Option.some.inj H
          exact rfl
      · refine F_if H (fun _ H => ?_) (fun _ H => ?_)
        · refine F_if H (fun _ H => ?_) (fun _ H => ?_)
          · obtain ⟨_, H⟩ := F_gd H
            obtain ⟨p_20, G_20, H⟩ := F_bd H
            obtain ⟨_, H⟩ := F_gd H
            obtain rfl := Option.some.inj H
            exact ((F_32_R G_20).trans rfl)
          · obtain ⟨_, H⟩ := F_gd H
            obtain ⟨p_23, G_23, H⟩ := F_bd H
            obtain ⟨p_24, G_24, H⟩ := F_bd H
            obtain ⟨_, H⟩ := F_gd H
            obtain rfl := Option.some.inj H
            exact ((F_45_R G_24).trans ((F_39_R G_23).trans rfl))
        · refine F_if H (fun _ H => ?_) (fun _ H => ?_)
          · refine F_if H (fun _ H => ?_) (fun _ H => ?_)
            · obtain ⟨p_28, G_28, H⟩ := F_bd H
              obtain ⟨_, H⟩ := F_gd H
              obtain rfl := Option.some.inj H
              exact ((F_39_R G_28).trans rfl)
            · refine F_if H (fun _ H => ?_) (fun _ H => ?_)
              · obtain ⟨p_31, G_31, H⟩ := F_bd H
                obtain rfl := Option.some.inj H
                exact ((F_40_R G_31).trans rfl)
              · obtain rfl := Option.some.inj H
                exact rfl
          · obtain rfl := Option.some.inj H
            exact rfl
set_option maxHeartbeats 4000000 in
set_option maxRecDepth 100000 in
theorem F_49_ok {N d : Nat} {t : Nat} (ht : t = 4 ∨ t = 20) {σ : st_S} {p : Int32 × st_S} (hr_36_7 : gR σ 36 7 = (t + 1)) (H : F_49 N t σ = some p) : vz_ev P0 (d + 8) 49 0 (lv_args 0 [.ref 36]) [] (hp σ) (.inl (some (.int p.1)), hp p.2) := by
  unfold F_49 at H
  rcases ht with rfl | rfl
  · refine ev_x (i := .aload_n 0) (len := 1) (p' := 1) (s' := [.ref 36]) rfl rfl rfl ?_
    refine ev_gc (p' := 4) (v := 2) rfl rfl rfl ly_36 rfl rfl ?_
    refine ev_gi (p' := 7) (v := (gI σ 2 3)) rfl rfl rfl ly_2 rfl rfl rfl ?_
    refine ev_x (i := .istore_n 1) (len := 1) (p' := 8) (s' := []) (l' := [(1, .int (gI σ 2 3)), (0, .ref 36)]) rfl rfl rfl ?_
    refine ev_x (i := .aload_n 0) (len := 1) (p' := 9) (s' := [.ref 36]) rfl rfl rfl ?_
    refine ev_gi (p' := 12) (v := (gI σ 36 8)) rfl rfl rfl ly_36 rfl rfl rfl ?_
    refine F_if H (fun c_1 H => ?_) (fun c_1 H => ?_)
    · refine ev_st (st' := [.int 1]) (congrArg (fun z => Value.int z :: []) c_1) ?_
      refine ev_ts (off := 36) (t := 48) rfl rfl (by decide) rfl ?_
      refine ev_x (i := .aload_n 0) (len := 1) (p' := 49) (s' := [.ref 36]) rfl rfl rfl ?_
      refine ev_gr (p' := 52) (v := 5) rfl rfl rfl ly_36 rfl rfl hr_36_7 ?_
      refine ev_gc (p' := 55) (v := 8) rfl rfl rfl ly_5 rfl rfl ?_
      refine ev_x (i := .aload_n 0) (len := 1) (p' := 56) (s' := [.ref 36, .ref 8]) rfl rfl rfl ?_
      refine ev_gi (p' := 59) (v := (gI σ 36 14)) rfl rfl rfl ly_36 rfl rfl rfl ?_
      refine ev_x (i := .aload_n 0) (len := 1) (p' := 60) (s' := [.ref 36, .int (gI σ 36 14), .ref 8]) rfl rfl rfl ?_
      refine ev_gc (p' := 63) (v := 2) rfl rfl rfl ly_36 rfl rfl ?_
      refine ev_gi (p' := 66) (v := (gI σ 2 4)) rfl rfl rfl ly_2 rfl rfl rfl ?_
      obtain ⟨b_2, H⟩ := F_gd H
      refine ev_pa (j := ((gI σ 36 14) : Int32).toNatClampNeg) (p' := 67) rfl rfl ly_8 rfl (gd_in b_2) rfl ?_
      refine ev_x (i := .aload_n 0) (len := 1) (p' := 68) (s' := [.ref 36]) rfl rfl rfl ?_
      refine ev_gr (p' := 71) (v := 5) rfl rfl rfl ly_36 rfl rfl hr_36_7 ?_
      refine ev_gc (p' := 74) (v := 9) rfl rfl rfl ly_5 rfl rfl ?_
      refine ev_x (i := .aload_n 0) (len := 1) (p' := 75) (s' := [.ref 36, .ref 9]) rfl rfl rfl ?_
      refine ev_gi (p' := 78) (v := (gI σ 36 14)) rfl rfl rfl ly_36 rfl rfl rfl ?_
      refine ev_x (i := .aload_n 0) (len := 1) (p' := 79) (s' := [.ref 36, .int (gI σ 36 14), .ref 9]) rfl rfl rfl ?_
      refine ev_gc (p' := 82) (v := 2) rfl rfl rfl ly_36 rfl rfl ?_
      refine ev_gi (p' := 85) (v := (gI σ 2 5)) rfl rfl rfl ly_2 rfl rfl rfl ?_
      obtain ⟨b_3, H⟩ := F_gd H
      refine ev_pa (j := ((gI σ 36 14) : Int32).toNatClampNeg) (p' := 86) rfl rfl ly_9 rfl (gd_in b_3) rfl ?_
      refine ev_x (i := .iload_n 1) (len := 1) (p' := 87) (s' := [.int (gI σ 2 3)]) rfl rfl rfl ?_
      refine ev_x (i := .sipush 261) (len := 3) (p' := 90) (s' := [.int 261, .int (gI σ 2 3)]) rfl rfl rfl ?_
      refine F_if H (fun c_4 H => ?_) (fun c_4 H => ?_)
      · refine ev_b2 (t := 126) (p' := 93) rfl rfl rfl (if_neg (fun q => q c_4)) ?_
        refine ev_x (i := .aload_n 0) (len := 1) (p' := 94) (s' := [.ref 36]) rfl rfl rfl ?_
        refine ev_x (i := .aload_n 0) (len := 1) (p' := 95) (s' := [.ref 36, .ref 36]) rfl rfl rfl ?_
        refine ev_gr (p' := 98) (v := 5) rfl rfl rfl ly_36 rfl rfl hr_36_7 ?_
        refine ev_gc (p' := 101) (v := 6) rfl rfl rfl ly_5 rfl rfl ?_
        refine ev_x (i := .aload_n 0) (len := 1) (p' := 102) (s' := [.ref 36, .ref 6, .ref 36]) rfl rfl rfl ?_
        refine ev_gi (p' := 105) (v := (gI σ 36 14)) rfl rfl rfl ly_36 rfl rfl rfl ?_
        obtain ⟨b_5, H⟩ := F_gd H
        refine ev_ga (p' := 106) (v := (gE (σ) 6 ((gI σ 36 14) : Int32).toNatClampNeg)) rfl rfl ly_6 rfl (gd_in b_5) rfl ?_
        refine ev_x (i := .bipush 29) (len := 2) (p' := 108) (s' := [.int 29, .int (gE (σ) 6 ((gI σ 36 14) : Int32).toNatClampNeg), .ref 36]) rfl rfl rfl ?_
        refine F_jn (A := vz_ev P0 (d + 8) 49 116 [(1, .int (gI σ 2 3)), (0, .ref 36)] [.int (if (gE (σ) 6 ((gI σ 36 14) : Int32).toNatClampNeg) = 29 then 3 else 2 : Int32), .ref 36] (hp (st_e (st_e (σ) 8 (((gI σ 36 14) : Int32).toNatClampNeg) (gI σ 2 4)) 9 (((gI σ 36 14) : Int32).toNatClampNeg) (gI σ 2 5))) (.inl (some (.int p.1)), hp p.2)) ?_ (fun J => ?_)
        · obtain ⟨p_7, G_7, H⟩ := F_bd H
          refine ev_cv (d := d + 7) (As := [.int (if (gE (σ) 6 ((gI σ 36 14) : Int32).toNatClampNeg) = 29 then 3 else 2 : Int32)]) (a := 36) (p' := 119) rfl rfl rfl ly_36 rfl rfl rfl rfl rfl rfl rfl (F_32_ok (d := d + 6)   G_7) ?_
          refine ev_st (st' := [.int p_7.1]) rfl ?_
          have e_7 := F_32_R G_7
          refine F_jn (A := vz_ev P0 (d + 8) 49 127 [(1, .int (gI σ 2 3)), (0, .ref 36)] [.int (if p_7.1 = 0 then 0 else 1 : Int32)] (hp (p_7.2)) (.inl (some (.int p.1)), hp p.2)) ?_ (fun J => ?_)
          · obtain rfl := Option.some.inj H
            exact ev_iret rfl rfl rfl (fit_b (by (repeat' split) <;> decide))
          · by_cases c_8 : p_7.1 = 0
            · refine ev_b0 (t := 126) (p' := 126) rfl rfl rfl (if_pos c_8) ?_
              refine ev_x (i := .iconst 0) (len := 1) (p' := 127) (s' := [.int 0]) rfl rfl rfl ?_
              exact ev_st (congrArg (fun z => Value.int z :: []) (by rw [if_pos c_8])) J
            · refine ev_b0 (t := 126) (p' := 122) rfl rfl rfl (if_neg c_8) ?_
              refine ev_x (i := .iconst 1) (len := 1) (p' := 123) (s' := [.int 1]) rfl rfl rfl ?_
              refine ev_x (i := .goto 4) (len := 3) (p' := 127) (s' := [.int 1]) rfl rfl rfl ?_
              exact ev_st (congrArg (fun z => Value.int z :: []) (by rw [if_neg c_8])) J
        · by_cases c_6 : (gE (σ) 6 ((gI σ 36 14) : Int32).toNatClampNeg) = 29
          · refine ev_b2 (t := 115) (p' := 111) rfl rfl rfl (if_neg (fun q => q c_6)) ?_
            refine ev_x (i := .iconst 3) (len := 1) (p' := 112) (s' := [.int 3, .ref 36]) rfl rfl rfl ?_
            refine ev_x (i := .goto 4) (len := 3) (p' := 116) (s' := [.int 3, .ref 36]) rfl rfl rfl ?_
            exact ev_st (congrArg (fun z => Value.int z :: [.ref 36]) (by rw [if_pos c_6])) J
          · refine ev_b2 (t := 115) (p' := 115) rfl rfl rfl (if_pos c_6) ?_
            refine ev_x (i := .iconst 2) (len := 1) (p' := 116) (s' := [.int 2, .ref 36]) rfl rfl rfl ?_
            exact ev_st (congrArg (fun z => Value.int z :: [.ref 36]) (by rw [if_neg c_6])) J
      · refine ev_b2 (t := 126) (p' := 126) rfl rfl rfl (if_pos c_4) ?_
        refine ev_x (i := .iconst 0) (len := 1) (p' := 127) (s' := [.int 0]) rfl rfl rfl ?_
        obtain rfl := Option.some.inj H
        exact ev_iret rfl rfl rfl rfl
    · refine F_if H (fun c_9 H => ?_) (fun c_9 H => ?_)
      · refine ev_st (st' := [.int 2]) (congrArg (fun z => Value.int z :: []) c_9) ?_
        refine ev_ts (off := 116) (t := 128) rfl rfl (by decide) rfl ?_
        refine ev_x (i := .iload_n 1) (len := 1) (p' := 129) (s' := [.int (gI σ 2 3)]) rfl rfl rfl ?_
        refine ev_x (i := .bipush 61) (len := 2) (p' := 131) (s' := [.int 61, .int (gI σ 2 3)]) rfl rfl rfl ?_
        refine F_if H (fun c_10 H => ?_) (fun c_10 H => ?_)
        · refine ev_b2 (t := 146) (p' := 134) rfl rfl rfl (if_neg (fun q => q c_10)) ?_
          refine ev_x (i := .aload_n 0) (len := 1) (p' := 135) (s' := [.ref 36]) rfl rfl rfl ?_
          refine ev_x (i := .iconst 0) (len := 1) (p' := 136) (s' := [.int 0, .ref 36]) rfl rfl rfl ?_
          obtain ⟨p_11, G_11, H⟩ := F_bd H
          refine ev_cv (d := d + 7) (As := [.int 0]) (a := 36) (p' := 139) rfl rfl rfl ly_36 rfl rfl rfl rfl rfl rfl rfl (F_39_ok (d := d + 6) (ht := (Or.inl rfl)) (hr_36_7 := hr_36_7) G_11) ?_
          refine ev_st (st' := [.int p_11.1]) rfl ?_
          have e_11 := F_39_R G_11
          refine F_jn (A := vz_ev P0 (d + 8) 49 147 [(1, .int (gI σ 2 3)), (0, .ref 36)] [.int (if p_11.1 = 0 then 0 else 1 : Int32)] (hp (p_11.2)) (.inl (some (.int p.1)), hp p.2)) ?_ (fun J => ?_)
          · obtain rfl := Option.some.inj H
            exact ev_iret rfl rfl rfl (fit_b (by (repeat' split) <;> decide))
          · by_cases c_12 : p_11.1 = 0
            · refine ev_b0 (t := 146) (p' := 146) rfl rfl rfl (if_pos c_12) ?_
              refine ev_x (i := .iconst 0) (len := 1) (p' := 147) (s' := [.int 0]) rfl rfl rfl ?_
              exact ev_st (congrArg (fun z => Value.int z :: []) (by rw [if_pos c_12])) J
            · refine ev_b0 (t := 146) (p' := 142) rfl rfl rfl (if_neg c_12) ?_
              refine ev_x (i := .iconst 1) (len := 1) (p' := 143) (s' := [.int 1]) rfl rfl rfl ?_
              refine ev_x (i := .goto 4) (len := 3) (p' := 147) (s' := [.int 1]) rfl rfl rfl ?_
              exact ev_st (congrArg (fun z => Value.int z :: []) (by rw [if_neg c_12])) J
        · refine ev_b2 (t := 146) (p' := 146) rfl rfl rfl (if_pos c_10) ?_
          refine ev_x (i := .iconst 0) (len := 1) (p' := 147) (s' := [.int 0]) rfl rfl rfl ?_
          obtain rfl := Option.some.inj H
          exact ev_iret rfl rfl rfl rfl
      · refine F_if H (fun c_13 H => ?_) (fun c_13 H => ?_)
        · refine ev_st (st' := [.int 3]) (congrArg (fun z => Value.int z :: []) c_13) ?_
          refine ev_ts (off := 136) (t := 148) rfl rfl (by decide) rfl ?_
          refine ev_x (i := .iload_n 1) (len := 1) (p' := 149) (s' := [.int (gI σ 2 3)]) rfl rfl rfl ?_
          refine ev_x (i := .bipush 58) (len := 2) (p' := 151) (s' := [.int 58, .int (gI σ 2 3)]) rfl rfl rfl ?_
          refine F_if H (fun c_14 H => ?_) (fun c_14 H => ?_)
          · refine ev_b2 (t := 166) (p' := 154) rfl rfl rfl (if_neg (fun q => q c_14)) ?_
            refine ev_x (i := .aload_n 0) (len := 1) (p' := 155) (s' := [.ref 36]) rfl rfl rfl ?_
            refine ev_x (i := .iconst 4) (len := 1) (p' := 156) (s' := [.int 4, .ref 36]) rfl rfl rfl ?_
            obtain ⟨p_15, G_15, H⟩ := F_bd H
            refine ev_cv (d := d + 7) (As := [.int 4]) (a := 36) (p' := 159) rfl rfl rfl ly_36 rfl rfl rfl rfl rfl rfl rfl (F_32_ok (d := d + 6)   G_15) ?_
            refine ev_st (st' := [.int p_15.1]) rfl ?_
            have e_15 := F_32_R G_15
            refine F_jn (A := vz_ev P0 (d + 8) 49 167 [(1, .int (gI σ 2 3)), (0, .ref 36)] [.int (if p_15.1 = 0 then 0 else 1 : Int32)] (hp (p_15.2)) (.inl (some (.int p.1)), hp p.2)) ?_ (fun J => ?_)
            · obtain rfl := Option.some.inj H
              exact ev_iret rfl rfl rfl (fit_b (by (repeat' split) <;> decide))
            · by_cases c_16 : p_15.1 = 0
              · refine ev_b0 (t := 166) (p' := 166) rfl rfl rfl (if_pos c_16) ?_
                refine ev_x (i := .iconst 0) (len := 1) (p' := 167) (s' := [.int 0]) rfl rfl rfl ?_
                exact ev_st (congrArg (fun z => Value.int z :: []) (by rw [if_pos c_16])) J
              · refine ev_b0 (t := 166) (p' := 162) rfl rfl rfl (if_neg c_16) ?_
                refine ev_x (i := .iconst 1) (len := 1) (p' := 163) (s' := [.int 1]) rfl rfl rfl ?_
                refine ev_x (i := .goto 4) (len := 3) (p' := 167) (s' := [.int 1]) rfl rfl rfl ?_
                exact ev_st (congrArg (fun z => Value.int z :: []) (by rw [if_neg c_16])) J
          · refine ev_b2 (t := 166) (p' := 166) rfl rfl rfl (if_pos c_14) ?_
            refine ev_x (i := .iconst 0) (len := 1) (p' := 167) (s' := [.int 0]) rfl rfl rfl ?_
            obtain rfl := Option.some.inj H
            exact ev_iret rfl rfl rfl rfl
        · refine F_if H (fun c_17 H => ?_) (fun c_17 H => ?_)
          · refine ev_st (st' := [.int 4]) (congrArg (fun z => Value.int z :: []) c_17) ?_
            refine ev_ts (off := 156) (t := 168) rfl rfl (by decide) rfl ?_
            refine ev_x (i := .iload_n 1) (len := 1) (p' := 169) (s' := [.int (gI σ 2 3)]) rfl rfl rfl ?_
            refine ev_x (i := .sipush 302) (len := 3) (p' := 172) (s' := [.int 302, .int (gI σ 2 3)]) rfl rfl rfl ?_
            refine F_if H (fun c_18 H => ?_) (fun c_18 H => ?_)
            · refine ev_b2 (t := 194) (p' := 175) rfl rfl rfl (if_neg (fun q => q c_18)) ?_
              refine ev_x (i := .aload_n 0) (len := 1) (p' := 176) (s' := [.ref 36]) rfl rfl rfl ?_
              refine ev_gr (p' := 179) (v := 5) rfl rfl rfl ly_36 rfl rfl hr_36_7 ?_
              refine ev_gc (p' := 182) (v := 10) rfl rfl rfl ly_5 rfl rfl ?_
              refine ev_x (i := .aload_n 0) (len := 1) (p' := 183) (s' := [.ref 36, .ref 10]) rfl rfl rfl ?_
              refine ev_gi (p' := 186) (v := (gI σ 36 14)) rfl rfl rfl ly_36 rfl rfl rfl ?_
              refine ev_x (i := .iconst 2) (len := 1) (p' := 187) (s' := [.int 2, .int (gI σ 36 14), .ref 10]) rfl rfl rfl ?_
              obtain ⟨b_19, H⟩ := F_gd H
              refine ev_pa (j := ((gI σ 36 14) : Int32).toNatClampNeg) (p' := 188) rfl rfl ly_10 rfl (gd_in b_19) rfl ?_
              refine ev_x (i := .aload_n 0) (len := 1) (p' := 189) (s' := [.ref 36]) rfl rfl rfl ?_
              refine ev_x (i := .iconst 5) (len := 1) (p' := 190) (s' := [.int 5, .ref 36]) rfl rfl rfl ?_
              obtain ⟨p_20, G_20, H⟩ := F_bd H
              refine ev_cv (d := d + 7) (As := [.int 5]) (a := 36) (p' := 193) rfl rfl rfl ly_36 rfl rfl rfl rfl rfl rfl rfl (F_32_ok (d := d + 6)   G_20) ?_
              refine ev_st (st' := [.int p_20.1]) rfl ?_
              have e_20 := F_32_R G_20
              obtain ⟨b_21, H⟩ := F_gd H
              obtain rfl := Option.some.inj H
              exact ev_iret rfl rfl rfl (fit_b b_21)
            · refine ev_b2 (t := 194) (p' := 194) rfl rfl rfl (if_pos c_18) ?_
              refine ev_x (i := .aload_n 0) (len := 1) (p' := 195) (s' := [.ref 36]) rfl rfl rfl ?_
              refine ev_gr (p' := 198) (v := 5) rfl rfl rfl ly_36 rfl rfl hr_36_7 ?_
              refine ev_gc (p' := 201) (v := 10) rfl rfl rfl ly_5 rfl rfl ?_
              refine ev_x (i := .aload_n 0) (len := 1) (p' := 202) (s' := [.ref 36, .ref 10]) rfl rfl rfl ?_
              refine ev_gi (p' := 205) (v := (gI σ 36 14)) rfl rfl rfl ly_36 rfl rfl rfl ?_
              refine ev_x (i := .iconst 1) (len := 1) (p' := 206) (s' := [.int 1, .int (gI σ 36 14), .ref 10]) rfl rfl rfl ?_
              obtain ⟨b_22, H⟩ := F_gd H
              refine ev_pa (j := ((gI σ 36 14) : Int32).toNatClampNeg) (p' := 207) rfl rfl ly_10 rfl (gd_in b_22) rfl ?_
              refine ev_x (i := .aload_n 0) (len := 1) (p' := 208) (s' := [.ref 36]) rfl rfl rfl ?_
              refine ev_x (i := .iconst 1) (len := 1) (p' := 209) (s' := [.int 1, .ref 36]) rfl rfl rfl ?_
              obtain ⟨p_23, G_23, H⟩ := F_bd H
              refine ev_cv (d := d + 7) (As := [.int 1]) (a := 36) (p' := 212) rfl rfl rfl ly_36 rfl rfl rfl rfl rfl rfl rfl (F_39_ok (d := d + 6) (ht := (Or.inl rfl)) (hr_36_7 := hr_36_7) G_23) ?_
              refine ev_st (st' := [.int p_23.1]) rfl ?_
              have e_23 := F_39_R G_23
              refine ev_x (i := .pop) (len := 1) (p' := 213) (s' := []) rfl rfl rfl ?_
              refine ev_x (i := .aload_n 0) (len := 1) (p' := 214) (s' := [.ref 36]) rfl rfl rfl ?_
              obtain ⟨p_24, G_24, H⟩ := F_bd H
              refine ev_cv (d := d + 7) (As := []) (a := 36) (p' := 217) rfl rfl rfl ly_36 rfl rfl rfl rfl rfl rfl rfl (F_45_ok (d := d + 0) (ht := (Or.inl rfl)) (hr_36_7 := ((congrFun (congrFun e_23 36) 7).trans hr_36_7)) G_24) ?_
              refine ev_st (st' := [.int p_24.1]) rfl ?_
              have e_24 := F_45_R G_24
              obtain ⟨b_25, H⟩ := F_gd H
              obtain rfl := Option.some.inj H
              exact ev_iret rfl rfl rfl (fit_b b_25)
          · refine F_if H (fun c_26 H => ?_) (fun c_26 H => ?_)
            · refine ev_st (st' := [.int 5]) (congrArg (fun z => Value.int z :: []) c_26) ?_
              refine ev_ts (off := 206) (t := 218) rfl rfl (by decide) rfl ?_
              refine ev_x (i := .iload_n 1) (len := 1) (p' := 219) (s' := [.int (gI σ 2 3)]) rfl rfl rfl ?_
              refine ev_x (i := .sipush 306) (len := 3) (p' := 222) (s' := [.int 306, .int (gI σ 2 3)]) rfl rfl rfl ?_
              refine F_if H (fun c_27 H => ?_) (fun c_27 H => ?_)
              · refine ev_b2 (t := 233) (p' := 225) rfl rfl rfl (if_neg (fun q => q c_27)) ?_
                refine ev_x (i := .aload_n 0) (len := 1) (p' := 226) (s' := [.ref 36]) rfl rfl rfl ?_
                refine ev_x (i := .iconst 3) (len := 1) (p' := 227) (s' := [.int 3, .ref 36]) rfl rfl rfl ?_
                obtain ⟨p_28, G_28, H⟩ := F_bd H
                refine ev_cv (d := d + 7) (As := [.int 3]) (a := 36) (p' := 230) rfl rfl rfl ly_36 rfl rfl rfl rfl rfl rfl rfl (F_39_ok (d := d + 6) (ht := (Or.inl rfl)) (hr_36_7 := hr_36_7) G_28) ?_
                refine ev_st (st' := [.int p_28.1]) rfl ?_
                have e_28 := F_39_R G_28
                refine ev_x (i := .goto 21) (len := 3) (p' := 251) (s' := [.int p_28.1]) rfl rfl rfl ?_
                obtain ⟨b_29, H⟩ := F_gd H
                obtain rfl := Option.some.inj H
                exact ev_iret rfl rfl rfl (fit_b b_29)
              · refine ev_b2 (t := 233) (p' := 233) rfl rfl rfl (if_pos c_27) ?_
                refine ev_x (i := .iload_n 1) (len := 1) (p' := 234) (s' := [.int (gI σ 2 3)]) rfl rfl rfl ?_
                refine ev_x (i := .bipush 59) (len := 2) (p' := 236) (s' := [.int 59, .int (gI σ 2 3)]) rfl rfl rfl ?_
                refine F_if H (fun c_30 H => ?_) (fun c_30 H => ?_)
                · refine ev_b2 (t := 250) (p' := 239) rfl rfl rfl (if_neg (fun q => q c_30)) ?_
                  refine ev_x (i := .aload_n 0) (len := 1) (p' := 240) (s' := [.ref 36]) rfl rfl rfl ?_
                  obtain ⟨p_31, G_31, H⟩ := F_bd H
                  refine ev_cv (d := d + 7) (As := []) (a := 36) (p' := 243) rfl rfl rfl ly_36 rfl rfl rfl rfl rfl rfl rfl (F_40_ok (d := d + 1) (ht := (Or.inl rfl)) (hr_36_7 := hr_36_7) G_31) ?_
                  refine ev_st (st' := [.int p_31.1]) rfl ?_
                  have e_31 := F_40_R G_31
                  refine F_jn (A := vz_ev P0 (d + 8) 49 251 [(1, .int (gI σ 2 3)), (0, .ref 36)] [.int (if p_31.1 = 0 then 0 else 1 : Int32)] (hp (p_31.2)) (.inl (some (.int p.1)), hp p.2)) ?_ (fun J => ?_)
                  · obtain rfl := Option.some.inj H
                    exact ev_iret rfl rfl rfl (fit_b (by (repeat' split) <;> decide))
                  · by_cases c_32 : p_31.1 = 0
                    · refine ev_b0 (t := 250) (p' := 250) rfl rfl rfl (if_pos c_32) ?_
                      refine ev_x (i := .iconst 0) (len := 1) (p' := 251) (s' := [.int 0]) rfl rfl rfl ?_
                      exact ev_st (congrArg (fun z => Value.int z :: []) (by rw [if_pos c_32])) J
                    · refine ev_b0 (t := 250) (p' := 246) rfl rfl rfl (if_neg c_32) ?_
                      refine ev_x (i := .iconst 1) (len := 1) (p' := 247) (s' := [.int 1]) rfl rfl rfl ?_
                      refine ev_x (i := .goto 4) (len := 3) (p' := 251) (s' := [.int 1]) rfl rfl rfl ?_
                      exact ev_st (congrArg (fun z => Value.int z :: []) (by rw [if_neg c_32])) J
                · refine ev_b2 (t := 250) (p' := 250) rfl rfl rfl (if_pos c_30) ?_
                  refine ev_x (i := .iconst 0) (len := 1) (p' := 251) (s' := [.int 0]) rfl rfl rfl ?_
                  obtain rfl := Option.some.inj H
                  exact ev_iret rfl rfl rfl rfl
            · have n_1 : (1 : Int) ≠ ((gI σ 36 8) : Int32).toInt := i32_ne (k := 1) (by decide) c_1
              have n_2 : (2 : Int) ≠ ((gI σ 36 8) : Int32).toInt := i32_ne (k := 2) (by decide) c_9
              have n_3 : (3 : Int) ≠ ((gI σ 36 8) : Int32).toInt := i32_ne (k := 3) (by decide) c_13
              have n_4 : (4 : Int) ≠ ((gI σ 36 8) : Int32).toInt := i32_ne (k := 4) (by decide) c_17
              have n_5 : (5 : Int) ≠ ((gI σ 36 8) : Int32).toInt := i32_ne (k := 5) (by decide) c_26
              refine ev_ts (off := 240) (t := 252) rfl rfl ?hsw rfl ?_
              case hsw =>
                by_cases hq : ((gI σ 36 8) : Int32).toInt < 1 ∨ 5 < ((gI σ 36 8) : Int32).toInt
                · exact if_pos hq
                · rw [if_neg hq]
                  exact absurd hq (by omega)
              refine ev_x (i := .iconst 0) (len := 1) (p' := 253) (s' := [.int 0]) rfl rfl rfl ?_
              obtain rfl := Option.some.inj H
              exact ev_iret rfl rfl rfl rfl
  · refine ev_x (i := .aload_n 0) (len := 1) (p' := 1) (s' := [.ref 36]) rfl rfl rfl ?_
    refine ev_gc (p' := 4) (v := 2) rfl rfl rfl ly_36 rfl rfl ?_
    refine ev_gi (p' := 7) (v := (gI σ 2 3)) rfl rfl rfl ly_2 rfl rfl rfl ?_
    refine ev_x (i := .istore_n 1) (len := 1) (p' := 8) (s' := []) (l' := [(1, .int (gI σ 2 3)), (0, .ref 36)]) rfl rfl rfl ?_
    refine ev_x (i := .aload_n 0) (len := 1) (p' := 9) (s' := [.ref 36]) rfl rfl rfl ?_
    refine ev_gi (p' := 12) (v := (gI σ 36 8)) rfl rfl rfl ly_36 rfl rfl rfl ?_
    refine F_if H (fun c_1 H => ?_) (fun c_1 H => ?_)
    · refine ev_st (st' := [.int 1]) (congrArg (fun z => Value.int z :: []) c_1) ?_
      refine ev_ts (off := 36) (t := 48) rfl rfl (by decide) rfl ?_
      refine ev_x (i := .aload_n 0) (len := 1) (p' := 49) (s' := [.ref 36]) rfl rfl rfl ?_
      refine ev_gr (p' := 52) (v := 21) rfl rfl rfl ly_36 rfl rfl hr_36_7 ?_
      refine ev_gc (p' := 55) (v := 24) rfl rfl rfl ly_21 rfl rfl ?_
      refine ev_x (i := .aload_n 0) (len := 1) (p' := 56) (s' := [.ref 36, .ref 24]) rfl rfl rfl ?_
      refine ev_gi (p' := 59) (v := (gI σ 36 14)) rfl rfl rfl ly_36 rfl rfl rfl ?_
      refine ev_x (i := .aload_n 0) (len := 1) (p' := 60) (s' := [.ref 36, .int (gI σ 36 14), .ref 24]) rfl rfl rfl ?_
      refine ev_gc (p' := 63) (v := 2) rfl rfl rfl ly_36 rfl rfl ?_
      refine ev_gi (p' := 66) (v := (gI σ 2 4)) rfl rfl rfl ly_2 rfl rfl rfl ?_
      obtain ⟨b_2, H⟩ := F_gd H
      refine ev_pa (j := ((gI σ 36 14) : Int32).toNatClampNeg) (p' := 67) rfl rfl ly_24 rfl (gd_in b_2) rfl ?_
      refine ev_x (i := .aload_n 0) (len := 1) (p' := 68) (s' := [.ref 36]) rfl rfl rfl ?_
      refine ev_gr (p' := 71) (v := 21) rfl rfl rfl ly_36 rfl rfl hr_36_7 ?_
      refine ev_gc (p' := 74) (v := 25) rfl rfl rfl ly_21 rfl rfl ?_
      refine ev_x (i := .aload_n 0) (len := 1) (p' := 75) (s' := [.ref 36, .ref 25]) rfl rfl rfl ?_
      refine ev_gi (p' := 78) (v := (gI σ 36 14)) rfl rfl rfl ly_36 rfl rfl rfl ?_
      refine ev_x (i := .aload_n 0) (len := 1) (p' := 79) (s' := [.ref 36, .int (gI σ 36 14), .ref 25]) rfl rfl rfl ?_
      refine ev_gc (p' := 82) (v := 2) rfl rfl rfl ly_36 rfl rfl ?_
      refine ev_gi (p' := 85) (v := (gI σ 2 5)) rfl rfl rfl ly_2 rfl rfl rfl ?_
      obtain ⟨b_3, H⟩ := F_gd H
      refine ev_pa (j := ((gI σ 36 14) : Int32).toNatClampNeg) (p' := 86) rfl rfl ly_25 rfl (gd_in b_3) rfl ?_
      refine ev_x (i := .iload_n 1) (len := 1) (p' := 87) (s' := [.int (gI σ 2 3)]) rfl rfl rfl ?_
      refine ev_x (i := .sipush 261) (len := 3) (p' := 90) (s' := [.int 261, .int (gI σ 2 3)]) rfl rfl rfl ?_
      refine F_if H (fun c_4 H => ?_) (fun c_4 H => ?_)
      · refine ev_b2 (t := 126) (p' := 93) rfl rfl rfl (if_neg (fun q => q c_4)) ?_
        refine ev_x (i := .aload_n 0) (len := 1) (p' := 94) (s' := [.ref 36]) rfl rfl rfl ?_
        refine ev_x (i := .aload_n 0) (len := 1) (p' := 95) (s' := [.ref 36, .ref 36]) rfl rfl rfl ?_
        refine ev_gr (p' := 98) (v := 21) rfl rfl rfl ly_36 rfl rfl hr_36_7 ?_
        refine ev_gc (p' := 101) (v := 22) rfl rfl rfl ly_21 rfl rfl ?_
        refine ev_x (i := .aload_n 0) (len := 1) (p' := 102) (s' := [.ref 36, .ref 22, .ref 36]) rfl rfl rfl ?_
        refine ev_gi (p' := 105) (v := (gI σ 36 14)) rfl rfl rfl ly_36 rfl rfl rfl ?_
        obtain ⟨b_5, H⟩ := F_gd H
        refine ev_ga (p' := 106) (v := (gE (σ) 22 ((gI σ 36 14) : Int32).toNatClampNeg)) rfl rfl ly_22 rfl (gd_in b_5) rfl ?_
        refine ev_x (i := .bipush 29) (len := 2) (p' := 108) (s' := [.int 29, .int (gE (σ) 22 ((gI σ 36 14) : Int32).toNatClampNeg), .ref 36]) rfl rfl rfl ?_
        refine F_jn (A := vz_ev P0 (d + 8) 49 116 [(1, .int (gI σ 2 3)), (0, .ref 36)] [.int (if (gE (σ) 22 ((gI σ 36 14) : Int32).toNatClampNeg) = 29 then 3 else 2 : Int32), .ref 36] (hp (st_e (st_e (σ) 24 (((gI σ 36 14) : Int32).toNatClampNeg) (gI σ 2 4)) 25 (((gI σ 36 14) : Int32).toNatClampNeg) (gI σ 2 5))) (.inl (some (.int p.1)), hp p.2)) ?_ (fun J => ?_)
        · obtain ⟨p_7, G_7, H⟩ := F_bd H
          refine ev_cv (d := d + 7) (As := [.int (if (gE (σ) 22 ((gI σ 36 14) : Int32).toNatClampNeg) = 29 then 3 else 2 : Int32)]) (a := 36) (p' := 119) rfl rfl rfl ly_36 rfl rfl rfl rfl rfl rfl rfl (F_32_ok (d := d + 6)   G_7) ?_
          refine ev_st (st' := [.int p_7.1]) rfl ?_
          have e_7 := F_32_R G_7
          refine F_jn (A := vz_ev P0 (d + 8) 49 127 [(1, .int (gI σ 2 3)), (0, .ref 36)] [.int (if p_7.1 = 0 then 0 else 1 : Int32)] (hp (p_7.2)) (.inl (some (.int p.1)), hp p.2)) ?_ (fun J => ?_)
          · obtain rfl := Option.some.inj H
            exact ev_iret rfl rfl rfl (fit_b (by (repeat' split) <;> decide))
          · by_cases c_8 : p_7.1 = 0
            · refine ev_b0 (t := 126) (p' := 126) rfl rfl rfl (if_pos c_8) ?_
              refine ev_x (i := .iconst 0) (len := 1) (p' := 127) (s' := [.int 0]) rfl rfl rfl ?_
              exact ev_st (congrArg (fun z => Value.int z :: []) (by rw [if_pos c_8])) J
            · refine ev_b0 (t := 126) (p' := 122) rfl rfl rfl (if_neg c_8) ?_
              refine ev_x (i := .iconst 1) (len := 1) (p' := 123) (s' := [.int 1]) rfl rfl rfl ?_
              refine ev_x (i := .goto 4) (len := 3) (p' := 127) (s' := [.int 1]) rfl rfl rfl ?_
              exact ev_st (congrArg (fun z => Value.int z :: []) (by rw [if_neg c_8])) J
        · by_cases c_6 : (gE (σ) 22 ((gI σ 36 14) : Int32).toNatClampNeg) = 29
          · refine ev_b2 (t := 115) (p' := 111) rfl rfl rfl (if_neg (fun q => q c_6)) ?_
            refine ev_x (i := .iconst 3) (len := 1) (p' := 112) (s' := [.int 3, .ref 36]) rfl rfl rfl ?_
            refine ev_x (i := .goto 4) (len := 3) (p' := 116) (s' := [.int 3, .ref 36]) rfl rfl rfl ?_
            exact ev_st (congrArg (fun z => Value.int z :: [.ref 36]) (by rw [if_pos c_6])) J
          · refine ev_b2 (t := 115) (p' := 115) rfl rfl rfl (if_pos c_6) ?_
            refine ev_x (i := .iconst 2) (len := 1) (p' := 116) (s' := [.int 2, .ref 36]) rfl rfl rfl ?_
            exact ev_st (congrArg (fun z => Value.int z :: [.ref 36]) (by rw [if_neg c_6])) J
      · refine ev_b2 (t := 126) (p' := 126) rfl rfl rfl (if_pos c_4) ?_
        refine ev_x (i := .iconst 0) (len := 1) (p' := 127) (s' := [.int 0]) rfl rfl rfl ?_
        obtain rfl := Option.some.inj H
        exact ev_iret rfl rfl rfl rfl
    · refine F_if H (fun c_9 H => ?_) (fun c_9 H => ?_)
      · refine ev_st (st' := [.int 2]) (congrArg (fun z => Value.int z :: []) c_9) ?_
        refine ev_ts (off := 116) (t := 128) rfl rfl (by decide) rfl ?_
        refine ev_x (i := .iload_n 1) (len := 1) (p' := 129) (s' := [.int (gI σ 2 3)]) rfl rfl rfl ?_
        refine ev_x (i := .bipush 61) (len := 2) (p' := 131) (s' := [.int 61, .int (gI σ 2 3)]) rfl rfl rfl ?_
        refine F_if H (fun c_10 H => ?_) (fun c_10 H => ?_)
        · refine ev_b2 (t := 146) (p' := 134) rfl rfl rfl (if_neg (fun q => q c_10)) ?_
          refine ev_x (i := .aload_n 0) (len := 1) (p' := 135) (s' := [.ref 36]) rfl rfl rfl ?_
          refine ev_x (i := .iconst 0) (len := 1) (p' := 136) (s' := [.int 0, .ref 36]) rfl rfl rfl ?_
          obtain ⟨p_11, G_11, H⟩ := F_bd H
          refine ev_cv (d := d + 7) (As := [.int 0]) (a := 36) (p' := 139) rfl rfl rfl ly_36 rfl rfl rfl rfl rfl rfl rfl (F_39_ok (d := d + 6) (ht := (Or.inr rfl)) (hr_36_7 := hr_36_7) G_11) ?_
          refine ev_st (st' := [.int p_11.1]) rfl ?_
          have e_11 := F_39_R G_11
          refine F_jn (A := vz_ev P0 (d + 8) 49 147 [(1, .int (gI σ 2 3)), (0, .ref 36)] [.int (if p_11.1 = 0 then 0 else 1 : Int32)] (hp (p_11.2)) (.inl (some (.int p.1)), hp p.2)) ?_ (fun J => ?_)
          · obtain rfl := Option.some.inj H
            exact ev_iret rfl rfl rfl (fit_b (by (repeat' split) <;> decide))
          · by_cases c_12 : p_11.1 = 0
            · refine ev_b0 (t := 146) (p' := 146) rfl rfl rfl (if_pos c_12) ?_
              refine ev_x (i := .iconst 0) (len := 1) (p' := 147) (s' := [.int 0]) rfl rfl rfl ?_
              exact ev_st (congrArg (fun z => Value.int z :: []) (by rw [if_pos c_12])) J
            · refine ev_b0 (t := 146) (p' := 142) rfl rfl rfl (if_neg c_12) ?_
              refine ev_x (i := .iconst 1) (len := 1) (p' := 143) (s' := [.int 1]) rfl rfl rfl ?_
              refine ev_x (i := .goto 4) (len := 3) (p' := 147) (s' := [.int 1]) rfl rfl rfl ?_
              exact ev_st (congrArg (fun z => Value.int z :: []) (by rw [if_neg c_12])) J
        · refine ev_b2 (t := 146) (p' := 146) rfl rfl rfl (if_pos c_10) ?_
          refine ev_x (i := .iconst 0) (len := 1) (p' := 147) (s' := [.int 0]) rfl rfl rfl ?_
          obtain rfl := Option.some.inj H
          exact ev_iret rfl rfl rfl rfl
      · refine F_if H (fun c_13 H => ?_) (fun c_13 H => ?_)
        · refine ev_st (st' := [.int 3]) (congrArg (fun z => Value.int z :: []) c_13) ?_
          refine ev_ts (off := 136) (t := 148) rfl rfl (by decide) rfl ?_
          refine ev_x (i := .iload_n 1) (len := 1) (p' := 149) (s' := [.int (gI σ 2 3)]) rfl rfl rfl ?_
          refine ev_x (i := .bipush 58) (len := 2) (p' := 151) (s' := [.int 58, .int (gI σ 2 3)]) rfl rfl rfl ?_
          refine F_if H (fun c_14 H => ?_) (fun c_14 H => ?_)
          · refine ev_b2 (t := 166) (p' := 154) rfl rfl rfl (if_neg (fun q => q c_14)) ?_
            refine ev_x (i := .aload_n 0) (len := 1) (p' := 155) (s' := [.ref 36]) rfl rfl rfl ?_
            refine ev_x (i := .iconst 4) (len := 1) (p' := 156) (s' := [.int 4, .ref 36]) rfl rfl rfl ?_
            obtain ⟨p_15, G_15, H⟩ := F_bd H
            refine ev_cv (d := d + 7) (As := [.int 4]) (a := 36) (p' := 159) rfl rfl rfl ly_36 rfl rfl rfl rfl rfl rfl rfl (F_32_ok (d := d + 6)   G_15) ?_
            refine ev_st (st' := [.int p_15.1]) rfl ?_
            have e_15 := F_32_R G_15
            refine F_jn (A := vz_ev P0 (d + 8) 49 167 [(1, .int (gI σ 2 3)), (0, .ref 36)] [.int (if p_15.1 = 0 then 0 else 1 : Int32)] (hp (p_15.2)) (.inl (some (.int p.1)), hp p.2)) ?_ (fun J => ?_)
            · obtain rfl := Option.some.inj H
              exact ev_iret rfl rfl rfl (fit_b (by (repeat' split) <;> decide))
            · by_cases c_16 : p_15.1 = 0
              · refine ev_b0 (t := 166) (p' := 166) rfl rfl rfl (if_pos c_16) ?_
                refine ev_x (i := .iconst 0) (len := 1) (p' := 167) (s' := [.int 0]) rfl rfl rfl ?_
                exact ev_st (congrArg (fun z => Value.int z :: []) (by rw [if_pos c_16])) J
              · refine ev_b0 (t := 166) (p' := 162) rfl rfl rfl (if_neg c_16) ?_
                refine ev_x (i := .iconst 1) (len := 1) (p' := 163) (s' := [.int 1]) rfl rfl rfl ?_
                refine ev_x (i := .goto 4) (len := 3) (p' := 167) (s' := [.int 1]) rfl rfl rfl ?_
                exact ev_st (congrArg (fun z => Value.int z :: []) (by rw [if_neg c_16])) J
          · refine ev_b2 (t := 166) (p' := 166) rfl rfl rfl (if_pos c_14) ?_
            refine ev_x (i := .iconst 0) (len := 1) (p' := 167) (s' := [.int 0]) rfl rfl rfl ?_
            obtain rfl := Option.some.inj H
            exact ev_iret rfl rfl rfl rfl
        · refine F_if H (fun c_17 H => ?_) (fun c_17 H => ?_)
          · refine ev_st (st' := [.int 4]) (congrArg (fun z => Value.int z :: []) c_17) ?_
            refine ev_ts (off := 156) (t := 168) rfl rfl (by decide) rfl ?_
            refine ev_x (i := .iload_n 1) (len := 1) (p' := 169) (s' := [.int (gI σ 2 3)]) rfl rfl rfl ?_
            refine ev_x (i := .sipush 302) (len := 3) (p' := 172) (s' := [.int 302, .int (gI σ 2 3)]) rfl rfl rfl ?_
            refine F_if H (fun c_18 H => ?_) (fun c_18 H => ?_)
            · refine ev_b2 (t := 194) (p' := 175) rfl rfl rfl (if_neg (fun q => q c_18)) ?_
              refine ev_x (i := .aload_n 0) (len := 1) (p' := 176) (s' := [.ref 36]) rfl rfl rfl ?_
              refine ev_gr (p' := 179) (v := 21) rfl rfl rfl ly_36 rfl rfl hr_36_7 ?_
              refine ev_gc (p' := 182) (v := 26) rfl rfl rfl ly_21 rfl rfl ?_
              refine ev_x (i := .aload_n 0) (len := 1) (p' := 183) (s' := [.ref 36, .ref 26]) rfl rfl rfl ?_
              refine ev_gi (p' := 186) (v := (gI σ 36 14)) rfl rfl rfl ly_36 rfl rfl rfl ?_
              refine ev_x (i := .iconst 2) (len := 1) (p' := 187) (s' := [.int 2, .int (gI σ 36 14), .ref 26]) rfl rfl rfl ?_
              obtain ⟨b_19, H⟩ := F_gd H
              refine ev_pa (j := ((gI σ 36 14) : Int32).toNatClampNeg) (p' := 188) rfl rfl ly_26 rfl (gd_in b_19) rfl ?_
              refine ev_x (i := .aload_n 0) (len := 1) (p' := 189) (s' := [.ref 36]) rfl rfl rfl ?_
              refine ev_x (i := .iconst 5) (len := 1) (p' := 190) (s' := [.int 5, .ref 36]) rfl rfl rfl ?_
              obtain ⟨p_20, G_20, H⟩ := F_bd H
              refine ev_cv (d := d + 7) (As := [.int 5]) (a := 36) (p' := 193) rfl rfl rfl ly_36 rfl rfl rfl rfl rfl rfl rfl (F_32_ok (d := d + 6)   G_20) ?_
              refine ev_st (st' := [.int p_20.1]) rfl ?_
              have e_20 := F_32_R G_20
              obtain ⟨b_21, H⟩ := F_gd H
              obtain rfl := Option.some.inj H
              exact ev_iret rfl rfl rfl (fit_b b_21)
            · refine ev_b2 (t := 194) (p' := 194) rfl rfl rfl (if_pos c_18) ?_
              refine ev_x (i := .aload_n 0) (len := 1) (p' := 195) (s' := [.ref 36]) rfl rfl rfl ?_
              refine ev_gr (p' := 198) (v := 21) rfl rfl rfl ly_36 rfl rfl hr_36_7 ?_
              refine ev_gc (p' := 201) (v := 26) rfl rfl rfl ly_21 rfl rfl ?_
              refine ev_x (i := .aload_n 0) (len := 1) (p' := 202) (s' := [.ref 36, .ref 26]) rfl rfl rfl ?_
              refine ev_gi (p' := 205) (v := (gI σ 36 14)) rfl rfl rfl ly_36 rfl rfl rfl ?_
              refine ev_x (i := .iconst 1) (len := 1) (p' := 206) (s' := [.int 1, .int (gI σ 36 14), .ref 26]) rfl rfl rfl ?_
              obtain ⟨b_22, H⟩ := F_gd H
              refine ev_pa (j := ((gI σ 36 14) : Int32).toNatClampNeg) (p' := 207) rfl rfl ly_26 rfl (gd_in b_22) rfl ?_
              refine ev_x (i := .aload_n 0) (len := 1) (p' := 208) (s' := [.ref 36]) rfl rfl rfl ?_
              refine ev_x (i := .iconst 1) (len := 1) (p' := 209) (s' := [.int 1, .ref 36]) rfl rfl rfl ?_
              obtain ⟨p_23, G_23, H⟩ := F_bd H
              refine ev_cv (d := d + 7) (As := [.int 1]) (a := 36) (p' := 212) rfl rfl rfl ly_36 rfl rfl rfl rfl rfl rfl rfl (F_39_ok (d := d + 6) (ht := (Or.inr rfl)) (hr_36_7 := hr_36_7) G_23) ?_
              refine ev_st (st' := [.int p_23.1]) rfl ?_
              have e_23 := F_39_R G_23
              refine ev_x (i := .pop) (len := 1) (p' := 213) (s' := []) rfl rfl rfl ?_
              refine ev_x (i := .aload_n 0) (len := 1) (p' := 214) (s' := [.ref 36]) rfl rfl rfl ?_
              obtain ⟨p_24, G_24, H⟩ := F_bd H
              refine ev_cv (d := d + 7) (As := []) (a := 36) (p' := 217) rfl rfl rfl ly_36 rfl rfl rfl rfl rfl rfl rfl (F_45_ok (d := d + 0) (ht := (Or.inr rfl)) (hr_36_7 := ((congrFun (congrFun e_23 36) 7).trans hr_36_7)) G_24) ?_
              refine ev_st (st' := [.int p_24.1]) rfl ?_
              have e_24 := F_45_R G_24
              obtain ⟨b_25, H⟩ := F_gd H
              obtain rfl := Option.some.inj H
              exact ev_iret rfl rfl rfl (fit_b b_25)
          · refine F_if H (fun c_26 H => ?_) (fun c_26 H => ?_)
            · refine ev_st (st' := [.int 5]) (congrArg (fun z => Value.int z :: []) c_26) ?_
              refine ev_ts (off := 206) (t := 218) rfl rfl (by decide) rfl ?_
              refine ev_x (i := .iload_n 1) (len := 1) (p' := 219) (s' := [.int (gI σ 2 3)]) rfl rfl rfl ?_
              refine ev_x (i := .sipush 306) (len := 3) (p' := 222) (s' := [.int 306, .int (gI σ 2 3)]) rfl rfl rfl ?_
              refine F_if H (fun c_27 H => ?_) (fun c_27 H => ?_)
              · refine ev_b2 (t := 233) (p' := 225) rfl rfl rfl (if_neg (fun q => q c_27)) ?_
                refine ev_x (i := .aload_n 0) (len := 1) (p' := 226) (s' := [.ref 36]) rfl rfl rfl ?_
                refine ev_x (i := .iconst 3) (len := 1) (p' := 227) (s' := [.int 3, .ref 36]) rfl rfl rfl ?_
                obtain ⟨p_28, G_28, H⟩ := F_bd H
                refine ev_cv (d := d + 7) (As := [.int 3]) (a := 36) (p' := 230) rfl rfl rfl ly_36 rfl rfl rfl rfl rfl rfl rfl (F_39_ok (d := d + 6) (ht := (Or.inr rfl)) (hr_36_7 := hr_36_7) G_28) ?_
                refine ev_st (st' := [.int p_28.1]) rfl ?_
                have e_28 := F_39_R G_28
                refine ev_x (i := .goto 21) (len := 3) (p' := 251) (s' := [.int p_28.1]) rfl rfl rfl ?_
                obtain ⟨b_29, H⟩ := F_gd H
                obtain rfl := Option.some.inj H
                exact ev_iret rfl rfl rfl (fit_b b_29)
              · refine ev_b2 (t := 233) (p' := 233) rfl rfl rfl (if_pos c_27) ?_
                refine ev_x (i := .iload_n 1) (len := 1) (p' := 234) (s' := [.int (gI σ 2 3)]) rfl rfl rfl ?_
                refine ev_x (i := .bipush 59) (len := 2) (p' := 236) (s' := [.int 59, .int (gI σ 2 3)]) rfl rfl rfl ?_
                refine F_if H (fun c_30 H => ?_) (fun c_30 H => ?_)
                · refine ev_b2 (t := 250) (p' := 239) rfl rfl rfl (if_neg (fun q => q c_30)) ?_
                  refine ev_x (i := .aload_n 0) (len := 1) (p' := 240) (s' := [.ref 36]) rfl rfl rfl ?_
                  obtain ⟨p_31, G_31, H⟩ := F_bd H
                  refine ev_cv (d := d + 7) (As := []) (a := 36) (p' := 243) rfl rfl rfl ly_36 rfl rfl rfl rfl rfl rfl rfl (F_40_ok (d := d + 1) (ht := (Or.inr rfl)) (hr_36_7 := hr_36_7) G_31) ?_
                  refine ev_st (st' := [.int p_31.1]) rfl ?_
                  have e_31 := F_40_R G_31
                  refine F_jn (A := vz_ev P0 (d + 8) 49 251 [(1, .int (gI σ 2 3)), (0, .ref 36)] [.int (if p_31.1 = 0 then 0 else 1 : Int32)] (hp (p_31.2)) (.inl (some (.int p.1)), hp p.2)) ?_ (fun J => ?_)
                  · obtain rfl := Option.some.inj H
                    exact ev_iret rfl rfl rfl (fit_b (by (repeat' split) <;> decide))
                  · by_cases c_32 : p_31.1 = 0
                    · refine ev_b0 (t := 250) (p' := 250) rfl rfl rfl (if_pos c_32) ?_
                      refine ev_x (i := .iconst 0) (len := 1) (p' := 251) (s' := [.int 0]) rfl rfl rfl ?_
                      exact ev_st (congrArg (fun z => Value.int z :: []) (by rw [if_pos c_32])) J
                    · refine ev_b0 (t := 250) (p' := 246) rfl rfl rfl (if_neg c_32) ?_
                      refine ev_x (i := .iconst 1) (len := 1) (p' := 247) (s' := [.int 1]) rfl rfl rfl ?_
                      refine ev_x (i := .goto 4) (len := 3) (p' := 251) (s' := [.int 1]) rfl rfl rfl ?_
                      exact ev_st (congrArg (fun z => Value.int z :: []) (by rw [if_neg c_32])) J
                · refine ev_b2 (t := 250) (p' := 250) rfl rfl rfl (if_pos c_30) ?_
                  refine ev_x (i := .iconst 0) (len := 1) (p' := 251) (s' := [.int 0]) rfl rfl rfl ?_
                  obtain rfl := Option.some.inj H
                  exact ev_iret rfl rfl rfl rfl
            · have n_1 : (1 : Int) ≠ ((gI σ 36 8) : Int32).toInt := i32_ne (k := 1) (by decide) c_1
              have n_2 : (2 : Int) ≠ ((gI σ 36 8) : Int32).toInt := i32_ne (k := 2) (by decide) c_9
              have n_3 : (3 : Int) ≠ ((gI σ 36 8) : Int32).toInt := i32_ne (k := 3) (by decide) c_13
              have n_4 : (4 : Int) ≠ ((gI σ 36 8) : Int32).toInt := i32_ne (k := 4) (by decide) c_17
              have n_5 : (5 : Int) ≠ ((gI σ 36 8) : Int32).toInt := i32_ne (k := 5) (by decide) c_26
              refine ev_ts (off := 240) (t := 252) rfl rfl ?hsw rfl ?_
              case hsw =>
                by_cases hq : ((gI σ 36 8) : Int32).toInt < 1 ∨ 5 < ((gI σ 36 8) : Int32).toInt
                · exact if_pos hq
                · rw [if_neg hq]
                  exact absurd hq (by omega)
              refine ev_x (i := .iconst 0) (len := 1) (p' := 253) (s' := [.int 0]) rfl rfl rfl ?_
              obtain rfl := Option.some.inj H
              exact ev_iret rfl rfl rfl rfl
/-- GameText$Parser.opensSet()Z -/
def F_51 (N : Nat) (σ : st_S) : Option (Int32 × st_S) :=
  (F_32 N 9 (st_i (σ) 36 16 (gI σ 2 4))).bind fun p_1 =>
  if (p_1.1 = 0 ∨ p_1.1 = 1) then
  some (p_1.1, p_1.2)
  else none
set_option maxRecDepth 100000 in
theorem F_51_R {N : Nat} {σ : st_S} {p : Int32 × st_S} (H : F_51 N σ = some p) : gR p.2 = gR σ := by
  unfold F_51 at H
  obtain ⟨p_1, G_1, H⟩ := F_bd H
  obtain ⟨_, H⟩ := F_gd H
  obtain rfl := Option.some.inj H
  exact ((F_32_R G_1).trans rfl)
set_option maxHeartbeats 4000000 in
set_option maxRecDepth 100000 in
theorem F_51_ok {N d : Nat} {σ : st_S} {p : Int32 × st_S}  (H : F_51 N σ = some p) : vz_ev P0 (d + 2) 51 0 (lv_args 0 [.ref 36]) [] (hp σ) (.inl (some (.int p.1)), hp p.2) := by
  unfold F_51 at H
  refine ev_x (i := .aload_n 0) (len := 1) (p' := 1) (s' := [.ref 36]) rfl rfl rfl ?_
  refine ev_x (i := .aload_n 0) (len := 1) (p' := 2) (s' := [.ref 36, .ref 36]) rfl rfl rfl ?_
  refine ev_gc (p' := 5) (v := 2) rfl rfl rfl ly_36 rfl rfl ?_
  refine ev_gi (p' := 8) (v := (gI σ 2 4)) rfl rfl rfl ly_2 rfl rfl rfl ?_
  refine ev_pi (p' := 11) rfl rfl rfl ly_36 rfl rfl rfl rfl ?_
  refine ev_x (i := .aload_n 0) (len := 1) (p' := 12) (s' := [.ref 36]) rfl rfl rfl ?_
  refine ev_x (i := .bipush 9) (len := 2) (p' := 14) (s' := [.int 9, .ref 36]) rfl rfl rfl ?_
  obtain ⟨p_1, G_1, H⟩ := F_bd H
  refine ev_cv (d := d + 1) (As := [.int 9]) (a := 36) (p' := 17) rfl rfl rfl ly_36 rfl rfl rfl rfl rfl rfl rfl (F_32_ok (d := d + 0)   G_1) ?_
  refine ev_st (st' := [.int p_1.1]) rfl ?_
  have e_1 := F_32_R G_1
  obtain ⟨b_2, H⟩ := F_gd H
  obtain rfl := Option.some.inj H
  exact ev_iret rfl rfl rfl (fit_b b_2)
/-- GameText$Parser.takesBranchEnd()Z -/
def F_52 (N : Nat) (t : Nat) (σ : st_S) : Option (Int32 × st_S) :=
  if (gI σ 2 3) = 43 then
    (F_41 N t (σ)).bind fun p_2 =>
    if (p_2.1 = 0 ∨ p_2.1 = 1) then
    some (p_2.1, p_2.2)
    else none
  else
    if (gI σ 2 3) = 59 then
      (F_40 N t (σ)).bind fun p_5 =>
      some ((if p_5.1 = 0 then 0 else 1 : Int32), p_5.2)
    else
      some (0, σ)
set_option maxRecDepth 100000 in
theorem F_52_R {N : Nat} {t : Nat} {σ : st_S} {p : Int32 × st_S} (H : F_52 N t σ = some p) : gR p.2 = gR σ := by
  unfold F_52 at H
  refine F_if H (fun _ H => ?_) (fun _ H => ?_)
  · obtain ⟨p_2, G_2, H⟩ := F_bd H
    obtain ⟨_, H⟩ := F_gd H
    obtain rfl := Option.some.inj H
    exact ((F_41_R G_2).trans rfl)
  · refine F_if H (fun _ H => ?_) (fun _ H => ?_)
    · obtain ⟨p_5, G_5, H⟩ := F_bd H
      obtain rfl := Option.some.inj H
      exact ((F_40_R G_5).trans rfl)
    · obtain rfl := Option.some.inj H
      exact rfl
set_option maxHeartbeats 4000000 in
set_option maxRecDepth 100000 in
theorem F_52_ok {N d : Nat} {t : Nat} (ht : t = 4 ∨ t = 20) {σ : st_S} {p : Int32 × st_S} (hr_36_7 : gR σ 36 7 = (t + 1)) (H : F_52 N t σ = some p) : vz_ev P0 (d + 7) 52 0 (lv_args 0 [.ref 36]) [] (hp σ) (.inl (some (.int p.1)), hp p.2) := by
  unfold F_52 at H
  refine ev_x (i := .aload_n 0) (len := 1) (p' := 1) (s' := [.ref 36]) rfl rfl rfl ?_
  refine ev_gc (p' := 4) (v := 2) rfl rfl rfl ly_36 rfl rfl ?_
  refine ev_gi (p' := 7) (v := (gI σ 2 3)) rfl rfl rfl ly_2 rfl rfl rfl ?_
  refine ev_x (i := .bipush 43) (len := 2) (p' := 9) (s' := [.int 43, .int (gI σ 2 3)]) rfl rfl rfl ?_
  refine F_if H (fun c_1 H => ?_) (fun c_1 H => ?_)
  · refine ev_b2 (t := 17) (p' := 12) rfl rfl rfl (if_neg (fun q => q c_1)) ?_
    refine ev_x (i := .aload_n 0) (len := 1) (p' := 13) (s' := [.ref 36]) rfl rfl rfl ?_
    obtain ⟨p_2, G_2, H⟩ := F_bd H
    refine ev_cv (d := d + 6) (As := []) (a := 36) (p' := 16) rfl rfl rfl ly_36 rfl rfl rfl rfl rfl rfl rfl (F_41_ok (d := d + 0) (ht := ht) (hr_36_7 := hr_36_7) G_2) ?_
    refine ev_st (st' := [.int p_2.1]) rfl ?_
    have e_2 := F_41_R G_2
    obtain ⟨b_3, H⟩ := F_gd H
    obtain rfl := Option.some.inj H
    exact ev_iret rfl rfl rfl (fit_b b_3)
  · refine ev_b2 (t := 17) (p' := 17) rfl rfl rfl (if_pos c_1) ?_
    refine ev_x (i := .aload_n 0) (len := 1) (p' := 18) (s' := [.ref 36]) rfl rfl rfl ?_
    refine ev_gc (p' := 21) (v := 2) rfl rfl rfl ly_36 rfl rfl ?_
    refine ev_gi (p' := 24) (v := (gI σ 2 3)) rfl rfl rfl ly_2 rfl rfl rfl ?_
    refine ev_x (i := .bipush 59) (len := 2) (p' := 26) (s' := [.int 59, .int (gI σ 2 3)]) rfl rfl rfl ?_
    refine F_if H (fun c_4 H => ?_) (fun c_4 H => ?_)
    · refine ev_b2 (t := 40) (p' := 29) rfl rfl rfl (if_neg (fun q => q c_4)) ?_
      refine ev_x (i := .aload_n 0) (len := 1) (p' := 30) (s' := [.ref 36]) rfl rfl rfl ?_
      obtain ⟨p_5, G_5, H⟩ := F_bd H
      refine ev_cv (d := d + 6) (As := []) (a := 36) (p' := 33) rfl rfl rfl ly_36 rfl rfl rfl rfl rfl rfl rfl (F_40_ok (d := d + 0) (ht := ht) (hr_36_7 := hr_36_7) G_5) ?_
      refine ev_st (st' := [.int p_5.1]) rfl ?_
      have e_5 := F_40_R G_5
      refine F_jn (A := vz_ev P0 (d + 7) 52 41 [(0, .ref 36)] [.int (if p_5.1 = 0 then 0 else 1 : Int32)] (hp (p_5.2)) (.inl (some (.int p.1)), hp p.2)) ?_ (fun J => ?_)
      · obtain rfl := Option.some.inj H
        exact ev_iret rfl rfl rfl (fit_b (by (repeat' split) <;> decide))
      · by_cases c_6 : p_5.1 = 0
        · refine ev_b0 (t := 40) (p' := 40) rfl rfl rfl (if_pos c_6) ?_
          refine ev_x (i := .iconst 0) (len := 1) (p' := 41) (s' := [.int 0]) rfl rfl rfl ?_
          exact ev_st (congrArg (fun z => Value.int z :: []) (by rw [if_pos c_6])) J
        · refine ev_b0 (t := 40) (p' := 36) rfl rfl rfl (if_neg c_6) ?_
          refine ev_x (i := .iconst 1) (len := 1) (p' := 37) (s' := [.int 1]) rfl rfl rfl ?_
          refine ev_x (i := .goto 4) (len := 3) (p' := 41) (s' := [.int 1]) rfl rfl rfl ?_
          exact ev_st (congrArg (fun z => Value.int z :: []) (by rw [if_neg c_6])) J
    · refine ev_b2 (t := 40) (p' := 40) rfl rfl rfl (if_pos c_4) ?_
      refine ev_x (i := .iconst 0) (len := 1) (p' := 41) (s' := [.int 0]) rfl rfl rfl ?_
      obtain rfl := Option.some.inj H
      exact ev_iret rfl rfl rfl rfl
/-- GameText$Parser.takesInBranch()Z -/
def F_50 (N : Nat) (t : Nat) (σ : st_S) : Option (Int32 × st_S) :=
  if (gI σ 36 8) = 6 then
    if (gI σ 2 3) = 307 then
      (F_32 N 7 (σ)).bind fun p_3 =>
      if (p_3.1 = 0 ∨ p_3.1 = 1) then
      some (p_3.1, p_3.2)
      else none
    else
      if (gI σ 2 3) = 40 then
        (F_51 N (σ)).bind fun p_6 =>
        some ((if p_6.1 = 0 then 0 else 1 : Int32), p_6.2)
      else
        some (0, σ)
  else
  if (gI σ 36 8) = 7 then
    (F_52 N t (σ)).bind fun p_9 =>
    if (p_9.1 = 0 ∨ p_9.1 = 1) then
    some (p_9.1, p_9.2)
    else none
  else
  if (gI σ 36 8) = 8 then
    if (gI σ 2 3) = 40 then
      (F_51 N (σ)).bind fun p_13 =>
      some ((if p_13.1 = 0 then 0 else 1 : Int32), p_13.2)
    else
      some (0, σ)
  else
  if (gI σ 36 8) = 9 then
    (F_30 N t 33 (gI σ 36 16) (gI σ 2 4) (gI σ 2 5) (-1) (σ)).bind fun p_16 =>
    if (gI σ 2 3) = 261 then
      (F_32 N 10 (p_16.2)).bind fun p_18 =>
      some ((if p_18.1 = 0 then 0 else 1 : Int32), p_18.2)
    else
      some (0, p_16.2)
  else
  if (gI σ 36 8) = 10 then
    if (gI σ 2 3) = 39 then
      (F_32 N 11 (σ)).bind fun p_22 =>
      some ((if p_22.1 = 0 then 0 else 1 : Int32), p_22.2)
    else
      some (0, σ)
  else
  if (gI σ 36 8) = 11 then
    if (gI σ 2 3) = 61 then
      (F_39 N t 7 (σ)).bind fun p_26 =>
      some ((if p_26.1 = 0 then 0 else 1 : Int32), p_26.2)
    else
      some (0, σ)
  else
  if (gI σ 36 8) = 12 then
    if (gI σ 2 3) = 38 then
      (F_32 N 8 (σ)).bind fun p_30 =>
      if (p_30.1 = 0 ∨ p_30.1 = 1) then
      some (p_30.1, p_30.2)
      else none
    else
      (F_52 N t (σ)).bind fun p_32 =>
      if (p_32.1 = 0 ∨ p_32.1 = 1) then
      some (p_32.1, p_32.2)
      else none
  else
  if (gI σ 36 8) = 13 then
    if (gI σ 2 3) = 40 then
      (F_36 N (σ)).bind fun p_36 =>
      if p_36.1 = 0 then
        some (0, p_36.2)
      else
        (F_32 N 14 (p_36.2)).bind fun p_38 =>
        some ((if p_38.1 = 0 then 0 else 1 : Int32), p_38.2)
    else
      some (0, σ)
  else
    some (0, σ)
set_option maxRecDepth 100000 in
theorem F_50_R {N : Nat} {t : Nat} {σ : st_S} {p : Int32 × st_S} (H : F_50 N t σ = some p) : gR p.2 = gR σ := by
  unfold F_50 at H
  refine F_if H (fun _ H => ?_) (fun _ H => ?_)
  · refine F_if H (fun _ H => ?_) (fun _ H => ?_)
    · obtain ⟨p_3, G_3, H⟩ := F_bd H
      obtain ⟨_, H⟩ := F_gd H
      obtain rfl := Option.some.inj H
      exact ((F_32_R G_3).trans rfl)
    · refine F_if H (fun _ H => ?_) (fun _ H => ?_)
      · obtain ⟨p_6, G_6, H⟩ := F_bd H
        obtain rfl := Option.some.inj H
        exact ((F_51_R G_6).trans rfl)
      · obtain rfl := Option.some.inj H
        exact rfl
  · refine F_if H (fun _ H => ?_) (fun _ H => ?_)
    · obtain ⟨p_9, G_9, H⟩ := F_bd H
      obtain ⟨_, H⟩ := F_gd H
      obtain rfl := Option.some.inj H
      exact ((F_52_R G_9).trans rfl)
    · refine F_if H (fun _ H => ?_) (fun _ H => ?_)
      · refine F_if H (fun _ H => ?_) (fun _ H => ?_)
        · obtain ⟨p_13, G_13, H⟩ := F_bd H
          obtain rfl := Option.some.inj H
          exact ((F_51_R G_13).trans rfl)
        · obtain rfl := Option.some.inj H
          exact rfl
      · refine F_if H (fun _ H => ?_) (fun _ H => ?_)
        · obtain ⟨p_16, G_16, H⟩ := F_bd H
          refine F_if H (fun _ H => ?_) (fun _ H => ?_)
          · obtain ⟨p_18, G_18, H⟩ := F_bd H
            obtain rfl := Option.some.inj H
            exact ((F_32_R G_18).trans ((F_30_R G_16).trans rfl))
          · obtain rfl := Option.some.inj H
            exact ((F_30_R G_16).trans rfl)
        · refine F_if H (fun _ H => ?_) (fun _ H => ?_)
          · refine F_if H (fun _ H => ?_) (fun _ H => ?_)
            · obtain ⟨p_22, G_22, H⟩ := F_bd H
              obtain rfl := Option.some.inj H
              exact ((F_32_R G_22).trans rfl)
            · obtain rfl := Option.some.inj H
              exact rfl
          · refine F_if H (fun _ H => ?_) (fun _ H => ?_)
            · refine F_if H (fun _ H => ?_) (fun _ H => ?_)
              · obtain ⟨p_26, G_26, H⟩ := F_bd H
                obtain rfl := Option.some.inj H
                exact ((F_39_R G_26).trans rfl)
              · obtain rfl := Option.some.inj H
                exact rfl
            · refine F_if H (fun _ H => ?_) (fun _ H => ?_)
              · refine F_if H (fun _ H => ?_) (fun _ H => ?_)
                · obtain ⟨p_30, G_30, H⟩ := F_bd H
                  obtain ⟨_, H⟩ := F_gd H
                  obtain rfl := Option.some.inj H
                  exact ((F_32_R G_30).trans rfl)
                · obtain ⟨p_32, G_32, H⟩ := F_bd H
                  obtain ⟨_, H⟩ := F_gd H
                  obtain rfl := Option.some.inj H
                  exact ((F_52_R G_32).trans rfl)
              · refine F_if H (fun _ H => ?_) (fun _ H => ?_)
                · refine F_if H (fun _ H => ?_) (fun _ H => ?_)
                  · obtain ⟨p_36, G_36, H⟩ := F_bd H
                    refine F_if H (fun _ H => ?_) (fun _ H => ?_)
                    · obtain rfl := Option.some.inj H
                      exact ((F_36_R G_36).trans rfl)
                    · obtain ⟨p_38, G_38, H⟩ := F_bd H
                      obtain rfl := Option.some.inj H
                      exact ((F_32_R G_38).trans ((F_36_R G_36).trans rfl))
                  · obtain rfl := Option.some.inj H
                    exact rfl
                · obtain rfl := Option.some.inj H
                  exact rfl
set_option maxHeartbeats 4000000 in
set_option maxRecDepth 100000 in
theorem F_50_ok {N d : Nat} {t : Nat} (ht : t = 4 ∨ t = 20) {σ : st_S} {p : Int32 × st_S} (hr_36_7 : gR σ 36 7 = (t + 1)) (H : F_50 N t σ = some p) : vz_ev P0 (d + 8) 50 0 (lv_args 0 [.ref 36]) [] (hp σ) (.inl (some (.int p.1)), hp p.2) := by
  unfold F_50 at H
  rcases ht with rfl | rfl
  · refine ev_x (i := .aload_n 0) (len := 1) (p' := 1) (s' := [.ref 36]) rfl rfl rfl ?_
    refine ev_gc (p' := 4) (v := 2) rfl rfl rfl ly_36 rfl rfl ?_
    refine ev_gi (p' := 7) (v := (gI σ 2 3)) rfl rfl rfl ly_2 rfl rfl rfl ?_
    refine ev_x (i := .istore_n 1) (len := 1) (p' := 8) (s' := []) (l' := [(1, .int (gI σ 2 3)), (0, .ref 36)]) rfl rfl rfl ?_
    refine ev_x (i := .aload_n 0) (len := 1) (p' := 9) (s' := [.ref 36]) rfl rfl rfl ?_
    refine ev_gi (p' := 12) (v := (gI σ 36 8)) rfl rfl rfl ly_36 rfl rfl rfl ?_
    refine F_if H (fun c_1 H => ?_) (fun c_1 H => ?_)
    · refine ev_st (st' := [.int 6]) (congrArg (fun z => Value.int z :: []) c_1) ?_
      refine ev_ts (off := 48) (t := 60) rfl rfl (by decide) rfl ?_
      refine ev_x (i := .iload_n 1) (len := 1) (p' := 61) (s' := [.int (gI σ 2 3)]) rfl rfl rfl ?_
      refine ev_x (i := .sipush 307) (len := 3) (p' := 64) (s' := [.int 307, .int (gI σ 2 3)]) rfl rfl rfl ?_
      refine F_if H (fun c_2 H => ?_) (fun c_2 H => ?_)
      · refine ev_b2 (t := 76) (p' := 67) rfl rfl rfl (if_neg (fun q => q c_2)) ?_
        refine ev_x (i := .aload_n 0) (len := 1) (p' := 68) (s' := [.ref 36]) rfl rfl rfl ?_
        refine ev_x (i := .bipush 7) (len := 2) (p' := 70) (s' := [.int 7, .ref 36]) rfl rfl rfl ?_
        obtain ⟨p_3, G_3, H⟩ := F_bd H
        refine ev_cv (d := d + 7) (As := [.int 7]) (a := 36) (p' := 73) rfl rfl rfl ly_36 rfl rfl rfl rfl rfl rfl rfl (F_32_ok (d := d + 6)   G_3) ?_
        refine ev_st (st' := [.int p_3.1]) rfl ?_
        have e_3 := F_32_R G_3
        refine ev_x (i := .goto 21) (len := 3) (p' := 94) (s' := [.int p_3.1]) rfl rfl rfl ?_
        obtain ⟨b_4, H⟩ := F_gd H
        obtain rfl := Option.some.inj H
        exact ev_iret rfl rfl rfl (fit_b b_4)
      · refine ev_b2 (t := 76) (p' := 76) rfl rfl rfl (if_pos c_2) ?_
        refine ev_x (i := .iload_n 1) (len := 1) (p' := 77) (s' := [.int (gI σ 2 3)]) rfl rfl rfl ?_
        refine ev_x (i := .bipush 40) (len := 2) (p' := 79) (s' := [.int 40, .int (gI σ 2 3)]) rfl rfl rfl ?_
        refine F_if H (fun c_5 H => ?_) (fun c_5 H => ?_)
        · refine ev_b2 (t := 93) (p' := 82) rfl rfl rfl (if_neg (fun q => q c_5)) ?_
          refine ev_x (i := .aload_n 0) (len := 1) (p' := 83) (s' := [.ref 36]) rfl rfl rfl ?_
          obtain ⟨p_6, G_6, H⟩ := F_bd H
          refine ev_cv (d := d + 7) (As := []) (a := 36) (p' := 86) rfl rfl rfl ly_36 rfl rfl rfl rfl rfl rfl rfl (F_51_ok (d := d + 5)   G_6) ?_
          refine ev_st (st' := [.int p_6.1]) rfl ?_
          have e_6 := F_51_R G_6
          refine F_jn (A := vz_ev P0 (d + 8) 50 94 [(1, .int (gI σ 2 3)), (0, .ref 36)] [.int (if p_6.1 = 0 then 0 else 1 : Int32)] (hp (p_6.2)) (.inl (some (.int p.1)), hp p.2)) ?_ (fun J => ?_)
          · obtain rfl := Option.some.inj H
            exact ev_iret rfl rfl rfl (fit_b (by (repeat' split) <;> decide))
          · by_cases c_7 : p_6.1 = 0
            · refine ev_b0 (t := 93) (p' := 93) rfl rfl rfl (if_pos c_7) ?_
              refine ev_x (i := .iconst 0) (len := 1) (p' := 94) (s' := [.int 0]) rfl rfl rfl ?_
              exact ev_st (congrArg (fun z => Value.int z :: []) (by rw [if_pos c_7])) J
            · refine ev_b0 (t := 93) (p' := 89) rfl rfl rfl (if_neg c_7) ?_
              refine ev_x (i := .iconst 1) (len := 1) (p' := 90) (s' := [.int 1]) rfl rfl rfl ?_
              refine ev_x (i := .goto 4) (len := 3) (p' := 94) (s' := [.int 1]) rfl rfl rfl ?_
              exact ev_st (congrArg (fun z => Value.int z :: []) (by rw [if_neg c_7])) J
        · refine ev_b2 (t := 93) (p' := 93) rfl rfl rfl (if_pos c_5) ?_
          refine ev_x (i := .iconst 0) (len := 1) (p' := 94) (s' := [.int 0]) rfl rfl rfl ?_
          obtain rfl := Option.some.inj H
          exact ev_iret rfl rfl rfl rfl
    · refine F_if H (fun c_8 H => ?_) (fun c_8 H => ?_)
      · refine ev_st (st' := [.int 7]) (congrArg (fun z => Value.int z :: []) c_8) ?_
        refine ev_ts (off := 83) (t := 95) rfl rfl (by decide) rfl ?_
        refine ev_x (i := .aload_n 0) (len := 1) (p' := 96) (s' := [.ref 36]) rfl rfl rfl ?_
        obtain ⟨p_9, G_9, H⟩ := F_bd H
        refine ev_cv (d := d + 7) (As := []) (a := 36) (p' := 99) rfl rfl rfl ly_36 rfl rfl rfl rfl rfl rfl rfl (F_52_ok (d := d + 0) (ht := (Or.inl rfl)) (hr_36_7 := hr_36_7) G_9) ?_
        refine ev_st (st' := [.int p_9.1]) rfl ?_
        have e_9 := F_52_R G_9
        obtain ⟨b_10, H⟩ := F_gd H
        obtain rfl := Option.some.inj H
        exact ev_iret rfl rfl rfl (fit_b b_10)
      · refine F_if H (fun c_11 H => ?_) (fun c_11 H => ?_)
        · refine ev_st (st' := [.int 8]) (congrArg (fun z => Value.int z :: []) c_11) ?_
          refine ev_ts (off := 88) (t := 100) rfl rfl (by decide) rfl ?_
          refine ev_x (i := .iload_n 1) (len := 1) (p' := 101) (s' := [.int (gI σ 2 3)]) rfl rfl rfl ?_
          refine ev_x (i := .bipush 40) (len := 2) (p' := 103) (s' := [.int 40, .int (gI σ 2 3)]) rfl rfl rfl ?_
          refine F_if H (fun c_12 H => ?_) (fun c_12 H => ?_)
          · refine ev_b2 (t := 117) (p' := 106) rfl rfl rfl (if_neg (fun q => q c_12)) ?_
            refine ev_x (i := .aload_n 0) (len := 1) (p' := 107) (s' := [.ref 36]) rfl rfl rfl ?_
            obtain ⟨p_13, G_13, H⟩ := F_bd H
            refine ev_cv (d := d + 7) (As := []) (a := 36) (p' := 110) rfl rfl rfl ly_36 rfl rfl rfl rfl rfl rfl rfl (F_51_ok (d := d + 5)   G_13) ?_
            refine ev_st (st' := [.int p_13.1]) rfl ?_
            have e_13 := F_51_R G_13
            refine F_jn (A := vz_ev P0 (d + 8) 50 118 [(1, .int (gI σ 2 3)), (0, .ref 36)] [.int (if p_13.1 = 0 then 0 else 1 : Int32)] (hp (p_13.2)) (.inl (some (.int p.1)), hp p.2)) ?_ (fun J => ?_)
            · obtain rfl := Option.some.inj H
              exact ev_iret rfl rfl rfl (fit_b (by (repeat' split) <;> decide))
            · by_cases c_14 : p_13.1 = 0
              · refine ev_b0 (t := 117) (p' := 117) rfl rfl rfl (if_pos c_14) ?_
                refine ev_x (i := .iconst 0) (len := 1) (p' := 118) (s' := [.int 0]) rfl rfl rfl ?_
                exact ev_st (congrArg (fun z => Value.int z :: []) (by rw [if_pos c_14])) J
              · refine ev_b0 (t := 117) (p' := 113) rfl rfl rfl (if_neg c_14) ?_
                refine ev_x (i := .iconst 1) (len := 1) (p' := 114) (s' := [.int 1]) rfl rfl rfl ?_
                refine ev_x (i := .goto 4) (len := 3) (p' := 118) (s' := [.int 1]) rfl rfl rfl ?_
                exact ev_st (congrArg (fun z => Value.int z :: []) (by rw [if_neg c_14])) J
          · refine ev_b2 (t := 117) (p' := 117) rfl rfl rfl (if_pos c_12) ?_
            refine ev_x (i := .iconst 0) (len := 1) (p' := 118) (s' := [.int 0]) rfl rfl rfl ?_
            obtain rfl := Option.some.inj H
            exact ev_iret rfl rfl rfl rfl
        · refine F_if H (fun c_15 H => ?_) (fun c_15 H => ?_)
          · refine ev_st (st' := [.int 9]) (congrArg (fun z => Value.int z :: []) c_15) ?_
            refine ev_ts (off := 107) (t := 119) rfl rfl (by decide) rfl ?_
            refine ev_x (i := .aload_n 0) (len := 1) (p' := 120) (s' := [.ref 36]) rfl rfl rfl ?_
            refine ev_gr (p' := 123) (v := 5) rfl rfl rfl ly_36 rfl rfl hr_36_7 ?_
            refine ev_x (i := .bipush 33) (len := 2) (p' := 125) (s' := [.int 33, .ref 5]) rfl rfl rfl ?_
            refine ev_x (i := .aload_n 0) (len := 1) (p' := 126) (s' := [.ref 36, .int 33, .ref 5]) rfl rfl rfl ?_
            refine ev_gi (p' := 129) (v := (gI σ 36 16)) rfl rfl rfl ly_36 rfl rfl rfl ?_
            refine ev_x (i := .aload_n 0) (len := 1) (p' := 130) (s' := [.ref 36, .int (gI σ 36 16), .int 33, .ref 5]) rfl rfl rfl ?_
            refine ev_gc (p' := 133) (v := 2) rfl rfl rfl ly_36 rfl rfl ?_
            refine ev_gi (p' := 136) (v := (gI σ 2 4)) rfl rfl rfl ly_2 rfl rfl rfl ?_
            refine ev_x (i := .aload_n 0) (len := 1) (p' := 137) (s' := [.ref 36, .int (gI σ 2 4), .int (gI σ 36 16), .int 33, .ref 5]) rfl rfl rfl ?_
            refine ev_gc (p' := 140) (v := 2) rfl rfl rfl ly_36 rfl rfl ?_
            refine ev_gi (p' := 143) (v := (gI σ 2 5)) rfl rfl rfl ly_2 rfl rfl rfl ?_
            refine ev_x (i := .iconst (-1)) (len := 1) (p' := 144) (s' := [.int (-1), .int (gI σ 2 5), .int (gI σ 2 4), .int (gI σ 36 16), .int 33, .ref 5]) rfl rfl rfl ?_
            obtain ⟨p_16, G_16, H⟩ := F_bd H
            refine ev_cv (d := d + 7) (As := [.int 33, .int (gI σ 36 16), .int (gI σ 2 4), .int (gI σ 2 5), .int (-1)]) (a := 5) (p' := 147) rfl rfl rfl ly_5 rfl rfl rfl rfl rfl rfl rfl (F_30_ok (d := d + 2) (ht := (Or.inl rfl))  G_16) ?_
            refine ev_st (st' := [.int p_16.1]) rfl ?_
            have e_16 := F_30_R G_16
            refine ev_x (i := .pop) (len := 1) (p' := 148) (s' := []) rfl rfl rfl ?_
            refine ev_x (i := .iload_n 1) (len := 1) (p' := 149) (s' := [.int (gI σ 2 3)]) rfl rfl rfl ?_
            refine ev_x (i := .sipush 261) (len := 3) (p' := 152) (s' := [.int 261, .int (gI σ 2 3)]) rfl rfl rfl ?_
            refine F_if H (fun c_17 H => ?_) (fun c_17 H => ?_)
            · refine ev_b2 (t := 168) (p' := 155) rfl rfl rfl (if_neg (fun q => q c_17)) ?_
              refine ev_x (i := .aload_n 0) (len := 1) (p' := 156) (s' := [.ref 36]) rfl rfl rfl ?_
              refine ev_x (i := .bipush 10) (len := 2) (p' := 158) (s' := [.int 10, .ref 36]) rfl rfl rfl ?_
              obtain ⟨p_18, G_18, H⟩ := F_bd H
              refine ev_cv (d := d + 7) (As := [.int 10]) (a := 36) (p' := 161) rfl rfl rfl ly_36 rfl rfl rfl rfl rfl rfl rfl (F_32_ok (d := d + 6)   G_18) ?_
              refine ev_st (st' := [.int p_18.1]) rfl ?_
              have e_18 := F_32_R G_18
              refine F_jn (A := vz_ev P0 (d + 8) 50 169 [(1, .int (gI σ 2 3)), (0, .ref 36)] [.int (if p_18.1 = 0 then 0 else 1 : Int32)] (hp (p_18.2)) (.inl (some (.int p.1)), hp p.2)) ?_ (fun J => ?_)
              · obtain rfl := Option.some.inj H
                exact ev_iret rfl rfl rfl (fit_b (by (repeat' split) <;> decide))
              · by_cases c_19 : p_18.1 = 0
                · refine ev_b0 (t := 168) (p' := 168) rfl rfl rfl (if_pos c_19) ?_
                  refine ev_x (i := .iconst 0) (len := 1) (p' := 169) (s' := [.int 0]) rfl rfl rfl ?_
                  exact ev_st (congrArg (fun z => Value.int z :: []) (by rw [if_pos c_19])) J
                · refine ev_b0 (t := 168) (p' := 164) rfl rfl rfl (if_neg c_19) ?_
                  refine ev_x (i := .iconst 1) (len := 1) (p' := 165) (s' := [.int 1]) rfl rfl rfl ?_
                  refine ev_x (i := .goto 4) (len := 3) (p' := 169) (s' := [.int 1]) rfl rfl rfl ?_
                  exact ev_st (congrArg (fun z => Value.int z :: []) (by rw [if_neg c_19])) J
            · refine ev_b2 (t := 168) (p' := 168) rfl rfl rfl (if_pos c_17) ?_
              refine ev_x (i := .iconst 0) (len := 1) (p' := 169) (s' := [.int 0]) rfl rfl rfl ?_
              obtain rfl := Option.some.inj H
              exact ev_iret rfl rfl rfl rfl
          · refine F_if H (fun c_20 H => ?_) (fun c_20 H => ?_)
            · refine ev_st (st' := [.int 10]) (congrArg (fun z => Value.int z :: []) c_20) ?_
              refine ev_ts (off := 158) (t := 170) rfl rfl (by decide) rfl ?_
              refine ev_x (i := .iload_n 1) (len := 1) (p' := 171) (s' := [.int (gI σ 2 3)]) rfl rfl rfl ?_
              refine ev_x (i := .bipush 39) (len := 2) (p' := 173) (s' := [.int 39, .int (gI σ 2 3)]) rfl rfl rfl ?_
              refine F_if H (fun c_21 H => ?_) (fun c_21 H => ?_)
              · refine ev_b2 (t := 189) (p' := 176) rfl rfl rfl (if_neg (fun q => q c_21)) ?_
                refine ev_x (i := .aload_n 0) (len := 1) (p' := 177) (s' := [.ref 36]) rfl rfl rfl ?_
                refine ev_x (i := .bipush 11) (len := 2) (p' := 179) (s' := [.int 11, .ref 36]) rfl rfl rfl ?_
                obtain ⟨p_22, G_22, H⟩ := F_bd H
                refine ev_cv (d := d + 7) (As := [.int 11]) (a := 36) (p' := 182) rfl rfl rfl ly_36 rfl rfl rfl rfl rfl rfl rfl (F_32_ok (d := d + 6)   G_22) ?_
                refine ev_st (st' := [.int p_22.1]) rfl ?_
                have e_22 := F_32_R G_22
                refine F_jn (A := vz_ev P0 (d + 8) 50 190 [(1, .int (gI σ 2 3)), (0, .ref 36)] [.int (if p_22.1 = 0 then 0 else 1 : Int32)] (hp (p_22.2)) (.inl (some (.int p.1)), hp p.2)) ?_ (fun J => ?_)
                · obtain rfl := Option.some.inj H
                  exact ev_iret rfl rfl rfl (fit_b (by (repeat' split) <;> decide))
                · by_cases c_23 : p_22.1 = 0
                  · refine ev_b0 (t := 189) (p' := 189) rfl rfl rfl (if_pos c_23) ?_
                    refine ev_x (i := .iconst 0) (len := 1) (p' := 190) (s' := [.int 0]) rfl rfl rfl ?_
                    exact ev_st (congrArg (fun z => Value.int z :: []) (by rw [if_pos c_23])) J
                  · refine ev_b0 (t := 189) (p' := 185) rfl rfl rfl (if_neg c_23) ?_
                    refine ev_x (i := .iconst 1) (len := 1) (p' := 186) (s' := [.int 1]) rfl rfl rfl ?_
                    refine ev_x (i := .goto 4) (len := 3) (p' := 190) (s' := [.int 1]) rfl rfl rfl ?_
                    exact ev_st (congrArg (fun z => Value.int z :: []) (by rw [if_neg c_23])) J
              · refine ev_b2 (t := 189) (p' := 189) rfl rfl rfl (if_pos c_21) ?_
                refine ev_x (i := .iconst 0) (len := 1) (p' := 190) (s' := [.int 0]) rfl rfl rfl ?_
                obtain rfl := Option.some.inj H
                exact ev_iret rfl rfl rfl rfl
            · refine F_if H (fun c_24 H => ?_) (fun c_24 H => ?_)
              · refine ev_st (st' := [.int 11]) (congrArg (fun z => Value.int z :: []) c_24) ?_
                refine ev_ts (off := 179) (t := 191) rfl rfl (by decide) rfl ?_
                refine ev_x (i := .iload_n 1) (len := 1) (p' := 192) (s' := [.int (gI σ 2 3)]) rfl rfl rfl ?_
                refine ev_x (i := .bipush 61) (len := 2) (p' := 194) (s' := [.int 61, .int (gI σ 2 3)]) rfl rfl rfl ?_
                refine F_if H (fun c_25 H => ?_) (fun c_25 H => ?_)
                · refine ev_b2 (t := 210) (p' := 197) rfl rfl rfl (if_neg (fun q => q c_25)) ?_
                  refine ev_x (i := .aload_n 0) (len := 1) (p' := 198) (s' := [.ref 36]) rfl rfl rfl ?_
                  refine ev_x (i := .bipush 7) (len := 2) (p' := 200) (s' := [.int 7, .ref 36]) rfl rfl rfl ?_
                  obtain ⟨p_26, G_26, H⟩ := F_bd H
                  refine ev_cv (d := d + 7) (As := [.int 7]) (a := 36) (p' := 203) rfl rfl rfl ly_36 rfl rfl rfl rfl rfl rfl rfl (F_39_ok (d := d + 6) (ht := (Or.inl rfl)) (hr_36_7 := hr_36_7) G_26) ?_
                  refine ev_st (st' := [.int p_26.1]) rfl ?_
                  have e_26 := F_39_R G_26
                  refine F_jn (A := vz_ev P0 (d + 8) 50 211 [(1, .int (gI σ 2 3)), (0, .ref 36)] [.int (if p_26.1 = 0 then 0 else 1 : Int32)] (hp (p_26.2)) (.inl (some (.int p.1)), hp p.2)) ?_ (fun J => ?_)
                  · obtain rfl := Option.some.inj H
                    exact ev_iret rfl rfl rfl (fit_b (by (repeat' split) <;> decide))
                  · by_cases c_27 : p_26.1 = 0
                    · refine ev_b0 (t := 210) (p' := 210) rfl rfl rfl (if_pos c_27) ?_
                      refine ev_x (i := .iconst 0) (len := 1) (p' := 211) (s' := [.int 0]) rfl rfl rfl ?_
                      exact ev_st (congrArg (fun z => Value.int z :: []) (by rw [if_pos c_27])) J
                    · refine ev_b0 (t := 210) (p' := 206) rfl rfl rfl (if_neg c_27) ?_
                      refine ev_x (i := .iconst 1) (len := 1) (p' := 207) (s' := [.int 1]) rfl rfl rfl ?_
                      refine ev_x (i := .goto 4) (len := 3) (p' := 211) (s' := [.int 1]) rfl rfl rfl ?_
                      exact ev_st (congrArg (fun z => Value.int z :: []) (by rw [if_neg c_27])) J
                · refine ev_b2 (t := 210) (p' := 210) rfl rfl rfl (if_pos c_25) ?_
                  refine ev_x (i := .iconst 0) (len := 1) (p' := 211) (s' := [.int 0]) rfl rfl rfl ?_
                  obtain rfl := Option.some.inj H
                  exact ev_iret rfl rfl rfl rfl
              · refine F_if H (fun c_28 H => ?_) (fun c_28 H => ?_)
                · refine ev_st (st' := [.int 12]) (congrArg (fun z => Value.int z :: []) c_28) ?_
                  refine ev_ts (off := 200) (t := 212) rfl rfl (by decide) rfl ?_
                  refine ev_x (i := .iload_n 1) (len := 1) (p' := 213) (s' := [.int (gI σ 2 3)]) rfl rfl rfl ?_
                  refine ev_x (i := .bipush 38) (len := 2) (p' := 215) (s' := [.int 38, .int (gI σ 2 3)]) rfl rfl rfl ?_
                  refine F_if H (fun c_29 H => ?_) (fun c_29 H => ?_)
                  · refine ev_b2 (t := 227) (p' := 218) rfl rfl rfl (if_neg (fun q => q c_29)) ?_
                    refine ev_x (i := .aload_n 0) (len := 1) (p' := 219) (s' := [.ref 36]) rfl rfl rfl ?_
                    refine ev_x (i := .bipush 8) (len := 2) (p' := 221) (s' := [.int 8, .ref 36]) rfl rfl rfl ?_
                    obtain ⟨p_30, G_30, H⟩ := F_bd H
                    refine ev_cv (d := d + 7) (As := [.int 8]) (a := 36) (p' := 224) rfl rfl rfl ly_36 rfl rfl rfl rfl rfl rfl rfl (F_32_ok (d := d + 6)   G_30) ?_
                    refine ev_st (st' := [.int p_30.1]) rfl ?_
                    have e_30 := F_32_R G_30
                    refine ev_x (i := .goto 7) (len := 3) (p' := 231) (s' := [.int p_30.1]) rfl rfl rfl ?_
                    obtain ⟨b_31, H⟩ := F_gd H
                    obtain rfl := Option.some.inj H
                    exact ev_iret rfl rfl rfl (fit_b b_31)
                  · refine ev_b2 (t := 227) (p' := 227) rfl rfl rfl (if_pos c_29) ?_
                    refine ev_x (i := .aload_n 0) (len := 1) (p' := 228) (s' := [.ref 36]) rfl rfl rfl ?_
                    obtain ⟨p_32, G_32, H⟩ := F_bd H
                    refine ev_cv (d := d + 7) (As := []) (a := 36) (p' := 231) rfl rfl rfl ly_36 rfl rfl rfl rfl rfl rfl rfl (F_52_ok (d := d + 0) (ht := (Or.inl rfl)) (hr_36_7 := hr_36_7) G_32) ?_
                    refine ev_st (st' := [.int p_32.1]) rfl ?_
                    have e_32 := F_52_R G_32
                    obtain ⟨b_33, H⟩ := F_gd H
                    obtain rfl := Option.some.inj H
                    exact ev_iret rfl rfl rfl (fit_b b_33)
                · refine F_if H (fun c_34 H => ?_) (fun c_34 H => ?_)
                  · refine ev_st (st' := [.int 13]) (congrArg (fun z => Value.int z :: []) c_34) ?_
                    refine ev_ts (off := 220) (t := 232) rfl rfl (by decide) rfl ?_
                    refine ev_x (i := .iload_n 1) (len := 1) (p' := 233) (s' := [.int (gI σ 2 3)]) rfl rfl rfl ?_
                    refine ev_x (i := .bipush 40) (len := 2) (p' := 235) (s' := [.int 40, .int (gI σ 2 3)]) rfl rfl rfl ?_
                    refine F_if H (fun c_35 H => ?_) (fun c_35 H => ?_)
                    · refine ev_b2 (t := 258) (p' := 238) rfl rfl rfl (if_neg (fun q => q c_35)) ?_
                      refine ev_x (i := .aload_n 0) (len := 1) (p' := 239) (s' := [.ref 36]) rfl rfl rfl ?_
                      obtain ⟨p_36, G_36, H⟩ := F_bd H
                      refine ev_cv (d := d + 7) (As := []) (a := 36) (p' := 242) rfl rfl rfl ly_36 rfl rfl rfl rfl rfl rfl rfl (F_36_ok (d := d + 6)   G_36) ?_
                      refine ev_st (st' := [.int p_36.1]) rfl ?_
                      have e_36 := F_36_R G_36
                      refine F_if H (fun c_37 H => ?_) (fun c_37 H => ?_)
                      · refine ev_b0 (t := 258) (p' := 258) rfl rfl rfl (if_pos c_37) ?_
                        refine ev_x (i := .iconst 0) (len := 1) (p' := 259) (s' := [.int 0]) rfl rfl rfl ?_
                        obtain rfl := Option.some.inj H
                        exact ev_iret rfl rfl rfl rfl
                      · refine ev_b0 (t := 258) (p' := 245) rfl rfl rfl (if_neg c_37) ?_
                        refine ev_x (i := .aload_n 0) (len := 1) (p' := 246) (s' := [.ref 36]) rfl rfl rfl ?_
                        refine ev_x (i := .bipush 14) (len := 2) (p' := 248) (s' := [.int 14, .ref 36]) rfl rfl rfl ?_
                        obtain ⟨p_38, G_38, H⟩ := F_bd H
                        refine ev_cv (d := d + 7) (As := [.int 14]) (a := 36) (p' := 251) rfl rfl rfl ly_36 rfl rfl rfl rfl rfl rfl rfl (F_32_ok (d := d + 6)   G_38) ?_
                        refine ev_st (st' := [.int p_38.1]) rfl ?_
                        have e_38 := F_32_R G_38
                        refine F_jn (A := vz_ev P0 (d + 8) 50 259 [(1, .int (gI σ 2 3)), (0, .ref 36)] [.int (if p_38.1 = 0 then 0 else 1 : Int32)] (hp (p_38.2)) (.inl (some (.int p.1)), hp p.2)) ?_ (fun J => ?_)
                        · obtain rfl := Option.some.inj H
                          exact ev_iret rfl rfl rfl (fit_b (by (repeat' split) <;> decide))
                        · by_cases c_39 : p_38.1 = 0
                          · refine ev_b0 (t := 258) (p' := 258) rfl rfl rfl (if_pos c_39) ?_
                            refine ev_x (i := .iconst 0) (len := 1) (p' := 259) (s' := [.int 0]) rfl rfl rfl ?_
                            exact ev_st (congrArg (fun z => Value.int z :: []) (by rw [if_pos c_39])) J
                          · refine ev_b0 (t := 258) (p' := 254) rfl rfl rfl (if_neg c_39) ?_
                            refine ev_x (i := .iconst 1) (len := 1) (p' := 255) (s' := [.int 1]) rfl rfl rfl ?_
                            refine ev_x (i := .goto 4) (len := 3) (p' := 259) (s' := [.int 1]) rfl rfl rfl ?_
                            exact ev_st (congrArg (fun z => Value.int z :: []) (by rw [if_neg c_39])) J
                    · refine ev_b2 (t := 258) (p' := 258) rfl rfl rfl (if_pos c_35) ?_
                      refine ev_x (i := .iconst 0) (len := 1) (p' := 259) (s' := [.int 0]) rfl rfl rfl ?_
                      obtain rfl := Option.some.inj H
                      exact ev_iret rfl rfl rfl rfl
                  · have n_6 : (6 : Int) ≠ ((gI σ 36 8) : Int32).toInt := i32_ne (k := 6) (by decide) c_1
                    have n_7 : (7 : Int) ≠ ((gI σ 36 8) : Int32).toInt := i32_ne (k := 7) (by decide) c_8
                    have n_8 : (8 : Int) ≠ ((gI σ 36 8) : Int32).toInt := i32_ne (k := 8) (by decide) c_11
                    have n_9 : (9 : Int) ≠ ((gI σ 36 8) : Int32).toInt := i32_ne (k := 9) (by decide) c_15
                    have n_10 : (10 : Int) ≠ ((gI σ 36 8) : Int32).toInt := i32_ne (k := 10) (by decide) c_20
                    have n_11 : (11 : Int) ≠ ((gI σ 36 8) : Int32).toInt := i32_ne (k := 11) (by decide) c_24
                    have n_12 : (12 : Int) ≠ ((gI σ 36 8) : Int32).toInt := i32_ne (k := 12) (by decide) c_28
                    have n_13 : (13 : Int) ≠ ((gI σ 36 8) : Int32).toInt := i32_ne (k := 13) (by decide) c_34
                    refine ev_ts (off := 248) (t := 260) rfl rfl ?hsw rfl ?_
                    case hsw =>
                      by_cases hq : ((gI σ 36 8) : Int32).toInt < 6 ∨ 13 < ((gI σ 36 8) : Int32).toInt
                      · exact if_pos hq
                      · rw [if_neg hq]
                        exact absurd hq (by omega)
                    refine ev_x (i := .iconst 0) (len := 1) (p' := 261) (s' := [.int 0]) rfl rfl rfl ?_
                    obtain rfl := Option.some.inj H
                    exact ev_iret rfl rfl rfl rfl
  · refine ev_x (i := .aload_n 0) (len := 1) (p' := 1) (s' := [.ref 36]) rfl rfl rfl ?_
    refine ev_gc (p' := 4) (v := 2) rfl rfl rfl ly_36 rfl rfl ?_
    refine ev_gi (p' := 7) (v := (gI σ 2 3)) rfl rfl rfl ly_2 rfl rfl rfl ?_
    refine ev_x (i := .istore_n 1) (len := 1) (p' := 8) (s' := []) (l' := [(1, .int (gI σ 2 3)), (0, .ref 36)]) rfl rfl rfl ?_
    refine ev_x (i := .aload_n 0) (len := 1) (p' := 9) (s' := [.ref 36]) rfl rfl rfl ?_
    refine ev_gi (p' := 12) (v := (gI σ 36 8)) rfl rfl rfl ly_36 rfl rfl rfl ?_
    refine F_if H (fun c_1 H => ?_) (fun c_1 H => ?_)
    · refine ev_st (st' := [.int 6]) (congrArg (fun z => Value.int z :: []) c_1) ?_
      refine ev_ts (off := 48) (t := 60) rfl rfl (by decide) rfl ?_
      refine ev_x (i := .iload_n 1) (len := 1) (p' := 61) (s' := [.int (gI σ 2 3)]) rfl rfl rfl ?_
      refine ev_x (i := .sipush 307) (len := 3) (p' := 64) (s' := [.int 307, .int (gI σ 2 3)]) rfl rfl rfl ?_
      refine F_if H (fun c_2 H => ?_) (fun c_2 H => ?_)
      · refine ev_b2 (t := 76) (p' := 67) rfl rfl rfl (if_neg (fun q => q c_2)) ?_
        refine ev_x (i := .aload_n 0) (len := 1) (p' := 68) (s' := [.ref 36]) rfl rfl rfl ?_
        refine ev_x (i := .bipush 7) (len := 2) (p' := 70) (s' := [.int 7, .ref 36]) rfl rfl rfl ?_
        obtain ⟨p_3, G_3, H⟩ := F_bd H
        refine ev_cv (d := d + 7) (As := [.int 7]) (a := 36) (p' := 73) rfl rfl rfl ly_36 rfl rfl rfl rfl rfl rfl rfl (F_32_ok (d := d + 6)   G_3) ?_
        refine ev_st (st' := [.int p_3.1]) rfl ?_
        have e_3 := F_32_R G_3
        refine ev_x (i := .goto 21) (len := 3) (p' := 94) (s' := [.int p_3.1]) rfl rfl rfl ?_
        obtain ⟨b_4, H⟩ := F_gd H
        obtain rfl := Option.some.inj H
        exact ev_iret rfl rfl rfl (fit_b b_4)
      · refine ev_b2 (t := 76) (p' := 76) rfl rfl rfl (if_pos c_2) ?_
        refine ev_x (i := .iload_n 1) (len := 1) (p' := 77) (s' := [.int (gI σ 2 3)]) rfl rfl rfl ?_
        refine ev_x (i := .bipush 40) (len := 2) (p' := 79) (s' := [.int 40, .int (gI σ 2 3)]) rfl rfl rfl ?_
        refine F_if H (fun c_5 H => ?_) (fun c_5 H => ?_)
        · refine ev_b2 (t := 93) (p' := 82) rfl rfl rfl (if_neg (fun q => q c_5)) ?_
          refine ev_x (i := .aload_n 0) (len := 1) (p' := 83) (s' := [.ref 36]) rfl rfl rfl ?_
          obtain ⟨p_6, G_6, H⟩ := F_bd H
          refine ev_cv (d := d + 7) (As := []) (a := 36) (p' := 86) rfl rfl rfl ly_36 rfl rfl rfl rfl rfl rfl rfl (F_51_ok (d := d + 5)   G_6) ?_
          refine ev_st (st' := [.int p_6.1]) rfl ?_
          have e_6 := F_51_R G_6
          refine F_jn (A := vz_ev P0 (d + 8) 50 94 [(1, .int (gI σ 2 3)), (0, .ref 36)] [.int (if p_6.1 = 0 then 0 else 1 : Int32)] (hp (p_6.2)) (.inl (some (.int p.1)), hp p.2)) ?_ (fun J => ?_)
          · obtain rfl := Option.some.inj H
            exact ev_iret rfl rfl rfl (fit_b (by (repeat' split) <;> decide))
          · by_cases c_7 : p_6.1 = 0
            · refine ev_b0 (t := 93) (p' := 93) rfl rfl rfl (if_pos c_7) ?_
              refine ev_x (i := .iconst 0) (len := 1) (p' := 94) (s' := [.int 0]) rfl rfl rfl ?_
              exact ev_st (congrArg (fun z => Value.int z :: []) (by rw [if_pos c_7])) J
            · refine ev_b0 (t := 93) (p' := 89) rfl rfl rfl (if_neg c_7) ?_
              refine ev_x (i := .iconst 1) (len := 1) (p' := 90) (s' := [.int 1]) rfl rfl rfl ?_
              refine ev_x (i := .goto 4) (len := 3) (p' := 94) (s' := [.int 1]) rfl rfl rfl ?_
              exact ev_st (congrArg (fun z => Value.int z :: []) (by rw [if_neg c_7])) J
        · refine ev_b2 (t := 93) (p' := 93) rfl rfl rfl (if_pos c_5) ?_
          refine ev_x (i := .iconst 0) (len := 1) (p' := 94) (s' := [.int 0]) rfl rfl rfl ?_
          obtain rfl := Option.some.inj H
          exact ev_iret rfl rfl rfl rfl
    · refine F_if H (fun c_8 H => ?_) (fun c_8 H => ?_)
      · refine ev_st (st' := [.int 7]) (congrArg (fun z => Value.int z :: []) c_8) ?_
        refine ev_ts (off := 83) (t := 95) rfl rfl (by decide) rfl ?_
        refine ev_x (i := .aload_n 0) (len := 1) (p' := 96) (s' := [.ref 36]) rfl rfl rfl ?_
        obtain ⟨p_9, G_9, H⟩ := F_bd H
        refine ev_cv (d := d + 7) (As := []) (a := 36) (p' := 99) rfl rfl rfl ly_36 rfl rfl rfl rfl rfl rfl rfl (F_52_ok (d := d + 0) (ht := (Or.inr rfl)) (hr_36_7 := hr_36_7) G_9) ?_
        refine ev_st (st' := [.int p_9.1]) rfl ?_
        have e_9 := F_52_R G_9
        obtain ⟨b_10, H⟩ := F_gd H
        obtain rfl := Option.some.inj H
        exact ev_iret rfl rfl rfl (fit_b b_10)
      · refine F_if H (fun c_11 H => ?_) (fun c_11 H => ?_)
        · refine ev_st (st' := [.int 8]) (congrArg (fun z => Value.int z :: []) c_11) ?_
          refine ev_ts (off := 88) (t := 100) rfl rfl (by decide) rfl ?_
          refine ev_x (i := .iload_n 1) (len := 1) (p' := 101) (s' := [.int (gI σ 2 3)]) rfl rfl rfl ?_
          refine ev_x (i := .bipush 40) (len := 2) (p' := 103) (s' := [.int 40, .int (gI σ 2 3)]) rfl rfl rfl ?_
          refine F_if H (fun c_12 H => ?_) (fun c_12 H => ?_)
          · refine ev_b2 (t := 117) (p' := 106) rfl rfl rfl (if_neg (fun q => q c_12)) ?_
            refine ev_x (i := .aload_n 0) (len := 1) (p' := 107) (s' := [.ref 36]) rfl rfl rfl ?_
            obtain ⟨p_13, G_13, H⟩ := F_bd H
            refine ev_cv (d := d + 7) (As := []) (a := 36) (p' := 110) rfl rfl rfl ly_36 rfl rfl rfl rfl rfl rfl rfl (F_51_ok (d := d + 5)   G_13) ?_
            refine ev_st (st' := [.int p_13.1]) rfl ?_
            have e_13 := F_51_R G_13
            refine F_jn (A := vz_ev P0 (d + 8) 50 118 [(1, .int (gI σ 2 3)), (0, .ref 36)] [.int (if p_13.1 = 0 then 0 else 1 : Int32)] (hp (p_13.2)) (.inl (some (.int p.1)), hp p.2)) ?_ (fun J => ?_)
            · obtain rfl := Option.some.inj H
              exact ev_iret rfl rfl rfl (fit_b (by (repeat' split) <;> decide))
            · by_cases c_14 : p_13.1 = 0
              · refine ev_b0 (t := 117) (p' := 117) rfl rfl rfl (if_pos c_14) ?_
                refine ev_x (i := .iconst 0) (len := 1) (p' := 118) (s' := [.int 0]) rfl rfl rfl ?_
                exact ev_st (congrArg (fun z => Value.int z :: []) (by rw [if_pos c_14])) J
              · refine ev_b0 (t := 117) (p' := 113) rfl rfl rfl (if_neg c_14) ?_
                refine ev_x (i := .iconst 1) (len := 1) (p' := 114) (s' := [.int 1]) rfl rfl rfl ?_
                refine ev_x (i := .goto 4) (len := 3) (p' := 118) (s' := [.int 1]) rfl rfl rfl ?_
                exact ev_st (congrArg (fun z => Value.int z :: []) (by rw [if_neg c_14])) J
          · refine ev_b2 (t := 117) (p' := 117) rfl rfl rfl (if_pos c_12) ?_
            refine ev_x (i := .iconst 0) (len := 1) (p' := 118) (s' := [.int 0]) rfl rfl rfl ?_
            obtain rfl := Option.some.inj H
            exact ev_iret rfl rfl rfl rfl
        · refine F_if H (fun c_15 H => ?_) (fun c_15 H => ?_)
          · refine ev_st (st' := [.int 9]) (congrArg (fun z => Value.int z :: []) c_15) ?_
            refine ev_ts (off := 107) (t := 119) rfl rfl (by decide) rfl ?_
            refine ev_x (i := .aload_n 0) (len := 1) (p' := 120) (s' := [.ref 36]) rfl rfl rfl ?_
            refine ev_gr (p' := 123) (v := 21) rfl rfl rfl ly_36 rfl rfl hr_36_7 ?_
            refine ev_x (i := .bipush 33) (len := 2) (p' := 125) (s' := [.int 33, .ref 21]) rfl rfl rfl ?_
            refine ev_x (i := .aload_n 0) (len := 1) (p' := 126) (s' := [.ref 36, .int 33, .ref 21]) rfl rfl rfl ?_
            refine ev_gi (p' := 129) (v := (gI σ 36 16)) rfl rfl rfl ly_36 rfl rfl rfl ?_
            refine ev_x (i := .aload_n 0) (len := 1) (p' := 130) (s' := [.ref 36, .int (gI σ 36 16), .int 33, .ref 21]) rfl rfl rfl ?_
            refine ev_gc (p' := 133) (v := 2) rfl rfl rfl ly_36 rfl rfl ?_
            refine ev_gi (p' := 136) (v := (gI σ 2 4)) rfl rfl rfl ly_2 rfl rfl rfl ?_
            refine ev_x (i := .aload_n 0) (len := 1) (p' := 137) (s' := [.ref 36, .int (gI σ 2 4), .int (gI σ 36 16), .int 33, .ref 21]) rfl rfl rfl ?_
            refine ev_gc (p' := 140) (v := 2) rfl rfl rfl ly_36 rfl rfl ?_
            refine ev_gi (p' := 143) (v := (gI σ 2 5)) rfl rfl rfl ly_2 rfl rfl rfl ?_
            refine ev_x (i := .iconst (-1)) (len := 1) (p' := 144) (s' := [.int (-1), .int (gI σ 2 5), .int (gI σ 2 4), .int (gI σ 36 16), .int 33, .ref 21]) rfl rfl rfl ?_
            obtain ⟨p_16, G_16, H⟩ := F_bd H
            refine ev_cv (d := d + 7) (As := [.int 33, .int (gI σ 36 16), .int (gI σ 2 4), .int (gI σ 2 5), .int (-1)]) (a := 21) (p' := 147) rfl rfl rfl ly_21 rfl rfl rfl rfl rfl rfl rfl (F_30_ok (d := d + 2) (ht := (Or.inr rfl))  G_16) ?_
            refine ev_st (st' := [.int p_16.1]) rfl ?_
            have e_16 := F_30_R G_16
            refine ev_x (i := .pop) (len := 1) (p' := 148) (s' := []) rfl rfl rfl ?_
            refine ev_x (i := .iload_n 1) (len := 1) (p' := 149) (s' := [.int (gI σ 2 3)]) rfl rfl rfl ?_
            refine ev_x (i := .sipush 261) (len := 3) (p' := 152) (s' := [.int 261, .int (gI σ 2 3)]) rfl rfl rfl ?_
            refine F_if H (fun c_17 H => ?_) (fun c_17 H => ?_)
            · refine ev_b2 (t := 168) (p' := 155) rfl rfl rfl (if_neg (fun q => q c_17)) ?_
              refine ev_x (i := .aload_n 0) (len := 1) (p' := 156) (s' := [.ref 36]) rfl rfl rfl ?_
              refine ev_x (i := .bipush 10) (len := 2) (p' := 158) (s' := [.int 10, .ref 36]) rfl rfl rfl ?_
              obtain ⟨p_18, G_18, H⟩ := F_bd H
              refine ev_cv (d := d + 7) (As := [.int 10]) (a := 36) (p' := 161) rfl rfl rfl ly_36 rfl rfl rfl rfl rfl rfl rfl (F_32_ok (d := d + 6)   G_18) ?_
              refine ev_st (st' := [.int p_18.1]) rfl ?_
              have e_18 := F_32_R G_18
              refine F_jn (A := vz_ev P0 (d + 8) 50 169 [(1, .int (gI σ 2 3)), (0, .ref 36)] [.int (if p_18.1 = 0 then 0 else 1 : Int32)] (hp (p_18.2)) (.inl (some (.int p.1)), hp p.2)) ?_ (fun J => ?_)
              · obtain rfl := Option.some.inj H
                exact ev_iret rfl rfl rfl (fit_b (by (repeat' split) <;> decide))
              · by_cases c_19 : p_18.1 = 0
                · refine ev_b0 (t := 168) (p' := 168) rfl rfl rfl (if_pos c_19) ?_
                  refine ev_x (i := .iconst 0) (len := 1) (p' := 169) (s' := [.int 0]) rfl rfl rfl ?_
                  exact ev_st (congrArg (fun z => Value.int z :: []) (by rw [if_pos c_19])) J
                · refine ev_b0 (t := 168) (p' := 164) rfl rfl rfl (if_neg c_19) ?_
                  refine ev_x (i := .iconst 1) (len := 1) (p' := 165) (s' := [.int 1]) rfl rfl rfl ?_
                  refine ev_x (i := .goto 4) (len := 3) (p' := 169) (s' := [.int 1]) rfl rfl rfl ?_
                  exact ev_st (congrArg (fun z => Value.int z :: []) (by rw [if_neg c_19])) J
            · refine ev_b2 (t := 168) (p' := 168) rfl rfl rfl (if_pos c_17) ?_
              refine ev_x (i := .iconst 0) (len := 1) (p' := 169) (s' := [.int 0]) rfl rfl rfl ?_
              obtain rfl := Option.some.inj H
              exact ev_iret rfl rfl rfl rfl
          · refine F_if H (fun c_20 H => ?_) (fun c_20 H => ?_)
            · refine ev_st (st' := [.int 10]) (congrArg (fun z => Value.int z :: []) c_20) ?_
              refine ev_ts (off := 158) (t := 170) rfl rfl (by decide) rfl ?_
              refine ev_x (i := .iload_n 1) (len := 1) (p' := 171) (s' := [.int (gI σ 2 3)]) rfl rfl rfl ?_
              refine ev_x (i := .bipush 39) (len := 2) (p' := 173) (s' := [.int 39, .int (gI σ 2 3)]) rfl rfl rfl ?_
              refine F_if H (fun c_21 H => ?_) (fun c_21 H => ?_)
              · refine ev_b2 (t := 189) (p' := 176) rfl rfl rfl (if_neg (fun q => q c_21)) ?_
                refine ev_x (i := .aload_n 0) (len := 1) (p' := 177) (s' := [.ref 36]) rfl rfl rfl ?_
                refine ev_x (i := .bipush 11) (len := 2) (p' := 179) (s' := [.int 11, .ref 36]) rfl rfl rfl ?_
                obtain ⟨p_22, G_22, H⟩ := F_bd H
                refine ev_cv (d := d + 7) (As := [.int 11]) (a := 36) (p' := 182) rfl rfl rfl ly_36 rfl rfl rfl rfl rfl rfl rfl (F_32_ok (d := d + 6)   G_22) ?_
                refine ev_st (st' := [.int p_22.1]) rfl ?_
                have e_22 := F_32_R G_22
                refine F_jn (A := vz_ev P0 (d + 8) 50 190 [(1, .int (gI σ 2 3)), (0, .ref 36)] [.int (if p_22.1 = 0 then 0 else 1 : Int32)] (hp (p_22.2)) (.inl (some (.int p.1)), hp p.2)) ?_ (fun J => ?_)
                · obtain rfl := Option.some.inj H
                  exact ev_iret rfl rfl rfl (fit_b (by (repeat' split) <;> decide))
                · by_cases c_23 : p_22.1 = 0
                  · refine ev_b0 (t := 189) (p' := 189) rfl rfl rfl (if_pos c_23) ?_
                    refine ev_x (i := .iconst 0) (len := 1) (p' := 190) (s' := [.int 0]) rfl rfl rfl ?_
                    exact ev_st (congrArg (fun z => Value.int z :: []) (by rw [if_pos c_23])) J
                  · refine ev_b0 (t := 189) (p' := 185) rfl rfl rfl (if_neg c_23) ?_
                    refine ev_x (i := .iconst 1) (len := 1) (p' := 186) (s' := [.int 1]) rfl rfl rfl ?_
                    refine ev_x (i := .goto 4) (len := 3) (p' := 190) (s' := [.int 1]) rfl rfl rfl ?_
                    exact ev_st (congrArg (fun z => Value.int z :: []) (by rw [if_neg c_23])) J
              · refine ev_b2 (t := 189) (p' := 189) rfl rfl rfl (if_pos c_21) ?_
                refine ev_x (i := .iconst 0) (len := 1) (p' := 190) (s' := [.int 0]) rfl rfl rfl ?_
                obtain rfl := Option.some.inj H
                exact ev_iret rfl rfl rfl rfl
            · refine F_if H (fun c_24 H => ?_) (fun c_24 H => ?_)
              · refine ev_st (st' := [.int 11]) (congrArg (fun z => Value.int z :: []) c_24) ?_
                refine ev_ts (off := 179) (t := 191) rfl rfl (by decide) rfl ?_
                refine ev_x (i := .iload_n 1) (len := 1) (p' := 192) (s' := [.int (gI σ 2 3)]) rfl rfl rfl ?_
                refine ev_x (i := .bipush 61) (len := 2) (p' := 194) (s' := [.int 61, .int (gI σ 2 3)]) rfl rfl rfl ?_
                refine F_if H (fun c_25 H => ?_) (fun c_25 H => ?_)
                · refine ev_b2 (t := 210) (p' := 197) rfl rfl rfl (if_neg (fun q => q c_25)) ?_
                  refine ev_x (i := .aload_n 0) (len := 1) (p' := 198) (s' := [.ref 36]) rfl rfl rfl ?_
                  refine ev_x (i := .bipush 7) (len := 2) (p' := 200) (s' := [.int 7, .ref 36]) rfl rfl rfl ?_
                  obtain ⟨p_26, G_26, H⟩ := F_bd H
                  refine ev_cv (d := d + 7) (As := [.int 7]) (a := 36) (p' := 203) rfl rfl rfl ly_36 rfl rfl rfl rfl rfl rfl rfl (F_39_ok (d := d + 6) (ht := (Or.inr rfl)) (hr_36_7 := hr_36_7) G_26) ?_
                  refine ev_st (st' := [.int p_26.1]) rfl ?_
                  have e_26 := F_39_R G_26
                  refine F_jn (A := vz_ev P0 (d + 8) 50 211 [(1, .int (gI σ 2 3)), (0, .ref 36)] [.int (if p_26.1 = 0 then 0 else 1 : Int32)] (hp (p_26.2)) (.inl (some (.int p.1)), hp p.2)) ?_ (fun J => ?_)
                  · obtain rfl := Option.some.inj H
                    exact ev_iret rfl rfl rfl (fit_b (by (repeat' split) <;> decide))
                  · by_cases c_27 : p_26.1 = 0
                    · refine ev_b0 (t := 210) (p' := 210) rfl rfl rfl (if_pos c_27) ?_
                      refine ev_x (i := .iconst 0) (len := 1) (p' := 211) (s' := [.int 0]) rfl rfl rfl ?_
                      exact ev_st (congrArg (fun z => Value.int z :: []) (by rw [if_pos c_27])) J
                    · refine ev_b0 (t := 210) (p' := 206) rfl rfl rfl (if_neg c_27) ?_
                      refine ev_x (i := .iconst 1) (len := 1) (p' := 207) (s' := [.int 1]) rfl rfl rfl ?_
                      refine ev_x (i := .goto 4) (len := 3) (p' := 211) (s' := [.int 1]) rfl rfl rfl ?_
                      exact ev_st (congrArg (fun z => Value.int z :: []) (by rw [if_neg c_27])) J
                · refine ev_b2 (t := 210) (p' := 210) rfl rfl rfl (if_pos c_25) ?_
                  refine ev_x (i := .iconst 0) (len := 1) (p' := 211) (s' := [.int 0]) rfl rfl rfl ?_
                  obtain rfl := Option.some.inj H
                  exact ev_iret rfl rfl rfl rfl
              · refine F_if H (fun c_28 H => ?_) (fun c_28 H => ?_)
                · refine ev_st (st' := [.int 12]) (congrArg (fun z => Value.int z :: []) c_28) ?_
                  refine ev_ts (off := 200) (t := 212) rfl rfl (by decide) rfl ?_
                  refine ev_x (i := .iload_n 1) (len := 1) (p' := 213) (s' := [.int (gI σ 2 3)]) rfl rfl rfl ?_
                  refine ev_x (i := .bipush 38) (len := 2) (p' := 215) (s' := [.int 38, .int (gI σ 2 3)]) rfl rfl rfl ?_
                  refine F_if H (fun c_29 H => ?_) (fun c_29 H => ?_)
                  · refine ev_b2 (t := 227) (p' := 218) rfl rfl rfl (if_neg (fun q => q c_29)) ?_
                    refine ev_x (i := .aload_n 0) (len := 1) (p' := 219) (s' := [.ref 36]) rfl rfl rfl ?_
                    refine ev_x (i := .bipush 8) (len := 2) (p' := 221) (s' := [.int 8, .ref 36]) rfl rfl rfl ?_
                    obtain ⟨p_30, G_30, H⟩ := F_bd H
                    refine ev_cv (d := d + 7) (As := [.int 8]) (a := 36) (p' := 224) rfl rfl rfl ly_36 rfl rfl rfl rfl rfl rfl rfl (F_32_ok (d := d + 6)   G_30) ?_
                    refine ev_st (st' := [.int p_30.1]) rfl ?_
                    have e_30 := F_32_R G_30
                    refine ev_x (i := .goto 7) (len := 3) (p' := 231) (s' := [.int p_30.1]) rfl rfl rfl ?_
                    obtain ⟨b_31, H⟩ := F_gd H
                    obtain rfl := Option.some.inj H
                    exact ev_iret rfl rfl rfl (fit_b b_31)
                  · refine ev_b2 (t := 227) (p' := 227) rfl rfl rfl (if_pos c_29) ?_
                    refine ev_x (i := .aload_n 0) (len := 1) (p' := 228) (s' := [.ref 36]) rfl rfl rfl ?_
                    obtain ⟨p_32, G_32, H⟩ := F_bd H
                    refine ev_cv (d := d + 7) (As := []) (a := 36) (p' := 231) rfl rfl rfl ly_36 rfl rfl rfl rfl rfl rfl rfl (F_52_ok (d := d + 0) (ht := (Or.inr rfl)) (hr_36_7 := hr_36_7) G_32) ?_
                    refine ev_st (st' := [.int p_32.1]) rfl ?_
                    have e_32 := F_52_R G_32
                    obtain ⟨b_33, H⟩ := F_gd H
                    obtain rfl := Option.some.inj H
                    exact ev_iret rfl rfl rfl (fit_b b_33)
                · refine F_if H (fun c_34 H => ?_) (fun c_34 H => ?_)
                  · refine ev_st (st' := [.int 13]) (congrArg (fun z => Value.int z :: []) c_34) ?_
                    refine ev_ts (off := 220) (t := 232) rfl rfl (by decide) rfl ?_
                    refine ev_x (i := .iload_n 1) (len := 1) (p' := 233) (s' := [.int (gI σ 2 3)]) rfl rfl rfl ?_
                    refine ev_x (i := .bipush 40) (len := 2) (p' := 235) (s' := [.int 40, .int (gI σ 2 3)]) rfl rfl rfl ?_
                    refine F_if H (fun c_35 H => ?_) (fun c_35 H => ?_)
                    · refine ev_b2 (t := 258) (p' := 238) rfl rfl rfl (if_neg (fun q => q c_35)) ?_
                      refine ev_x (i := .aload_n 0) (len := 1) (p' := 239) (s' := [.ref 36]) rfl rfl rfl ?_
                      obtain ⟨p_36, G_36, H⟩ := F_bd H
                      refine ev_cv (d := d + 7) (As := []) (a := 36) (p' := 242) rfl rfl rfl ly_36 rfl rfl rfl rfl rfl rfl rfl (F_36_ok (d := d + 6)   G_36) ?_
                      refine ev_st (st' := [.int p_36.1]) rfl ?_
                      have e_36 := F_36_R G_36
                      refine F_if H (fun c_37 H => ?_) (fun c_37 H => ?_)
                      · refine ev_b0 (t := 258) (p' := 258) rfl rfl rfl (if_pos c_37) ?_
                        refine ev_x (i := .iconst 0) (len := 1) (p' := 259) (s' := [.int 0]) rfl rfl rfl ?_
                        obtain rfl := Option.some.inj H
                        exact ev_iret rfl rfl rfl rfl
                      · refine ev_b0 (t := 258) (p' := 245) rfl rfl rfl (if_neg c_37) ?_
                        refine ev_x (i := .aload_n 0) (len := 1) (p' := 246) (s' := [.ref 36]) rfl rfl rfl ?_
                        refine ev_x (i := .bipush 14) (len := 2) (p' := 248) (s' := [.int 14, .ref 36]) rfl rfl rfl ?_
                        obtain ⟨p_38, G_38, H⟩ := F_bd H
                        refine ev_cv (d := d + 7) (As := [.int 14]) (a := 36) (p' := 251) rfl rfl rfl ly_36 rfl rfl rfl rfl rfl rfl rfl (F_32_ok (d := d + 6)   G_38) ?_
                        refine ev_st (st' := [.int p_38.1]) rfl ?_
                        have e_38 := F_32_R G_38
                        refine F_jn (A := vz_ev P0 (d + 8) 50 259 [(1, .int (gI σ 2 3)), (0, .ref 36)] [.int (if p_38.1 = 0 then 0 else 1 : Int32)] (hp (p_38.2)) (.inl (some (.int p.1)), hp p.2)) ?_ (fun J => ?_)
                        · obtain rfl := Option.some.inj H
                          exact ev_iret rfl rfl rfl (fit_b (by (repeat' split) <;> decide))
                        · by_cases c_39 : p_38.1 = 0
                          · refine ev_b0 (t := 258) (p' := 258) rfl rfl rfl (if_pos c_39) ?_
                            refine ev_x (i := .iconst 0) (len := 1) (p' := 259) (s' := [.int 0]) rfl rfl rfl ?_
                            exact ev_st (congrArg (fun z => Value.int z :: []) (by rw [if_pos c_39])) J
                          · refine ev_b0 (t := 258) (p' := 254) rfl rfl rfl (if_neg c_39) ?_
                            refine ev_x (i := .iconst 1) (len := 1) (p' := 255) (s' := [.int 1]) rfl rfl rfl ?_
                            refine ev_x (i := .goto 4) (len := 3) (p' := 259) (s' := [.int 1]) rfl rfl rfl ?_
                            exact ev_st (congrArg (fun z => Value.int z :: []) (by rw [if_neg c_39])) J
                    · refine ev_b2 (t := 258) (p' := 258) rfl rfl rfl (if_pos c_35) ?_
                      refine ev_x (i := .iconst 0) (len := 1) (p' := 259) (s' := [.int 0]) rfl rfl rfl ?_
                      obtain rfl := Option.some.inj H
                      exact ev_iret rfl rfl rfl rfl
                  · have n_6 : (6 : Int) ≠ ((gI σ 36 8) : Int32).toInt := i32_ne (k := 6) (by decide) c_1
                    have n_7 : (7 : Int) ≠ ((gI σ 36 8) : Int32).toInt := i32_ne (k := 7) (by decide) c_8
                    have n_8 : (8 : Int) ≠ ((gI σ 36 8) : Int32).toInt := i32_ne (k := 8) (by decide) c_11
                    have n_9 : (9 : Int) ≠ ((gI σ 36 8) : Int32).toInt := i32_ne (k := 9) (by decide) c_15
                    have n_10 : (10 : Int) ≠ ((gI σ 36 8) : Int32).toInt := i32_ne (k := 10) (by decide) c_20
                    have n_11 : (11 : Int) ≠ ((gI σ 36 8) : Int32).toInt := i32_ne (k := 11) (by decide) c_24
                    have n_12 : (12 : Int) ≠ ((gI σ 36 8) : Int32).toInt := i32_ne (k := 12) (by decide) c_28
                    have n_13 : (13 : Int) ≠ ((gI σ 36 8) : Int32).toInt := i32_ne (k := 13) (by decide) c_34
                    refine ev_ts (off := 248) (t := 260) rfl rfl ?hsw rfl ?_
                    case hsw =>
                      by_cases hq : ((gI σ 36 8) : Int32).toInt < 6 ∨ 13 < ((gI σ 36 8) : Int32).toInt
                      · exact if_pos hq
                      · rw [if_neg hq]
                        exact absurd hq (by omega)
                    refine ev_x (i := .iconst 0) (len := 1) (p' := 261) (s' := [.int 0]) rfl rfl rfl ?_
                    obtain rfl := Option.some.inj H
                    exact ev_iret rfl rfl rfl rfl
/-- GameText$Parser.reads(LGameText$Code;)Z, its loops -/
def L_16 (N : Nat) (t : Nat) : Nat → Int32 → st_S → Option (Int32 × st_S)
  | 0, _, _ => none
  | k + 1, l_2, σ =>
      if 16384 < l_2 then
        some (0, σ)
      else
        (F_17 N (σ)).bind fun p_2 =>
        if (gI p_2 2 3) = 264 then
          some ((if (gI p_2 36 8) = 0 then 1 else 0 : Int32), p_2)
        else
          if (gI p_2 36 8) = 15 then
            (F_26 N t (p_2)).bind fun p_6 =>
            if p_6.1 = 0 then
              some (0, p_6.2)
            else
              L_16 N t k (l_2 + 1) (p_6.2)
          else
            if (gI p_2 36 8) = 14 then
              (F_45 N t (p_2)).bind fun p_9 =>
              if p_9.1 = 0 then
                some (0, p_9.2)
              else
                L_16 N t k (l_2 + 1) (p_9.2)
            else
              if (gI p_2 36 8) = 0 then
                (F_47 N t (p_2)).bind fun p_12 =>
                if p_12.1 = 0 then
                  some (0, p_12.2)
                else
                  L_16 N t k (l_2 + 1) (p_12.2)
              else
                if 5 < (gI p_2 36 8) then
                  (F_50 N t (p_2)).bind fun p_15 =>
                  if p_15.1 = 0 then
                    some (0, p_15.2)
                  else
                    L_16 N t k (l_2 + 1) (p_15.2)
                else
                  (F_49 N t (p_2)).bind fun p_17 =>
                  if p_17.1 = 0 then
                    some (0, p_17.2)
                  else
                    L_16 N t k (l_2 + 1) (p_17.2)
set_option maxRecDepth 100000 in
theorem L_16_R {N : Nat} {t : Nat} : ∀ (k : Nat) (l_2 : Int32) (σ : st_S) (p : Int32 × st_S), L_16 N t k l_2 σ = some p → gR p.2 = gR σ := by
  intro k
  induction k with
  | zero => intro l_2 σ p H; unfold L_16 at H; cases H
  | succ k ih =>
    intro l_2 σ p H
    unfold L_16 at H
    refine F_if H (fun _ H => ?_) (fun _ H => ?_)
    · obtain rfl := Option.some.inj H
      exact rfl
    · obtain ⟨p_2, G_2, H⟩ := F_bd H
      refine F_if H (fun _ H => ?_) (fun _ H => ?_)
      · obtain rfl := Option.some.inj H
        exact ((F_17_R G_2).trans rfl)
      · refine F_if H (fun _ H => ?_) (fun _ H => ?_)
        · obtain ⟨p_6, G_6, H⟩ := F_bd H
          refine F_if H (fun _ H => ?_) (fun _ H => ?_)
          · obtain rfl := Option.some.inj H
            exact ((F_26_R G_6).trans ((F_17_R G_2).trans rfl))
          · exact (((ih _ _ _ H)).trans ((F_26_R G_6).trans ((F_17_R G_2).trans rfl)))
        · refine F_if H (fun _ H => ?_) (fun _ H => ?_)
          · obtain ⟨p_9, G_9, H⟩ := F_bd H
            refine F_if H (fun _ H => ?_) (fun _ H => ?_)
            · obtain rfl := Option.some.inj H
              exact ((F_45_R G_9).trans ((F_17_R G_2).trans rfl))
            · exact (((ih _ _ _ H)).trans ((F_45_R G_9).trans ((F_17_R G_2).trans rfl)))
          · refine F_if H (fun _ H => ?_) (fun _ H => ?_)
            · obtain ⟨p_12, G_12, H⟩ := F_bd H
              refine F_if H (fun _ H => ?_) (fun _ H => ?_)
              · obtain rfl := Option.some.inj H
                exact ((F_47_R G_12).trans ((F_17_R G_2).trans rfl))
              · exact (((ih _ _ _ H)).trans ((F_47_R G_12).trans ((F_17_R G_2).trans rfl)))
            · refine F_if H (fun _ H => ?_) (fun _ H => ?_)
              · obtain ⟨p_15, G_15, H⟩ := F_bd H
                refine F_if H (fun _ H => ?_) (fun _ H => ?_)
                · obtain rfl := Option.some.inj H
                  exact ((F_50_R G_15).trans ((F_17_R G_2).trans rfl))
                · exact (((ih _ _ _ H)).trans ((F_50_R G_15).trans ((F_17_R G_2).trans rfl)))
              · obtain ⟨p_17, G_17, H⟩ := F_bd H
                refine F_if H (fun _ H => ?_) (fun _ H => ?_)
                · obtain rfl := Option.some.inj H
                  exact ((F_49_R G_17).trans ((F_17_R G_2).trans rfl))
                · exact (((ih _ _ _ H)).trans ((F_49_R G_17).trans ((F_17_R G_2).trans rfl)))
set_option maxHeartbeats 4000000 in
set_option maxRecDepth 100000 in
theorem L_16_ok {N d : Nat} {t : Nat} (ht : t = 4 ∨ t = 20) : ∀ k : Nat, ∀ (l_2 : Int32) (σ : st_S) (lv : vz_L) (p : Int32 × st_S), vz_g lv 0 = some (.ref 36) → vz_g lv 2 = some (.int l_2) → vz_nbL (vz_gr P0) lv = true → gR σ 36 7 = (t + 1) → L_16 N t k l_2 σ = some p → vz_ev P0 (d + 12) 16 28 lv [] (hp σ) (.inl (some (.int p.1)), hp p.2) := by
  intro k
  induction k with
  | zero => intro l_2 σ lv p g_0 g_2 hnb hr_36_7 H; unfold L_16 at H; cases H
  | succ k ih =>
    intro l_2 σ lv p g_0 g_2 hnb hr_36_7 H
    unfold L_16 at H
    refine ev_x (i := .iload_n 2) (len := 1) (p' := 29) (s' := [.int l_2]) rfl rfl (ld_i g_2) ?_
    refine ev_x (i := .sipush 16384) (len := 3) (p' := 32) (s' := [.int 16384, .int l_2]) rfl rfl rfl ?_
    refine F_if H (fun c_1 H => ?_) (fun c_1 H => ?_)
    · refine ev_b2 (t := 151) (p' := 151) rfl rfl rfl (if_pos c_1) ?_
      refine ev_x (i := .iconst 0) (len := 1) (p' := 152) (s' := [.int 0]) rfl rfl rfl ?_
      obtain rfl := Option.some.inj H
      exact ev_iret rfl rfl rfl rfl
    · refine ev_b2 (t := 151) (p' := 35) rfl rfl rfl (if_neg c_1) ?_
      refine ev_x (i := .aload_n 0) (len := 1) (p' := 36) (s' := [.ref 36]) rfl rfl (ld_a g_0) ?_
      refine ev_gc (p' := 39) (v := 2) rfl rfl rfl ly_36 rfl rfl ?_
      obtain ⟨p_2, G_2, H⟩ := F_bd H
      refine ev_cv (d := d + 11) (As := []) (a := 2) (p' := 42) rfl rfl rfl ly_2 rfl rfl rfl rfl rfl hnb rfl (F_17_ok (d := d + 0)   G_2) ?_
      refine ev_st (st' := []) rfl ?_
      have e_2 := F_17_R G_2
      refine ev_x (i := .aload_n 0) (len := 1) (p' := 43) (s' := [.ref 36]) rfl rfl (ld_a g_0) ?_
      refine ev_gc (p' := 46) (v := 2) rfl rfl rfl ly_36 rfl rfl ?_
      refine ev_gi (p' := 49) (v := (gI p_2 2 3)) rfl rfl rfl ly_2 rfl rfl rfl ?_
      refine ev_x (i := .sipush 264) (len := 3) (p' := 52) (s' := [.int 264, .int (gI p_2 2 3)]) rfl rfl rfl ?_
      refine F_if H (fun c_3 H => ?_) (fun c_3 H => ?_)
      · refine ev_b2 (t := 68) (p' := 55) rfl rfl rfl (if_neg (fun q => q c_3)) ?_
        refine ev_x (i := .aload_n 0) (len := 1) (p' := 56) (s' := [.ref 36]) rfl rfl (ld_a g_0) ?_
        refine ev_gi (p' := 59) (v := (gI p_2 36 8)) rfl rfl rfl ly_36 rfl rfl rfl ?_
        refine F_jn (A := vz_ev P0 (d + 12) 16 67 (lv) [.int (if (gI p_2 36 8) = 0 then 1 else 0 : Int32)] (hp (p_2)) (.inl (some (.int p.1)), hp p.2)) ?_ (fun J => ?_)
        · obtain rfl := Option.some.inj H
          exact ev_iret rfl rfl rfl (fit_b (by (repeat' split) <;> decide))
        · by_cases c_4 : (gI p_2 36 8) = 0
          · refine ev_b0 (t := 66) (p' := 62) rfl rfl rfl (if_neg (fun q => q c_4)) ?_
            refine ev_x (i := .iconst 1) (len := 1) (p' := 63) (s' := [.int 1]) rfl rfl rfl ?_
            refine ev_x (i := .goto 4) (len := 3) (p' := 67) (s' := [.int 1]) rfl rfl rfl ?_
            exact ev_st (congrArg (fun z => Value.int z :: []) (by rw [if_pos c_4])) J
          · refine ev_b0 (t := 66) (p' := 66) rfl rfl rfl (if_pos c_4) ?_
            refine ev_x (i := .iconst 0) (len := 1) (p' := 67) (s' := [.int 0]) rfl rfl rfl ?_
            exact ev_st (congrArg (fun z => Value.int z :: []) (by rw [if_neg c_4])) J
      · refine ev_b2 (t := 68) (p' := 68) rfl rfl rfl (if_pos c_3) ?_
        refine ev_x (i := .iconst 0) (len := 1) (p' := 69) (s' := [.int 0]) rfl rfl rfl ?_
        refine ev_x (i := .istore_n 3) (len := 1) (p' := 70) (s' := []) (l' := vz_s1 (lv) 3 (.int 0)) rfl rfl rfl ?_
        refine ev_x (i := .aload_n 0) (len := 1) (p' := 71) (s' := [.ref 36]) rfl rfl (ld_a (vg_o (i := 3) (v := .int 0) g_0 (by decide) (Or.inl rfl))) ?_
        refine ev_gi (p' := 74) (v := (gI p_2 36 8)) rfl rfl rfl ly_36 rfl rfl rfl ?_
        refine ev_x (i := .bipush 15) (len := 2) (p' := 76) (s' := [.int 15, .int (gI p_2 36 8)]) rfl rfl rfl ?_
        refine F_if H (fun c_5 H => ?_) (fun c_5 H => ?_)
        · refine ev_b2 (t := 87) (p' := 79) rfl rfl rfl (if_neg (fun q => q c_5)) ?_
          refine ev_x (i := .aload_n 0) (len := 1) (p' := 80) (s' := [.ref 36]) rfl rfl (ld_a (vg_o (i := 3) (v := .int 0) g_0 (by decide) (Or.inl rfl))) ?_
          obtain ⟨p_6, G_6, H⟩ := F_bd H
          refine ev_cv (d := d + 11) (As := []) (a := 36) (p' := 83) rfl rfl rfl ly_36 rfl rfl rfl rfl rfl (nb_s1 hnb rfl) rfl (F_26_ok (d := d + 2) (ht := ht) (hr_36_7 := ((congrFun (congrFun e_2 36) 7).trans hr_36_7)) G_6) ?_
          refine ev_st (st' := [.int p_6.1]) rfl ?_
          have e_6 := F_26_R G_6
          refine ev_x (i := .istore_n 3) (len := 1) (p' := 84) (s' := []) (l' := vz_s1 (vz_s1 (lv) 3 (.int 0)) 3 (.int p_6.1)) rfl rfl rfl ?_
          refine ev_x (i := .goto 55) (len := 3) (p' := 139) (s' := []) rfl rfl rfl ?_
          refine ev_x (i := .iload_n 3) (len := 1) (p' := 140) (s' := [.int p_6.1]) rfl rfl (ld_i (vg_s (vz_s1 (lv) 3 (.int 0)) 3 (.int p_6.1))) ?_
          refine F_if H (fun c_7 H => ?_) (fun c_7 H => ?_)
          · refine ev_b0 (t := 145) (p' := 143) rfl rfl rfl (if_neg (fun q => q c_7)) ?_
            refine ev_x (i := .iconst 0) (len := 1) (p' := 144) (s' := [.int 0]) rfl rfl rfl ?_
            obtain rfl := Option.some.inj H
            exact ev_iret rfl rfl rfl rfl
          · refine ev_b0 (t := 145) (p' := 145) rfl rfl rfl (if_pos c_7) ?_
            refine ev_x (i := .iinc 2 1) (len := 3) (p' := 148) (s' := []) (l' := vz_s1 (vz_s1 (vz_s1 (lv) 3 (.int 0)) 3 (.int p_6.1)) 2 (.int (l_2 + 1))) rfl rfl (ld_inc (vg_o (i := 3) (v := .int p_6.1) (vg_o (i := 3) (v := .int 0) g_2 (by decide) (Or.inl rfl)) (by decide) (Or.inl rfl)) rfl) ?_
            refine ev_x (i := .goto (-120)) (len := 3) (p' := 28) (s' := []) rfl rfl rfl ?_
            exact ih _ _ _ _ (vg_o (i := 2) (v := .int (l_2 + 1)) (vg_o (i := 3) (v := .int p_6.1) (vg_o (i := 3) (v := .int 0) g_0 (by decide) (Or.inl rfl)) (by decide) (Or.inl rfl)) (by decide) (Or.inl rfl)) (vg_s (vz_s1 (vz_s1 (lv) 3 (.int 0)) 3 (.int p_6.1)) 2 (.int (l_2 + 1))) (nb_s1 (nb_s1 (nb_s1 hnb rfl) rfl) rfl) ((congrFun (congrFun e_6 36) 7).trans ((congrFun (congrFun e_2 36) 7).trans hr_36_7)) H
        · refine ev_b2 (t := 87) (p' := 87) rfl rfl rfl (if_pos c_5) ?_
          refine ev_x (i := .aload_n 0) (len := 1) (p' := 88) (s' := [.ref 36]) rfl rfl (ld_a (vg_o (i := 3) (v := .int 0) g_0 (by decide) (Or.inl rfl))) ?_
          refine ev_gi (p' := 91) (v := (gI p_2 36 8)) rfl rfl rfl ly_36 rfl rfl rfl ?_
          refine ev_x (i := .bipush 14) (len := 2) (p' := 93) (s' := [.int 14, .int (gI p_2 36 8)]) rfl rfl rfl ?_
          refine F_if H (fun c_8 H => ?_) (fun c_8 H => ?_)
          · refine ev_b2 (t := 104) (p' := 96) rfl rfl rfl (if_neg (fun q => q c_8)) ?_
            refine ev_x (i := .aload_n 0) (len := 1) (p' := 97) (s' := [.ref 36]) rfl rfl (ld_a (vg_o (i := 3) (v := .int 0) g_0 (by decide) (Or.inl rfl))) ?_
            obtain ⟨p_9, G_9, H⟩ := F_bd H
            refine ev_cv (d := d + 11) (As := []) (a := 36) (p' := 100) rfl rfl rfl ly_36 rfl rfl rfl rfl rfl (nb_s1 hnb rfl) rfl (F_45_ok (d := d + 4) (ht := ht) (hr_36_7 := ((congrFun (congrFun e_2 36) 7).trans hr_36_7)) G_9) ?_
            refine ev_st (st' := [.int p_9.1]) rfl ?_
            have e_9 := F_45_R G_9
            refine ev_x (i := .istore_n 3) (len := 1) (p' := 101) (s' := []) (l' := vz_s1 (vz_s1 (lv) 3 (.int 0)) 3 (.int p_9.1)) rfl rfl rfl ?_
            refine ev_x (i := .goto 38) (len := 3) (p' := 139) (s' := []) rfl rfl rfl ?_
            refine ev_x (i := .iload_n 3) (len := 1) (p' := 140) (s' := [.int p_9.1]) rfl rfl (ld_i (vg_s (vz_s1 (lv) 3 (.int 0)) 3 (.int p_9.1))) ?_
            refine F_if H (fun c_10 H => ?_) (fun c_10 H => ?_)
            · refine ev_b0 (t := 145) (p' := 143) rfl rfl rfl (if_neg (fun q => q c_10)) ?_
              refine ev_x (i := .iconst 0) (len := 1) (p' := 144) (s' := [.int 0]) rfl rfl rfl ?_
              obtain rfl := Option.some.inj H
              exact ev_iret rfl rfl rfl rfl
            · refine ev_b0 (t := 145) (p' := 145) rfl rfl rfl (if_pos c_10) ?_
              refine ev_x (i := .iinc 2 1) (len := 3) (p' := 148) (s' := []) (l' := vz_s1 (vz_s1 (vz_s1 (lv) 3 (.int 0)) 3 (.int p_9.1)) 2 (.int (l_2 + 1))) rfl rfl (ld_inc (vg_o (i := 3) (v := .int p_9.1) (vg_o (i := 3) (v := .int 0) g_2 (by decide) (Or.inl rfl)) (by decide) (Or.inl rfl)) rfl) ?_
              refine ev_x (i := .goto (-120)) (len := 3) (p' := 28) (s' := []) rfl rfl rfl ?_
              exact ih _ _ _ _ (vg_o (i := 2) (v := .int (l_2 + 1)) (vg_o (i := 3) (v := .int p_9.1) (vg_o (i := 3) (v := .int 0) g_0 (by decide) (Or.inl rfl)) (by decide) (Or.inl rfl)) (by decide) (Or.inl rfl)) (vg_s (vz_s1 (vz_s1 (lv) 3 (.int 0)) 3 (.int p_9.1)) 2 (.int (l_2 + 1))) (nb_s1 (nb_s1 (nb_s1 hnb rfl) rfl) rfl) ((congrFun (congrFun e_9 36) 7).trans ((congrFun (congrFun e_2 36) 7).trans hr_36_7)) H
          · refine ev_b2 (t := 104) (p' := 104) rfl rfl rfl (if_pos c_8) ?_
            refine ev_x (i := .aload_n 0) (len := 1) (p' := 105) (s' := [.ref 36]) rfl rfl (ld_a (vg_o (i := 3) (v := .int 0) g_0 (by decide) (Or.inl rfl))) ?_
            refine ev_gi (p' := 108) (v := (gI p_2 36 8)) rfl rfl rfl ly_36 rfl rfl rfl ?_
            refine F_if H (fun c_11 H => ?_) (fun c_11 H => ?_)
            · refine ev_b0 (t := 119) (p' := 111) rfl rfl rfl (if_neg (fun q => q c_11)) ?_
              refine ev_x (i := .aload_n 0) (len := 1) (p' := 112) (s' := [.ref 36]) rfl rfl (ld_a (vg_o (i := 3) (v := .int 0) g_0 (by decide) (Or.inl rfl))) ?_
              obtain ⟨p_12, G_12, H⟩ := F_bd H
              refine ev_cv (d := d + 11) (As := []) (a := 36) (p' := 115) rfl rfl rfl ly_36 rfl rfl rfl rfl rfl (nb_s1 hnb rfl) rfl (F_47_ok (d := d + 4) (ht := ht) (hr_36_7 := ((congrFun (congrFun e_2 36) 7).trans hr_36_7)) G_12) ?_
              refine ev_st (st' := [.int p_12.1]) rfl ?_
              have e_12 := F_47_R G_12
              refine ev_x (i := .istore_n 3) (len := 1) (p' := 116) (s' := []) (l' := vz_s1 (vz_s1 (lv) 3 (.int 0)) 3 (.int p_12.1)) rfl rfl rfl ?_
              refine ev_x (i := .goto 23) (len := 3) (p' := 139) (s' := []) rfl rfl rfl ?_
              refine ev_x (i := .iload_n 3) (len := 1) (p' := 140) (s' := [.int p_12.1]) rfl rfl (ld_i (vg_s (vz_s1 (lv) 3 (.int 0)) 3 (.int p_12.1))) ?_
              refine F_if H (fun c_13 H => ?_) (fun c_13 H => ?_)
              · refine ev_b0 (t := 145) (p' := 143) rfl rfl rfl (if_neg (fun q => q c_13)) ?_
                refine ev_x (i := .iconst 0) (len := 1) (p' := 144) (s' := [.int 0]) rfl rfl rfl ?_
                obtain rfl := Option.some.inj H
                exact ev_iret rfl rfl rfl rfl
              · refine ev_b0 (t := 145) (p' := 145) rfl rfl rfl (if_pos c_13) ?_
                refine ev_x (i := .iinc 2 1) (len := 3) (p' := 148) (s' := []) (l' := vz_s1 (vz_s1 (vz_s1 (lv) 3 (.int 0)) 3 (.int p_12.1)) 2 (.int (l_2 + 1))) rfl rfl (ld_inc (vg_o (i := 3) (v := .int p_12.1) (vg_o (i := 3) (v := .int 0) g_2 (by decide) (Or.inl rfl)) (by decide) (Or.inl rfl)) rfl) ?_
                refine ev_x (i := .goto (-120)) (len := 3) (p' := 28) (s' := []) rfl rfl rfl ?_
                exact ih _ _ _ _ (vg_o (i := 2) (v := .int (l_2 + 1)) (vg_o (i := 3) (v := .int p_12.1) (vg_o (i := 3) (v := .int 0) g_0 (by decide) (Or.inl rfl)) (by decide) (Or.inl rfl)) (by decide) (Or.inl rfl)) (vg_s (vz_s1 (vz_s1 (lv) 3 (.int 0)) 3 (.int p_12.1)) 2 (.int (l_2 + 1))) (nb_s1 (nb_s1 (nb_s1 hnb rfl) rfl) rfl) ((congrFun (congrFun e_12 36) 7).trans ((congrFun (congrFun e_2 36) 7).trans hr_36_7)) H
            · refine ev_b0 (t := 119) (p' := 119) rfl rfl rfl (if_pos c_11) ?_
              refine ev_x (i := .aload_n 0) (len := 1) (p' := 120) (s' := [.ref 36]) rfl rfl (ld_a (vg_o (i := 3) (v := .int 0) g_0 (by decide) (Or.inl rfl))) ?_
              refine ev_gi (p' := 123) (v := (gI p_2 36 8)) rfl rfl rfl ly_36 rfl rfl rfl ?_
              refine ev_x (i := .iconst 5) (len := 1) (p' := 124) (s' := [.int 5, .int (gI p_2 36 8)]) rfl rfl rfl ?_
              refine F_if H (fun c_14 H => ?_) (fun c_14 H => ?_)
              · refine ev_b2 (t := 134) (p' := 134) rfl rfl rfl (if_pos c_14) ?_
                refine ev_x (i := .aload_n 0) (len := 1) (p' := 135) (s' := [.ref 36]) rfl rfl (ld_a (vg_o (i := 3) (v := .int 0) g_0 (by decide) (Or.inl rfl))) ?_
                obtain ⟨p_15, G_15, H⟩ := F_bd H
                refine ev_cv (d := d + 11) (As := []) (a := 36) (p' := 138) rfl rfl rfl ly_36 rfl rfl rfl rfl rfl (nb_s1 hnb rfl) rfl (F_50_ok (d := d + 3) (ht := ht) (hr_36_7 := ((congrFun (congrFun e_2 36) 7).trans hr_36_7)) G_15) ?_
                refine ev_st (st' := [.int p_15.1]) rfl ?_
                have e_15 := F_50_R G_15
                refine ev_x (i := .istore_n 3) (len := 1) (p' := 139) (s' := []) (l' := vz_s1 (vz_s1 (lv) 3 (.int 0)) 3 (.int p_15.1)) rfl rfl rfl ?_
                refine ev_x (i := .iload_n 3) (len := 1) (p' := 140) (s' := [.int p_15.1]) rfl rfl (ld_i (vg_s (vz_s1 (lv) 3 (.int 0)) 3 (.int p_15.1))) ?_
                refine F_if H (fun c_16 H => ?_) (fun c_16 H => ?_)
                · refine ev_b0 (t := 145) (p' := 143) rfl rfl rfl (if_neg (fun q => q c_16)) ?_
                  refine ev_x (i := .iconst 0) (len := 1) (p' := 144) (s' := [.int 0]) rfl rfl rfl ?_
                  obtain rfl := Option.some.inj H
                  exact ev_iret rfl rfl rfl rfl
                · refine ev_b0 (t := 145) (p' := 145) rfl rfl rfl (if_pos c_16) ?_
                  refine ev_x (i := .iinc 2 1) (len := 3) (p' := 148) (s' := []) (l' := vz_s1 (vz_s1 (vz_s1 (lv) 3 (.int 0)) 3 (.int p_15.1)) 2 (.int (l_2 + 1))) rfl rfl (ld_inc (vg_o (i := 3) (v := .int p_15.1) (vg_o (i := 3) (v := .int 0) g_2 (by decide) (Or.inl rfl)) (by decide) (Or.inl rfl)) rfl) ?_
                  refine ev_x (i := .goto (-120)) (len := 3) (p' := 28) (s' := []) rfl rfl rfl ?_
                  exact ih _ _ _ _ (vg_o (i := 2) (v := .int (l_2 + 1)) (vg_o (i := 3) (v := .int p_15.1) (vg_o (i := 3) (v := .int 0) g_0 (by decide) (Or.inl rfl)) (by decide) (Or.inl rfl)) (by decide) (Or.inl rfl)) (vg_s (vz_s1 (vz_s1 (lv) 3 (.int 0)) 3 (.int p_15.1)) 2 (.int (l_2 + 1))) (nb_s1 (nb_s1 (nb_s1 hnb rfl) rfl) rfl) ((congrFun (congrFun e_15 36) 7).trans ((congrFun (congrFun e_2 36) 7).trans hr_36_7)) H
              · refine ev_b2 (t := 134) (p' := 127) rfl rfl rfl (if_neg c_14) ?_
                refine ev_x (i := .aload_n 0) (len := 1) (p' := 128) (s' := [.ref 36]) rfl rfl (ld_a (vg_o (i := 3) (v := .int 0) g_0 (by decide) (Or.inl rfl))) ?_
                obtain ⟨p_17, G_17, H⟩ := F_bd H
                refine ev_cv (d := d + 11) (As := []) (a := 36) (p' := 131) rfl rfl rfl ly_36 rfl rfl rfl rfl rfl (nb_s1 hnb rfl) rfl (F_49_ok (d := d + 3) (ht := ht) (hr_36_7 := ((congrFun (congrFun e_2 36) 7).trans hr_36_7)) G_17) ?_
                refine ev_st (st' := [.int p_17.1]) rfl ?_
                have e_17 := F_49_R G_17
                refine ev_x (i := .goto 7) (len := 3) (p' := 138) (s' := [.int p_17.1]) rfl rfl rfl ?_
                refine ev_x (i := .istore_n 3) (len := 1) (p' := 139) (s' := []) (l' := vz_s1 (vz_s1 (lv) 3 (.int 0)) 3 (.int p_17.1)) rfl rfl rfl ?_
                refine ev_x (i := .iload_n 3) (len := 1) (p' := 140) (s' := [.int p_17.1]) rfl rfl (ld_i (vg_s (vz_s1 (lv) 3 (.int 0)) 3 (.int p_17.1))) ?_
                refine F_if H (fun c_18 H => ?_) (fun c_18 H => ?_)
                · refine ev_b0 (t := 145) (p' := 143) rfl rfl rfl (if_neg (fun q => q c_18)) ?_
                  refine ev_x (i := .iconst 0) (len := 1) (p' := 144) (s' := [.int 0]) rfl rfl rfl ?_
                  obtain rfl := Option.some.inj H
                  exact ev_iret rfl rfl rfl rfl
                · refine ev_b0 (t := 145) (p' := 145) rfl rfl rfl (if_pos c_18) ?_
                  refine ev_x (i := .iinc 2 1) (len := 3) (p' := 148) (s' := []) (l' := vz_s1 (vz_s1 (vz_s1 (lv) 3 (.int 0)) 3 (.int p_17.1)) 2 (.int (l_2 + 1))) rfl rfl (ld_inc (vg_o (i := 3) (v := .int p_17.1) (vg_o (i := 3) (v := .int 0) g_2 (by decide) (Or.inl rfl)) (by decide) (Or.inl rfl)) rfl) ?_
                  refine ev_x (i := .goto (-120)) (len := 3) (p' := 28) (s' := []) rfl rfl rfl ?_
                  exact ih _ _ _ _ (vg_o (i := 2) (v := .int (l_2 + 1)) (vg_o (i := 3) (v := .int p_17.1) (vg_o (i := 3) (v := .int 0) g_0 (by decide) (Or.inl rfl)) (by decide) (Or.inl rfl)) (by decide) (Or.inl rfl)) (vg_s (vz_s1 (vz_s1 (lv) 3 (.int 0)) 3 (.int p_17.1)) 2 (.int (l_2 + 1))) (nb_s1 (nb_s1 (nb_s1 hnb rfl) rfl) rfl) ((congrFun (congrFun e_17 36) 7).trans ((congrFun (congrFun e_2 36) 7).trans hr_36_7)) H
/-- GameText$Parser.reads(LGameText$Code;)Z -/
def F_16 (N : Nat) (t : Nat) (σ : st_S) : Option (Int32 × st_S) :=
  L_16 N t N 0 (st_i (st_i (st_i (st_r (σ) 36 7 (t + 1)) (t + 1) 8 0) 2 2 0) 36 8 0)
set_option maxRecDepth 100000 in
theorem F_16_R {N : Nat} {t : Nat} {σ : st_S} {p : Int32 × st_S} (H : F_16 N t σ = some p) : gR p.2 = gR (st_r (σ) 36 7 (t + 1)) := by
  unfold F_16 at H
  exact (((L_16_R _ _ _ _ H)).trans rfl)
set_option maxHeartbeats 4000000 in
set_option maxRecDepth 100000 in
theorem F_16_ok {N d : Nat} {t : Nat} (ht : t = 4 ∨ t = 20) {σ : st_S} {p : Int32 × st_S}  (H : F_16 N t σ = some p) : vz_ev P0 (d + 12) 16 0 (lv_args 0 [.ref 36, .ref (t + 1)]) [] (hp σ) (.inl (some (.int p.1)), hp p.2) := by
  unfold F_16 at H
  rcases ht with rfl | rfl
  · refine ev_x (i := .aload_n 0) (len := 1) (p' := 1) (s' := [.ref 36]) rfl rfl rfl ?_
    refine ev_x (i := .aload_n 1) (len := 1) (p' := 2) (s' := [.ref 5, .ref 36]) rfl rfl rfl ?_
    refine ev_pr (p' := 5) rfl rfl rfl ly_36 rfl rfl rfl rfl rfl ?_
    refine ev_x (i := .aload_n 0) (len := 1) (p' := 6) (s' := [.ref 36]) rfl rfl rfl ?_
    refine ev_gr (p' := 9) (v := 5) rfl rfl rfl ly_36 rfl rfl rfl ?_
    refine ev_x (i := .iconst 0) (len := 1) (p' := 10) (s' := [.int 0, .ref 5]) rfl rfl rfl ?_
    refine ev_pi (p' := 13) rfl rfl rfl ly_5 rfl rfl rfl rfl ?_
    refine ev_x (i := .aload_n 0) (len := 1) (p' := 14) (s' := [.ref 36]) rfl rfl rfl ?_
    refine ev_gc (p' := 17) (v := 2) rfl rfl rfl ly_36 rfl rfl ?_
    refine ev_x (i := .iconst 0) (len := 1) (p' := 18) (s' := [.int 0, .ref 2]) rfl rfl rfl ?_
    refine ev_pi (p' := 21) rfl rfl rfl ly_2 rfl rfl rfl rfl ?_
    refine ev_x (i := .aload_n 0) (len := 1) (p' := 22) (s' := [.ref 36]) rfl rfl rfl ?_
    refine ev_x (i := .iconst 0) (len := 1) (p' := 23) (s' := [.int 0, .ref 36]) rfl rfl rfl ?_
    refine ev_pi (p' := 26) rfl rfl rfl ly_36 rfl rfl rfl rfl ?_
    refine ev_x (i := .iconst 0) (len := 1) (p' := 27) (s' := [.int 0]) rfl rfl rfl ?_
    refine ev_x (i := .istore_n 2) (len := 1) (p' := 28) (s' := []) (l' := [(2, .int 0), (0, .ref 36), (1, .ref 5)]) rfl rfl rfl ?_
    exact (L_16_ok (d := d) (Or.inl rfl) N) _ _ _ _ rfl rfl rfl rfl H
  · refine ev_x (i := .aload_n 0) (len := 1) (p' := 1) (s' := [.ref 36]) rfl rfl rfl ?_
    refine ev_x (i := .aload_n 1) (len := 1) (p' := 2) (s' := [.ref 21, .ref 36]) rfl rfl rfl ?_
    refine ev_pr (p' := 5) rfl rfl rfl ly_36 rfl rfl rfl rfl rfl ?_
    refine ev_x (i := .aload_n 0) (len := 1) (p' := 6) (s' := [.ref 36]) rfl rfl rfl ?_
    refine ev_gr (p' := 9) (v := 21) rfl rfl rfl ly_36 rfl rfl rfl ?_
    refine ev_x (i := .iconst 0) (len := 1) (p' := 10) (s' := [.int 0, .ref 21]) rfl rfl rfl ?_
    refine ev_pi (p' := 13) rfl rfl rfl ly_21 rfl rfl rfl rfl ?_
    refine ev_x (i := .aload_n 0) (len := 1) (p' := 14) (s' := [.ref 36]) rfl rfl rfl ?_
    refine ev_gc (p' := 17) (v := 2) rfl rfl rfl ly_36 rfl rfl ?_
    refine ev_x (i := .iconst 0) (len := 1) (p' := 18) (s' := [.int 0, .ref 2]) rfl rfl rfl ?_
    refine ev_pi (p' := 21) rfl rfl rfl ly_2 rfl rfl rfl rfl ?_
    refine ev_x (i := .aload_n 0) (len := 1) (p' := 22) (s' := [.ref 36]) rfl rfl rfl ?_
    refine ev_x (i := .iconst 0) (len := 1) (p' := 23) (s' := [.int 0, .ref 36]) rfl rfl rfl ?_
    refine ev_pi (p' := 26) rfl rfl rfl ly_36 rfl rfl rfl rfl ?_
    refine ev_x (i := .iconst 0) (len := 1) (p' := 27) (s' := [.int 0]) rfl rfl rfl ?_
    refine ev_x (i := .istore_n 2) (len := 1) (p' := 28) (s' := []) (l' := [(2, .int 0), (0, .ref 36), (1, .ref 21)]) rfl rfl rfl ?_
    exact (L_16_ok (d := d) (Or.inr rfl) N) _ _ _ _ rfl rfl rfl rfl H
