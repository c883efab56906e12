/-! methods as functions of the store. Written by wip/prog/dec2.py, gen_all.py -/
/-- GameText$Parser.holding()I -/
def F_29 (N : Nat) (σ : st_S) : Option (Int32 × st_S) :=
  if (gI σ 36 6) ≤ 0 then
    some (0, σ)
  else
    if aB ((gI σ 36 6) - 1) (gN σ 37) then
    if (gE (σ) 37 (((gI σ 36 6) - 1) : Int32).toNatClampNeg) = 4 then
      some (6, σ)
    else
    if (gE (σ) 37 (((gI σ 36 6) - 1) : Int32).toNatClampNeg) = 5 then
      some (6, σ)
    else
    if (gE (σ) 37 (((gI σ 36 6) - 1) : Int32).toNatClampNeg) = 6 then
      some (7, σ)
    else
    if (gE (σ) 37 (((gI σ 36 6) - 1) : Int32).toNatClampNeg) = 7 then
      some (7, σ)
    else
    if (gE (σ) 37 (((gI σ 36 6) - 1) : Int32).toNatClampNeg) = 8 then
      some (7, σ)
    else
    if (gE (σ) 37 (((gI σ 36 6) - 1) : Int32).toNatClampNeg) = 9 then
      some (8, σ)
    else
    if (gE (σ) 37 (((gI σ 36 6) - 1) : Int32).toNatClampNeg) = 10 then
      some (5, σ)
    else
    if (gE (σ) 37 (((gI σ 36 6) - 1) : Int32).toNatClampNeg) = 11 then
      some (5, σ)
    else
    if (gE (σ) 37 (((gI σ 36 6) - 1) : Int32).toNatClampNeg) = 12 then
      some (5, σ)
    else
    if (gE (σ) 37 (((gI σ 36 6) - 1) : Int32).toNatClampNeg) = 13 then
      some (5, σ)
    else
    if (gE (σ) 37 (((gI σ 36 6) - 1) : Int32).toNatClampNeg) = 14 then
      some (5, σ)
    else
    if (gE (σ) 37 (((gI σ 36 6) - 1) : Int32).toNatClampNeg) = 15 then
      some (5, σ)
    else
    if (gE (σ) 37 (((gI σ 36 6) - 1) : Int32).toNatClampNeg) = 16 then
      some (4, σ)
    else
    if (gE (σ) 37 (((gI σ 36 6) - 1) : Int32).toNatClampNeg) = 17 then
      some (3, σ)
    else
    if (gE (σ) 37 (((gI σ 36 6) - 1) : Int32).toNatClampNeg) = 18 then
      some (2, σ)
    else
    if (gE (σ) 37 (((gI σ 36 6) - 1) : Int32).toNatClampNeg) = 19 then
      some (1, σ)
    else
      some (0, σ)
    else none
set_option maxRecDepth 100000 in
theorem F_29_R {N : Nat} {σ : st_S} {p : Int32 × st_S} (H : F_29 N σ = some p) : gR p.2 = gR σ := by
  unfold F_29 at H
  refine F_if H (fun _ H => ?_) (fun _ H => ?_)
  · obtain rfl := Option.some.inj H
    exact rfl
  · obtain ⟨_, H⟩ := F_gd H
    refine F_if H (fun _ H => ?_) (fun _ H => ?_)
    · obtain rfl := Option.some.inj H
      exact rfl
    · refine F_if H (fun _ H => ?_) (fun _ H => ?_)
      · obtain rfl := Option.some.inj H
        exact rfl
      · refine F_if H (fun _ H => ?_) (fun _ H => ?_)
        · obtain rfl := Option.some.inj H
          exact rfl
        · refine F_if H (fun _ H => ?_) (fun _ H => ?_)
          · obtain rfl := Option.some.inj H
            exact rfl
          · refine F_if H (fun _ H => ?_) (fun _ H => ?_)
            · obtain rfl := Option.some.inj H
              exact rfl
            · refine F_if H (fun _ H => ?_) (fun _ H => ?_)
              · obtain rfl := Option.some.inj H
                exact rfl
              · refine F_if H (fun _ H => ?_) (fun _ H => ?_)
                · obtain rfl := Option.some.inj H
                  exact rfl
                · refine F_if H (fun _ H => ?_) (fun _ H => ?_)
                  · obtain rfl := Option.some.inj H
                    exact rfl
                  · refine F_if H (fun _ H => ?_) (fun _ H => ?_)
                    · obtain rfl := Option.some.inj H
                      exact rfl
                    · refine F_if H (fun _ H => ?_) (fun _ H => ?_)
                      · obtain rfl := Option.some.inj H
                        exact rfl
                      · refine F_if H (fun _ H => ?_) (fun _ H => ?_)
                        · obtain rfl := Option.some.inj H
                          exact rfl
                        · refine F_if H (fun _ H => ?_) (fun _ H => ?_)
                          · obtain rfl := Option.some.inj H
                            exact rfl
                          · refine F_if H (fun _ H => ?_) (fun _ H => ?_)
                            · obtain rfl := Option.some.inj H
                              exact rfl
                            · refine F_if H (fun _ H => ?_) (fun _ H => ?_)
                              · obtain rfl := Option.some.inj H
                                exact rfl
                              · refine F_if H (fun _ H => ?_) (fun _ H => ?_)
                                · obtain rfl := Option.some.inj H
                                  exact rfl
                                · refine F_if H (fun _ H => ?_) (fun _ H => ?_)
                                  · obtain rfl := Option.some.inj H
                                    exact rfl
                                  · obtain rfl := Option.some.inj H
                                    exact rfl
set_option maxHeartbeats 4000000 in
set_option maxRecDepth 100000 in
theorem F_29_ok {N d : Nat} {σ : st_S} {p : Int32 × st_S}  (H : F_29 N σ = some p) : vz_ev P0 (d + 1) 29 0 (lv_args 0 [.ref 36]) [] (hp σ) (.inl (some (.int p.1)), hp p.2) := by
  unfold F_29 at H
  refine ev_x (i := .aload_n 0) (len := 1) (p' := 1) (s' := [.ref 36]) rfl rfl rfl ?_
  refine ev_gi (p' := 4) (v := (gI σ 36 6)) rfl rfl rfl ly_36 rfl rfl rfl ?_
  refine F_if H (fun c_1 H => ?_) (fun c_1 H => ?_)
  · refine ev_b0 (t := 21) (p' := 21) rfl rfl rfl (if_pos c_1) ?_
    refine ev_x (i := .iconst (-1)) (len := 1) (p' := 22) (s' := [.int (-1)]) rfl rfl rfl ?_
    refine ev_ts (off := 97) (t := 119) rfl rfl (by decide) rfl ?_
    refine ev_x (i := .iconst 0) (len := 1) (p' := 120) (s' := [.int 0]) rfl rfl rfl ?_
    obtain rfl := Option.some.inj H
    exact ev_iret rfl rfl rfl rfl
  · refine ev_b0 (t := 21) (p' := 7) rfl rfl rfl (if_neg c_1) ?_
    refine ev_x (i := .aload_n 0) (len := 1) (p' := 8) (s' := [.ref 36]) rfl rfl rfl ?_
    refine ev_gc (p' := 11) (v := 37) rfl rfl rfl ly_36 rfl rfl ?_
    refine ev_x (i := .aload_n 0) (len := 1) (p' := 12) (s' := [.ref 36, .ref 37]) rfl rfl rfl ?_
    refine ev_gi (p' := 15) (v := (gI σ 36 6)) rfl rfl rfl ly_36 rfl rfl rfl ?_
    refine ev_x (i := .iconst 1) (len := 1) (p' := 16) (s' := [.int 1, .int (gI σ 36 6), .ref 37]) rfl rfl rfl ?_
    refine ev_x (i := .isub) (len := 1) (p' := 17) (s' := [.int ((gI σ 36 6) - 1), .ref 37]) rfl rfl rfl ?_
    obtain ⟨b_2, H⟩ := F_gd H
    refine ev_ga (p' := 18) (v := (gE (σ) 37 (((gI σ 36 6) - 1) : Int32).toNatClampNeg)) rfl rfl ly_37 rfl (gd_in b_2) rfl ?_
    refine ev_x (i := .goto 4) (len := 3) (p' := 22) (s' := [.int (gE (σ) 37 (((gI σ 36 6) - 1) : Int32).toNatClampNeg)]) rfl rfl rfl ?_
    refine F_if H (fun c_3 H => ?_) (fun c_3 H => ?_)
    · refine ev_st (st' := [.int 4]) (congrArg (fun z => Value.int z :: []) c_3) ?_
      refine ev_ts (off := 88) (t := 110) rfl rfl (by decide) rfl ?_
      refine ev_x (i := .bipush 6) (len := 2) (p' := 112) (s' := [.int 6]) rfl rfl rfl ?_
      obtain rfl := Option.some.inj H
      exact ev_iret rfl rfl rfl rfl
    · refine F_if H (fun c_4 H => ?_) (fun c_4 H => ?_)
      · refine ev_st (st' := [.int 5]) (congrArg (fun z => Value.int z :: []) c_4) ?_
        refine ev_ts (off := 88) (t := 110) rfl rfl (by decide) rfl ?_
        refine ev_x (i := .bipush 6) (len := 2) (p' := 112) (s' := [.int 6]) rfl rfl rfl ?_
        obtain rfl := Option.some.inj H
        exact ev_iret rfl rfl rfl rfl
      · refine F_if H (fun c_5 H => ?_) (fun c_5 H => ?_)
        · refine ev_st (st' := [.int 6]) (congrArg (fun z => Value.int z :: []) c_5) ?_
          refine ev_ts (off := 91) (t := 113) rfl rfl (by decide) rfl ?_
          refine ev_x (i := .bipush 7) (len := 2) (p' := 115) (s' := [.int 7]) rfl rfl rfl ?_
          obtain rfl := Option.some.inj H
          exact ev_iret rfl rfl rfl rfl
        · refine F_if H (fun c_6 H => ?_) (fun c_6 H => ?_)
          · refine ev_st (st' := [.int 7]) (congrArg (fun z => Value.int z :: []) c_6) ?_
            refine ev_ts (off := 91) (t := 113) rfl rfl (by decide) rfl ?_
            refine ev_x (i := .bipush 7) (len := 2) (p' := 115) (s' := [.int 7]) rfl rfl rfl ?_
            obtain rfl := Option.some.inj H
            exact ev_iret rfl rfl rfl rfl
          · refine F_if H (fun c_7 H => ?_) (fun c_7 H => ?_)
            · refine ev_st (st' := [.int 8]) (congrArg (fun z => Value.int z :: []) c_7) ?_
              refine ev_ts (off := 91) (t := 113) rfl rfl (by decide) rfl ?_
              refine ev_x (i := .bipush 7) (len := 2) (p' := 115) (s' := [.int 7]) rfl rfl rfl ?_
              obtain rfl := Option.some.inj H
              exact ev_iret rfl rfl rfl rfl
            · refine F_if H (fun c_8 H => ?_) (fun c_8 H => ?_)
              · refine ev_st (st' := [.int 9]) (congrArg (fun z => Value.int z :: []) c_8) ?_
                refine ev_ts (off := 94) (t := 116) rfl rfl (by decide) rfl ?_
                refine ev_x (i := .bipush 8) (len := 2) (p' := 118) (s' := [.int 8]) rfl rfl rfl ?_
                obtain rfl := Option.some.inj H
                exact ev_iret rfl rfl rfl rfl
              · refine F_if H (fun c_9 H => ?_) (fun c_9 H => ?_)
                · refine ev_st (st' := [.int 10]) (congrArg (fun z => Value.int z :: []) c_9) ?_
                  refine ev_ts (off := 86) (t := 108) rfl rfl (by decide) rfl ?_
                  refine ev_x (i := .iconst 5) (len := 1) (p' := 109) (s' := [.int 5]) rfl rfl rfl ?_
                  obtain rfl := Option.some.inj H
                  exact ev_iret rfl rfl rfl rfl
                · refine F_if H (fun c_10 H => ?_) (fun c_10 H => ?_)
                  · refine ev_st (st' := [.int 11]) (congrArg (fun z => Value.int z :: []) c_10) ?_
                    refine ev_ts (off := 86) (t := 108) rfl rfl (by decide) rfl ?_
                    refine ev_x (i := .iconst 5) (len := 1) (p' := 109) (s' := [.int 5]) rfl rfl rfl ?_
                    obtain rfl := Option.some.inj H
                    exact ev_iret rfl rfl rfl rfl
                  · refine F_if H (fun c_11 H => ?_) (fun c_11 H => ?_)
                    · refine ev_st (st' := [.int 12]) (congrArg (fun z => Value.int z :: []) c_11) ?_
                      refine ev_ts (off := 86) (t := 108) rfl rfl (by decide) rfl ?_
                      refine ev_x (i := .iconst 5) (len := 1) (p' := 109) (s' := [.int 5]) rfl rfl rfl ?_
                      obtain rfl := Option.some.inj H
                      exact ev_iret rfl rfl rfl rfl
                    · refine F_if H (fun c_12 H => ?_) (fun c_12 H => ?_)
                      · refine ev_st (st' := [.int 13]) (congrArg (fun z => Value.int z :: []) c_12) ?_
                        refine ev_ts (off := 86) (t := 108) rfl rfl (by decide) rfl ?_
                        refine ev_x (i := .iconst 5) (len := 1) (p' := 109) (s' := [.int 5]) rfl rfl rfl ?_
                        obtain rfl := Option.some.inj H
                        exact ev_iret rfl rfl rfl rfl
                      · refine F_if H (fun c_13 H => ?_) (fun c_13 H => ?_)
                        · refine ev_st (st' := [.int 14]) (congrArg (fun z => Value.int z :: []) c_13) ?_
                          refine ev_ts (off := 86) (t := 108) rfl rfl (by decide) rfl ?_
                          refine ev_x (i := .iconst 5) (len := 1) (p' := 109) (s' := [.int 5]) rfl rfl rfl ?_
                          obtain rfl := Option.some.inj H
                          exact ev_iret rfl rfl rfl rfl
                        · refine F_if H (fun c_14 H => ?_) (fun c_14 H => ?_)
                          · refine ev_st (st' := [.int 15]) (congrArg (fun z => Value.int z :: []) c_14) ?_
                            refine ev_ts (off := 86) (t := 108) rfl rfl (by decide) rfl ?_
                            refine ev_x (i := .iconst 5) (len := 1) (p' := 109) (s' := [.int 5]) rfl rfl rfl ?_
                            obtain rfl := Option.some.inj H
                            exact ev_iret rfl rfl rfl rfl
                          · refine F_if H (fun c_15 H => ?_) (fun c_15 H => ?_)
                            · refine ev_st (st' := [.int 16]) (congrArg (fun z => Value.int z :: []) c_15) ?_
                              refine ev_ts (off := 84) (t := 106) rfl rfl (by decide) rfl ?_
                              refine ev_x (i := .iconst 4) (len := 1) (p' := 107) (s' := [.int 4]) rfl rfl rfl ?_
                              obtain rfl := Option.some.inj H
                              exact ev_iret rfl rfl rfl rfl
                            · refine F_if H (fun c_16 H => ?_) (fun c_16 H => ?_)
                              · refine ev_st (st' := [.int 17]) (congrArg (fun z => Value.int z :: []) c_16) ?_
                                refine ev_ts (off := 82) (t := 104) rfl rfl (by decide) rfl ?_
                                refine ev_x (i := .iconst 3) (len := 1) (p' := 105) (s' := [.int 3]) rfl rfl rfl ?_
                                obtain rfl := Option.some.inj H
                                exact ev_iret rfl rfl rfl rfl
                              · refine F_if H (fun c_17 H => ?_) (fun c_17 H => ?_)
                                · refine ev_st (st' := [.int 18]) (congrArg (fun z => Value.int z :: []) c_17) ?_
                                  refine ev_ts (off := 80) (t := 102) rfl rfl (by decide) rfl ?_
                                  refine ev_x (i := .iconst 2) (len := 1) (p' := 103) (s' := [.int 2]) rfl rfl rfl ?_
                                  obtain rfl := Option.some.inj H
                                  exact ev_iret rfl rfl rfl rfl
                                · refine F_if H (fun c_18 H => ?_) (fun c_18 H => ?_)
                                  · refine ev_st (st' := [.int 19]) (congrArg (fun z => Value.int z :: []) c_18) ?_
                                    refine ev_ts (off := 78) (t := 100) rfl rfl (by decide) rfl ?_
                                    refine ev_x (i := .iconst 1) (len := 1) (p' := 101) (s' := [.int 1]) rfl rfl rfl ?_
                                    obtain rfl := Option.some.inj H
                                    exact ev_iret rfl rfl rfl rfl
                                  · have n_4 : (4 : Int) ≠ ((gE (σ) 37 (((gI σ 36 6) - 1) : Int32).toNatClampNeg) : Int32).toInt := i32_ne (k := 4) (by decide) c_3
                                    have n_5 : (5 : Int) ≠ ((gE (σ) 37 (((gI σ 36 6) - 1) : Int32).toNatClampNeg) : Int32).toInt := i32_ne (k := 5) (by decide) c_4
                                    have n_6 : (6 : Int) ≠ ((gE (σ) 37 (((gI σ 36 6) - 1) : Int32).toNatClampNeg) : Int32).toInt := i32_ne (k := 6) (by decide) c_5
                                    have n_7 : (7 : Int) ≠ ((gE (σ) 37 (((gI σ 36 6) - 1) : Int32).toNatClampNeg) : Int32).toInt := i32_ne (k := 7) (by decide) c_6
                                    have n_8 : (8 : Int) ≠ ((gE (σ) 37 (((gI σ 36 6) - 1) : Int32).toNatClampNeg) : Int32).toInt := i32_ne (k := 8) (by decide) c_7
                                    have n_9 : (9 : Int) ≠ ((gE (σ) 37 (((gI σ 36 6) - 1) : Int32).toNatClampNeg) : Int32).toInt := i32_ne (k := 9) (by decide) c_8
                                    have n_10 : (10 : Int) ≠ ((gE (σ) 37 (((gI σ 36 6) - 1) : Int32).toNatClampNeg) : Int32).toInt := i32_ne (k := 10) (by decide) c_9
                                    have n_11 : (11 : Int) ≠ ((gE (σ) 37 (((gI σ 36 6) - 1) : Int32).toNatClampNeg) : Int32).toInt := i32_ne (k := 11) (by decide) c_10
                                    have n_12 : (12 : Int) ≠ ((gE (σ) 37 (((gI σ 36 6) - 1) : Int32).toNatClampNeg) : Int32).toInt := i32_ne (k := 12) (by decide) c_11
                                    have n_13 : (13 : Int) ≠ ((gE (σ) 37 (((gI σ 36 6) - 1) : Int32).toNatClampNeg) : Int32).toInt := i32_ne (k := 13) (by decide) c_12
                                    have n_14 : (14 : Int) ≠ ((gE (σ) 37 (((gI σ 36 6) - 1) : Int32).toNatClampNeg) : Int32).toInt := i32_ne (k := 14) (by decide) c_13
                                    have n_15 : (15 : Int) ≠ ((gE (σ) 37 (((gI σ 36 6) - 1) : Int32).toNatClampNeg) : Int32).toInt := i32_ne (k := 15) (by decide) c_14
                                    have n_16 : (16 : Int) ≠ ((gE (σ) 37 (((gI σ 36 6) - 1) : Int32).toNatClampNeg) : Int32).toInt := i32_ne (k := 16) (by decide) c_15
                                    have n_17 : (17 : Int) ≠ ((gE (σ) 37 (((gI σ 36 6) - 1) : Int32).toNatClampNeg) : Int32).toInt := i32_ne (k := 17) (by decide) c_16
                                    have n_18 : (18 : Int) ≠ ((gE (σ) 37 (((gI σ 36 6) - 1) : Int32).toNatClampNeg) : Int32).toInt := i32_ne (k := 18) (by decide) c_17
                                    have n_19 : (19 : Int) ≠ ((gE (σ) 37 (((gI σ 36 6) - 1) : Int32).toNatClampNeg) : Int32).toInt := i32_ne (k := 19) (by decide) c_18
                                    refine ev_ts (off := 97) (t := 119) rfl rfl ?hsw rfl ?_
                                    case hsw =>
                                      by_cases hq : ((gE (σ) 37 (((gI σ 36 6) - 1) : Int32).toNatClampNeg) : Int32).toInt < 4 ∨ 19 < ((gE (σ) 37 (((gI σ 36 6) - 1) : Int32).toNatClampNeg) : Int32).toInt
                                      · exact if_pos hq
                                      · rw [if_neg hq]
                                        exact absurd hq (by omega)
                                    refine ev_x (i := .iconst 0) (len := 1) (p' := 120) (s' := [.int 0]) rfl rfl rfl ?_
                                    obtain rfl := Option.some.inj H
                                    exact ev_iret rfl rfl rfl rfl
/-- GameText$Code.emit(IIIII)I, from 125 -/
def J_30_125 (N : Nat) (t : Nat) (l_1 : Int32) (l_2 : Int32) (l_3 : Int32) (l_4 : Int32) (l_5 : Int32) (σ : st_S) : Option (Int32 × st_S) :=
  if aB (gI σ (t + 1) 8) (gN σ (t + 2)) then
  if aB (gI σ (t + 1) 8) (gN σ (t + 3)) then
  if aB (gI σ (t + 1) 8) (gN σ (t + 4)) then
  if aB (gI σ (t + 1) 8) (gN σ (t + 5)) then
  if aB (gI σ (t + 1) 8) (gN σ (t + 6)) then
  if aB (gI σ (t + 1) 8) (gN σ (t + 7)) then
  if aB (gI σ (t + 1) 8) (gN σ (t + 8)) then
  if aB (gI σ (t + 1) 8) (gN σ (t + 9)) then
  some ((gI σ (t + 1) 8), st_i (st_e (st_e (st_e (st_e (st_e (st_e (st_e (st_e (σ) (t + 2) (((gI σ (t + 1) 8) : Int32).toNatClampNeg) l_1) (t + 3) (((gI σ (t + 1) 8) : Int32).toNatClampNeg) l_2) (t + 4) (((gI σ (t + 1) 8) : Int32).toNatClampNeg) l_3) (t + 5) (((gI σ (t + 1) 8) : Int32).toNatClampNeg) l_4) (t + 6) (((gI σ (t + 1) 8) : Int32).toNatClampNeg) l_5) (t + 7) (((gI σ (t + 1) 8) : Int32).toNatClampNeg) 0) (t + 8) (((gI σ (t + 1) 8) : Int32).toNatClampNeg) 0) (t + 9) (((gI σ (t + 1) 8) : Int32).toNatClampNeg) 1) (t + 1) 8 ((gI σ (t + 1) 8) + 1))
  else none
  else none
  else none
  else none
  else none
  else none
  else none
  else none
set_option maxRecDepth 100000 in
theorem J_30_125_R {N : Nat} {t : Nat} {l_1 : Int32} {l_2 : Int32} {l_3 : Int32} {l_4 : Int32} {l_5 : Int32} {σ : st_S} {p : Int32 × st_S} (H : J_30_125 N t l_1 l_2 l_3 l_4 l_5 σ = some p) : gR p.2 = gR σ := by
  unfold J_30_125 at H
  obtain ⟨_, H⟩ := F_gd H
  obtain ⟨_, H⟩ := F_gd H
  obtain ⟨_, H⟩ := F_gd H
  obtain ⟨_, H⟩ := F_gd H
  obtain ⟨_, H⟩ := F_gd H
  obtain ⟨_, H⟩ := F_gd H
  obtain ⟨_, H⟩ := F_gd H
  obtain ⟨_, H⟩ := F_gd H
  obtain rfl := Option.some.inj H
  exact rfl
set_option maxHeartbeats 4000000 in
set_option maxRecDepth 100000 in
theorem J_30_125_ok {N d : Nat} {t : Nat} (ht : t = 4 ∨ t = 20) {l_1 : Int32} {l_2 : Int32} {l_3 : Int32} {l_4 : Int32} {l_5 : Int32} {σ : st_S} {lv : vz_L} {p : Int32 × st_S} (g_0 : vz_g lv 0 = some (.ref (t + 1))) (g_1 : vz_g lv 1 = some (.int l_1)) (g_2 : vz_g lv 2 = some (.int l_2)) (g_3 : vz_g lv 3 = some (.int l_3)) (g_4 : vz_g lv 4 = some (.int l_4)) (g_5 : vz_g lv 5 = some (.int l_5)) (hnb : vz_nbL (vz_gr P0) lv = true)  (H : J_30_125 N t l_1 l_2 l_3 l_4 l_5 σ = some p) : vz_ev P0 (d + 5) 30 125 lv [] (hp σ) (.inl (some (.int p.1)), hp p.2) := by
  unfold J_30_125 at H
  rcases ht with rfl | rfl
  · refine ev_x (i := .aload_n 0) (len := 1) (p' := 126) (s' := [.ref 5]) rfl rfl (ld_a g_0) ?_
    refine ev_gi (p' := 129) (v := (gI σ 5 8)) rfl rfl rfl ly_5 rfl rfl rfl ?_
    refine ev_x (i := .istore 6) (len := 2) (p' := 131) (s' := []) (l' := vz_s1 (lv) 6 (.int (gI σ 5 8))) rfl rfl rfl ?_
    refine ev_x (i := .aload_n 0) (len := 1) (p' := 132) (s' := [.ref 5]) rfl rfl (ld_a (vg_o (i := 6) (v := .int (gI σ 5 8)) g_0 (by decide) (Or.inl rfl))) ?_
    refine ev_gc (p' := 135) (v := 6) rfl rfl rfl ly_5 rfl rfl ?_
    refine ev_x (i := .iload 6) (len := 2) (p' := 137) (s' := [.int (gI σ 5 8), .ref 6]) rfl rfl (ld_i (vg_s (lv) 6 (.int (gI σ 5 8)))) ?_
    refine ev_x (i := .iload_n 1) (len := 1) (p' := 138) (s' := [.int l_1, .int (gI σ 5 8), .ref 6]) rfl rfl (ld_i (vg_o (i := 6) (v := .int (gI σ 5 8)) g_1 (by decide) (Or.inl rfl))) ?_
    obtain ⟨b_10, H⟩ := F_gd H
    refine ev_pa (j := ((gI σ 5 8) : Int32).toNatClampNeg) (p' := 139) rfl rfl ly_6 rfl (gd_in b_10) rfl ?_
    refine ev_x (i := .aload_n 0) (len := 1) (p' := 140) (s' := [.ref 5]) rfl rfl (ld_a (vg_o (i := 6) (v := .int (gI σ 5 8)) g_0 (by decide) (Or.inl rfl))) ?_
    refine ev_gc (p' := 143) (v := 7) rfl rfl rfl ly_5 rfl rfl ?_
    refine ev_x (i := .iload 6) (len := 2) (p' := 145) (s' := [.int (gI σ 5 8), .ref 7]) rfl rfl (ld_i (vg_s (lv) 6 (.int (gI σ 5 8)))) ?_
    refine ev_x (i := .iload_n 2) (len := 1) (p' := 146) (s' := [.int l_2, .int (gI σ 5 8), .ref 7]) rfl rfl (ld_i (vg_o (i := 6) (v := .int (gI σ 5 8)) g_2 (by decide) (Or.inl rfl))) ?_
    obtain ⟨b_11, H⟩ := F_gd H
    refine ev_pa (j := ((gI σ 5 8) : Int32).toNatClampNeg) (p' := 147) rfl rfl ly_7 rfl (gd_in b_11) rfl ?_
    refine ev_x (i := .aload_n 0) (len := 1) (p' := 148) (s' := [.ref 5]) rfl rfl (ld_a (vg_o (i := 6) (v := .int (gI σ 5 8)) g_0 (by decide) (Or.inl rfl))) ?_
    refine ev_gc (p' := 151) (v := 8) rfl rfl rfl ly_5 rfl rfl ?_
    refine ev_x (i := .iload 6) (len := 2) (p' := 153) (s' := [.int (gI σ 5 8), .ref 8]) rfl rfl (ld_i (vg_s (lv) 6 (.int (gI σ 5 8)))) ?_
    refine ev_x (i := .iload_n 3) (len := 1) (p' := 154) (s' := [.int l_3, .int (gI σ 5 8), .ref 8]) rfl rfl (ld_i (vg_o (i := 6) (v := .int (gI σ 5 8)) g_3 (by decide) (Or.inl rfl))) ?_
    obtain ⟨b_12, H⟩ := F_gd H
    refine ev_pa (j := ((gI σ 5 8) : Int32).toNatClampNeg) (p' := 155) rfl rfl ly_8 rfl (gd_in b_12) rfl ?_
    refine ev_x (i := .aload_n 0) (len := 1) (p' := 156) (s' := [.ref 5]) rfl rfl (ld_a (vg_o (i := 6) (v := .int (gI σ 5 8)) g_0 (by decide) (Or.inl rfl))) ?_
    refine ev_gc (p' := 159) (v := 9) rfl rfl rfl ly_5 rfl rfl ?_
    refine ev_x (i := .iload 6) (len := 2) (p' := 161) (s' := [.int (gI σ 5 8), .ref 9]) rfl rfl (ld_i (vg_s (lv) 6 (.int (gI σ 5 8)))) ?_
    refine ev_x (i := .iload 4) (len := 2) (p' := 163) (s' := [.int l_4, .int (gI σ 5 8), .ref 9]) rfl rfl (ld_i (vg_o (i := 6) (v := .int (gI σ 5 8)) g_4 (by decide) (Or.inl rfl))) ?_
    obtain ⟨b_13, H⟩ := F_gd H
    refine ev_pa (j := ((gI σ 5 8) : Int32).toNatClampNeg) (p' := 164) rfl rfl ly_9 rfl (gd_in b_13) rfl ?_
    refine ev_x (i := .aload_n 0) (len := 1) (p' := 165) (s' := [.ref 5]) rfl rfl (ld_a (vg_o (i := 6) (v := .int (gI σ 5 8)) g_0 (by decide) (Or.inl rfl))) ?_
    refine ev_gc (p' := 168) (v := 10) rfl rfl rfl ly_5 rfl rfl ?_
    refine ev_x (i := .iload 6) (len := 2) (p' := 170) (s' := [.int (gI σ 5 8), .ref 10]) rfl rfl (ld_i (vg_s (lv) 6 (.int (gI σ 5 8)))) ?_
    refine ev_x (i := .iload 5) (len := 2) (p' := 172) (s' := [.int l_5, .int (gI σ 5 8), .ref 10]) rfl rfl (ld_i (vg_o (i := 6) (v := .int (gI σ 5 8)) g_5 (by decide) (Or.inl rfl))) ?_
    obtain ⟨b_14, H⟩ := F_gd H
    refine ev_pa (j := ((gI σ 5 8) : Int32).toNatClampNeg) (p' := 173) rfl rfl ly_10 rfl (gd_in b_14) rfl ?_
    refine ev_x (i := .aload_n 0) (len := 1) (p' := 174) (s' := [.ref 5]) rfl rfl (ld_a (vg_o (i := 6) (v := .int (gI σ 5 8)) g_0 (by decide) (Or.inl rfl))) ?_
    refine ev_gc (p' := 177) (v := 11) rfl rfl rfl ly_5 rfl rfl ?_
    refine ev_x (i := .iload 6) (len := 2) (p' := 179) (s' := [.int (gI σ 5 8), .ref 11]) rfl rfl (ld_i (vg_s (lv) 6 (.int (gI σ 5 8)))) ?_
    refine ev_x (i := .iconst 0) (len := 1) (p' := 180) (s' := [.int 0, .int (gI σ 5 8), .ref 11]) rfl rfl rfl ?_
    obtain ⟨b_15, H⟩ := F_gd H
    refine ev_pa (j := ((gI σ 5 8) : Int32).toNatClampNeg) (p' := 181) rfl rfl ly_11 rfl (gd_in b_15) rfl ?_
    refine ev_x (i := .aload_n 0) (len := 1) (p' := 182) (s' := [.ref 5]) rfl rfl (ld_a (vg_o (i := 6) (v := .int (gI σ 5 8)) g_0 (by decide) (Or.inl rfl))) ?_
    refine ev_gc (p' := 185) (v := 12) rfl rfl rfl ly_5 rfl rfl ?_
    refine ev_x (i := .iload 6) (len := 2) (p' := 187) (s' := [.int (gI σ 5 8), .ref 12]) rfl rfl (ld_i (vg_s (lv) 6 (.int (gI σ 5 8)))) ?_
    refine ev_x (i := .iconst 0) (len := 1) (p' := 188) (s' := [.int 0, .int (gI σ 5 8), .ref 12]) rfl rfl rfl ?_
    obtain ⟨b_16, H⟩ := F_gd H
    refine ev_pa (j := ((gI σ 5 8) : Int32).toNatClampNeg) (p' := 189) rfl rfl ly_12 rfl (gd_in b_16) rfl ?_
    refine ev_x (i := .aload_n 0) (len := 1) (p' := 190) (s' := [.ref 5]) rfl rfl (ld_a (vg_o (i := 6) (v := .int (gI σ 5 8)) g_0 (by decide) (Or.inl rfl))) ?_
    refine ev_gc (p' := 193) (v := 13) rfl rfl rfl ly_5 rfl rfl ?_
    refine ev_x (i := .iload 6) (len := 2) (p' := 195) (s' := [.int (gI σ 5 8), .ref 13]) rfl rfl (ld_i (vg_s (lv) 6 (.int (gI σ 5 8)))) ?_
    refine ev_x (i := .iconst 1) (len := 1) (p' := 196) (s' := [.int 1, .int (gI σ 5 8), .ref 13]) rfl rfl rfl ?_
    obtain ⟨b_17, H⟩ := F_gd H
    refine ev_pa (j := ((gI σ 5 8) : Int32).toNatClampNeg) (p' := 197) rfl rfl ly_13 rfl (gd_in b_17) rfl ?_
    refine ev_x (i := .aload_n 0) (len := 1) (p' := 198) (s' := [.ref 5]) rfl rfl (ld_a (vg_o (i := 6) (v := .int (gI σ 5 8)) g_0 (by decide) (Or.inl rfl))) ?_
    refine ev_x (i := .dup) (len := 1) (p' := 199) (s' := [.ref 5, .ref 5]) rfl rfl rfl ?_
    refine ev_gi (p' := 202) (v := (gI σ 5 8)) rfl rfl rfl ly_5 rfl rfl rfl ?_
    refine ev_x (i := .iconst 1) (len := 1) (p' := 203) (s' := [.int 1, .int (gI σ 5 8), .ref 5]) rfl rfl rfl ?_
    refine ev_x (i := .iadd) (len := 1) (p' := 204) (s' := [.int ((gI σ 5 8) + 1), .ref 5]) rfl rfl rfl ?_
    refine ev_pi (p' := 207) rfl rfl rfl ly_5 rfl rfl rfl rfl ?_
    refine ev_x (i := .iload 6) (len := 2) (p' := 209) (s' := [.int (gI σ 5 8)]) rfl rfl (ld_i (vg_s (lv) 6 (.int (gI σ 5 8)))) ?_
    obtain rfl := Option.some.inj H
    exact ev_iret rfl rfl rfl rfl
  · refine ev_x (i := .aload_n 0) (len := 1) (p' := 126) (s' := [.ref 21]) rfl rfl (ld_a g_0) ?_
    refine ev_gi (p' := 129) (v := (gI σ 21 8)) rfl rfl rfl ly_21 rfl rfl rfl ?_
    refine ev_x (i := .istore 6) (len := 2) (p' := 131) (s' := []) (l' := vz_s1 (lv) 6 (.int (gI σ 21 8))) rfl rfl rfl ?_
    refine ev_x (i := .aload_n 0) (len := 1) (p' := 132) (s' := [.ref 21]) rfl rfl (ld_a (vg_o (i := 6) (v := .int (gI σ 21 8)) g_0 (by decide) (Or.inl rfl))) ?_
    refine ev_gc (p' := 135) (v := 22) rfl rfl rfl ly_21 rfl rfl ?_
    refine ev_x (i := .iload 6) (len := 2) (p' := 137) (s' := [.int (gI σ 21 8), .ref 22]) rfl rfl (ld_i (vg_s (lv) 6 (.int (gI σ 21 8)))) ?_
    refine ev_x (i := .iload_n 1) (len := 1) (p' := 138) (s' := [.int l_1, .int (gI σ 21 8), .ref 22]) rfl rfl (ld_i (vg_o (i := 6) (v := .int (gI σ 21 8)) g_1 (by decide) (Or.inl rfl))) ?_
    obtain ⟨b_10, H⟩ := F_gd H
    refine ev_pa (j := ((gI σ 21 8) : Int32).toNatClampNeg) (p' := 139) rfl rfl ly_22 rfl (gd_in b_10) rfl ?_
    refine ev_x (i := .aload_n 0) (len := 1) (p' := 140) (s' := [.ref 21]) rfl rfl (ld_a (vg_o (i := 6) (v := .int (gI σ 21 8)) g_0 (by decide) (Or.inl rfl))) ?_
    refine ev_gc (p' := 143) (v := 23) rfl rfl rfl ly_21 rfl rfl ?_
    refine ev_x (i := .iload 6) (len := 2) (p' := 145) (s' := [.int (gI σ 21 8), .ref 23]) rfl rfl (ld_i (vg_s (lv) 6 (.int (gI σ 21 8)))) ?_
    refine ev_x (i := .iload_n 2) (len := 1) (p' := 146) (s' := [.int l_2, .int (gI σ 21 8), .ref 23]) rfl rfl (ld_i (vg_o (i := 6) (v := .int (gI σ 21 8)) g_2 (by decide) (Or.inl rfl))) ?_
    obtain ⟨b_11, H⟩ := F_gd H
    refine ev_pa (j := ((gI σ 21 8) : Int32).toNatClampNeg) (p' := 147) rfl rfl ly_23 rfl (gd_in b_11) rfl ?_
    refine ev_x (i := .aload_n 0) (len := 1) (p' := 148) (s' := [.ref 21]) rfl rfl (ld_a (vg_o (i := 6) (v := .int (gI σ 21 8)) g_0 (by decide) (Or.inl rfl))) ?_
    refine ev_gc (p' := 151) (v := 24) rfl rfl rfl ly_21 rfl rfl ?_
    refine ev_x (i := .iload 6) (len := 2) (p' := 153) (s' := [.int (gI σ 21 8), .ref 24]) rfl rfl (ld_i (vg_s (lv) 6 (.int (gI σ 21 8)))) ?_
    refine ev_x (i := .iload_n 3) (len := 1) (p' := 154) (s' := [.int l_3, .int (gI σ 21 8), .ref 24]) rfl rfl (ld_i (vg_o (i := 6) (v := .int (gI σ 21 8)) g_3 (by decide) (Or.inl rfl))) ?_
    obtain ⟨b_12, H⟩ := F_gd H
    refine ev_pa (j := ((gI σ 21 8) : Int32).toNatClampNeg) (p' := 155) rfl rfl ly_24 rfl (gd_in b_12) rfl ?_
    refine ev_x (i := .aload_n 0) (len := 1) (p' := 156) (s' := [.ref 21]) rfl rfl (ld_a (vg_o (i := 6) (v := .int (gI σ 21 8)) g_0 (by decide) (Or.inl rfl))) ?_
    refine ev_gc (p' := 159) (v := 25) rfl rfl rfl ly_21 rfl rfl ?_
    refine ev_x (i := .iload 6) (len := 2) (p' := 161) (s' := [.int (gI σ 21 8), .ref 25]) rfl rfl (ld_i (vg_s (lv) 6 (.int (gI σ 21 8)))) ?_
    refine ev_x (i := .iload 4) (len := 2) (p' := 163) (s' := [.int l_4, .int (gI σ 21 8), .ref 25]) rfl rfl (ld_i (vg_o (i := 6) (v := .int (gI σ 21 8)) g_4 (by decide) (Or.inl rfl))) ?_
    obtain ⟨b_13, H⟩ := F_gd H
    refine ev_pa (j := ((gI σ 21 8) : Int32).toNatClampNeg) (p' := 164) rfl rfl ly_25 rfl (gd_in b_13) rfl ?_
    refine ev_x (i := .aload_n 0) (len := 1) (p' := 165) (s' := [.ref 21]) rfl rfl (ld_a (vg_o (i := 6) (v := .int (gI σ 21 8)) g_0 (by decide) (Or.inl rfl))) ?_
    refine ev_gc (p' := 168) (v := 26) rfl rfl rfl ly_21 rfl rfl ?_
    refine ev_x (i := .iload 6) (len := 2) (p' := 170) (s' := [.int (gI σ 21 8), .ref 26]) rfl rfl (ld_i (vg_s (lv) 6 (.int (gI σ 21 8)))) ?_
    refine ev_x (i := .iload 5) (len := 2) (p' := 172) (s' := [.int l_5, .int (gI σ 21 8), .ref 26]) rfl rfl (ld_i (vg_o (i := 6) (v := .int (gI σ 21 8)) g_5 (by decide) (Or.inl rfl))) ?_
    obtain ⟨b_14, H⟩ := F_gd H
    refine ev_pa (j := ((gI σ 21 8) : Int32).toNatClampNeg) (p' := 173) rfl rfl ly_26 rfl (gd_in b_14) rfl ?_
    refine ev_x (i := .aload_n 0) (len := 1) (p' := 174) (s' := [.ref 21]) rfl rfl (ld_a (vg_o (i := 6) (v := .int (gI σ 21 8)) g_0 (by decide) (Or.inl rfl))) ?_
    refine ev_gc (p' := 177) (v := 27) rfl rfl rfl ly_21 rfl rfl ?_
    refine ev_x (i := .iload 6) (len := 2) (p' := 179) (s' := [.int (gI σ 21 8), .ref 27]) rfl rfl (ld_i (vg_s (lv) 6 (.int (gI σ 21 8)))) ?_
    refine ev_x (i := .iconst 0) (len := 1) (p' := 180) (s' := [.int 0, .int (gI σ 21 8), .ref 27]) rfl rfl rfl ?_
    obtain ⟨b_15, H⟩ := F_gd H
    refine ev_pa (j := ((gI σ 21 8) : Int32).toNatClampNeg) (p' := 181) rfl rfl ly_27 rfl (gd_in b_15) rfl ?_
    refine ev_x (i := .aload_n 0) (len := 1) (p' := 182) (s' := [.ref 21]) rfl rfl (ld_a (vg_o (i := 6) (v := .int (gI σ 21 8)) g_0 (by decide) (Or.inl rfl))) ?_
    refine ev_gc (p' := 185) (v := 28) rfl rfl rfl ly_21 rfl rfl ?_
    refine ev_x (i := .iload 6) (len := 2) (p' := 187) (s' := [.int (gI σ 21 8), .ref 28]) rfl rfl (ld_i (vg_s (lv) 6 (.int (gI σ 21 8)))) ?_
    refine ev_x (i := .iconst 0) (len := 1) (p' := 188) (s' := [.int 0, .int (gI σ 21 8), .ref 28]) rfl rfl rfl ?_
    obtain ⟨b_16, H⟩ := F_gd H
    refine ev_pa (j := ((gI σ 21 8) : Int32).toNatClampNeg) (p' := 189) rfl rfl ly_28 rfl (gd_in b_16) rfl ?_
    refine ev_x (i := .aload_n 0) (len := 1) (p' := 190) (s' := [.ref 21]) rfl rfl (ld_a (vg_o (i := 6) (v := .int (gI σ 21 8)) g_0 (by decide) (Or.inl rfl))) ?_
    refine ev_gc (p' := 193) (v := 29) rfl rfl rfl ly_21 rfl rfl ?_
    refine ev_x (i := .iload 6) (len := 2) (p' := 195) (s' := [.int (gI σ 21 8), .ref 29]) rfl rfl (ld_i (vg_s (lv) 6 (.int (gI σ 21 8)))) ?_
    refine ev_x (i := .iconst 1) (len := 1) (p' := 196) (s' := [.int 1, .int (gI σ 21 8), .ref 29]) rfl rfl rfl ?_
    obtain ⟨b_17, H⟩ := F_gd H
    refine ev_pa (j := ((gI σ 21 8) : Int32).toNatClampNeg) (p' := 197) rfl rfl ly_29 rfl (gd_in b_17) rfl ?_
    refine ev_x (i := .aload_n 0) (len := 1) (p' := 198) (s' := [.ref 21]) rfl rfl (ld_a (vg_o (i := 6) (v := .int (gI σ 21 8)) g_0 (by decide) (Or.inl rfl))) ?_
    refine ev_x (i := .dup) (len := 1) (p' := 199) (s' := [.ref 21, .ref 21]) rfl rfl rfl ?_
    refine ev_gi (p' := 202) (v := (gI σ 21 8)) rfl rfl rfl ly_21 rfl rfl rfl ?_
    refine ev_x (i := .iconst 1) (len := 1) (p' := 203) (s' := [.int 1, .int (gI σ 21 8), .ref 21]) rfl rfl rfl ?_
    refine ev_x (i := .iadd) (len := 1) (p' := 204) (s' := [.int ((gI σ 21 8) + 1), .ref 21]) rfl rfl rfl ?_
    refine ev_pi (p' := 207) rfl rfl rfl ly_21 rfl rfl rfl rfl ?_
    refine ev_x (i := .iload 6) (len := 2) (p' := 209) (s' := [.int (gI σ 21 8)]) rfl rfl (ld_i (vg_s (lv) 6 (.int (gI σ 21 8)))) ?_
    obtain rfl := Option.some.inj H
    exact ev_iret rfl rfl rfl rfl
/-- GameText$Code.emit(IIIII)I -/
def F_30 (N : Nat) (t : Nat) (x_1 : Int32) (x_2 : Int32) (x_3 : Int32) (x_4 : Int32) (x_5 : Int32) (σ : st_S) : Option (Int32 × st_S) :=
  if (gI σ (t + 1) 8) < (nI (gN σ (t + 2))) then
    J_30_125 N t x_1 x_2 x_3 x_4 x_5 (σ)
  else
    if gwB (σ) (t + 2) (2 * (nI (gN σ (t + 2)))) then
    if gwB (st_gw (σ) (t + 2) (gN σ (t + 2)) ((2 * (nI (gN σ (t + 2)))) : Int32).toNatClampNeg) (t + 3) (2 * (nI (gN σ (t + 2)))) then
    if gwB (st_gw (st_gw (σ) (t + 2) (gN σ (t + 2)) ((2 * (nI (gN σ (t + 2)))) : Int32).toNatClampNeg) (t + 3) (gN σ (t + 3)) ((2 * (nI (gN σ (t + 2)))) : Int32).toNatClampNeg) (t + 4) (2 * (nI (gN σ (t + 2)))) then
    if gwB (st_gw (st_gw (st_gw (σ) (t + 2) (gN σ (t + 2)) ((2 * (nI (gN σ (t + 2)))) : Int32).toNatClampNeg) (t + 3) (gN σ (t + 3)) ((2 * (nI (gN σ (t + 2)))) : Int32).toNatClampNeg) (t + 4) (gN σ (t + 4)) ((2 * (nI (gN σ (t + 2)))) : Int32).toNatClampNeg) (t + 5) (2 * (nI (gN σ (t + 2)))) then
    if gwB (st_gw (st_gw (st_gw (st_gw (σ) (t + 2) (gN σ (t + 2)) ((2 * (nI (gN σ (t + 2)))) : Int32).toNatClampNeg) (t + 3) (gN σ (t + 3)) ((2 * (nI (gN σ (t + 2)))) : Int32).toNatClampNeg) (t + 4) (gN σ (t + 4)) ((2 * (nI (gN σ (t + 2)))) : Int32).toNatClampNeg) (t + 5) (gN σ (t + 5)) ((2 * (nI (gN σ (t + 2)))) : Int32).toNatClampNeg) (t + 6) (2 * (nI (gN σ (t + 2)))) then
    if gwB (st_gw (st_gw (st_gw (st_gw (st_gw (σ) (t + 2) (gN σ (t + 2)) ((2 * (nI (gN σ (t + 2)))) : Int32).toNatClampNeg) (t + 3) (gN σ (t + 3)) ((2 * (nI (gN σ (t + 2)))) : Int32).toNatClampNeg) (t + 4) (gN σ (t + 4)) ((2 * (nI (gN σ (t + 2)))) : Int32).toNatClampNeg) (t + 5) (gN σ (t + 5)) ((2 * (nI (gN σ (t + 2)))) : Int32).toNatClampNeg) (t + 6) (gN σ (t + 6)) ((2 * (nI (gN σ (t + 2)))) : Int32).toNatClampNeg) (t + 7) (2 * (nI (gN σ (t + 2)))) then
    if gwB (st_gw (st_gw (st_gw (st_gw (st_gw (st_gw (σ) (t + 2) (gN σ (t + 2)) ((2 * (nI (gN σ (t + 2)))) : Int32).toNatClampNeg) (t + 3) (gN σ (t + 3)) ((2 * (nI (gN σ (t + 2)))) : Int32).toNatClampNeg) (t + 4) (gN σ (t + 4)) ((2 * (nI (gN σ (t + 2)))) : Int32).toNatClampNeg) (t + 5) (gN σ (t + 5)) ((2 * (nI (gN σ (t + 2)))) : Int32).toNatClampNeg) (t + 6) (gN σ (t + 6)) ((2 * (nI (gN σ (t + 2)))) : Int32).toNatClampNeg) (t + 7) (gN σ (t + 7)) ((2 * (nI (gN σ (t + 2)))) : Int32).toNatClampNeg) (t + 8) (2 * (nI (gN σ (t + 2)))) then
    if gwB (st_gw (st_gw (st_gw (st_gw (st_gw (st_gw (st_gw (σ) (t + 2) (gN σ (t + 2)) ((2 * (nI (gN σ (t + 2)))) : Int32).toNatClampNeg) (t + 3) (gN σ (t + 3)) ((2 * (nI (gN σ (t + 2)))) : Int32).toNatClampNeg) (t + 4) (gN σ (t + 4)) ((2 * (nI (gN σ (t + 2)))) : Int32).toNatClampNeg) (t + 5) (gN σ (t + 5)) ((2 * (nI (gN σ (t + 2)))) : Int32).toNatClampNeg) (t + 6) (gN σ (t + 6)) ((2 * (nI (gN σ (t + 2)))) : Int32).toNatClampNeg) (t + 7) (gN σ (t + 7)) ((2 * (nI (gN σ (t + 2)))) : Int32).toNatClampNeg) (t + 8) (gN σ (t + 8)) ((2 * (nI (gN σ (t + 2)))) : Int32).toNatClampNeg) (t + 9) (2 * (nI (gN σ (t + 2)))) then
    J_30_125 N t x_1 x_2 x_3 x_4 x_5 (st_gw (st_gw (st_gw (st_gw (st_gw (st_gw (st_gw (st_gw (σ) (t + 2) (gN σ (t + 2)) ((2 * (nI (gN σ (t + 2)))) : Int32).toNatClampNeg) (t + 3) (gN σ (t + 3)) ((2 * (nI (gN σ (t + 2)))) : Int32).toNatClampNeg) (t + 4) (gN σ (t + 4)) ((2 * (nI (gN σ (t + 2)))) : Int32).toNatClampNeg) (t + 5) (gN σ (t + 5)) ((2 * (nI (gN σ (t + 2)))) : Int32).toNatClampNeg) (t + 6) (gN σ (t + 6)) ((2 * (nI (gN σ (t + 2)))) : Int32).toNatClampNeg) (t + 7) (gN σ (t + 7)) ((2 * (nI (gN σ (t + 2)))) : Int32).toNatClampNeg) (t + 8) (gN σ (t + 8)) ((2 * (nI (gN σ (t + 2)))) : Int32).toNatClampNeg) (t + 9) (gN σ (t + 9)) ((2 * (nI (gN σ (t + 2)))) : Int32).toNatClampNeg)
    else none
    else none
    else none
    else none
    else none
    else none
    else none
    else none
set_option maxRecDepth 100000 in
theorem F_30_R {N : Nat} {t : Nat} {x_1 : Int32} {x_2 : Int32} {x_3 : Int32} {x_4 : Int32} {x_5 : Int32} {σ : st_S} {p : Int32 × st_S} (H : F_30 N t x_1 x_2 x_3 x_4 x_5 σ = some p) : gR p.2 = gR σ := by
  unfold F_30 at H
  refine F_if H (fun _ H => ?_) (fun _ H => ?_)
  · exact (((J_30_125_R H)).trans rfl)
  · obtain ⟨_, H⟩ := F_gd H
    obtain ⟨_, H⟩ := F_gd H
    obtain ⟨_, H⟩ := F_gd H
    obtain ⟨_, H⟩ := F_gd H
    obtain ⟨_, H⟩ := F_gd H
    obtain ⟨_, H⟩ := F_gd H
    obtain ⟨_, H⟩ := F_gd H
    obtain ⟨_, H⟩ := F_gd H
    exact (((J_30_125_R H)).trans ((gR_gw _ _ _ _).trans ((gR_gw _ _ _ _).trans ((gR_gw _ _ _ _).trans ((gR_gw _ _ _ _).trans ((gR_gw _ _ _ _).trans ((gR_gw _ _ _ _).trans ((gR_gw _ _ _ _).trans ((gR_gw _ _ _ _).trans rfl)))))))))
set_option maxHeartbeats 4000000 in
set_option maxRecDepth 100000 in
theorem F_30_ok {N d : Nat} {t : Nat} (ht : t = 4 ∨ t = 20) {x_1 : Int32} {x_2 : Int32} {x_3 : Int32} {x_4 : Int32} {x_5 : Int32} {σ : st_S} {p : Int32 × st_S}  (H : F_30 N t x_1 x_2 x_3 x_4 x_5 σ = some p) : vz_ev P0 (d + 5) 30 0 (lv_args 0 [.ref (t + 1), .int x_1, .int x_2, .int x_3, .int x_4, .int x_5]) [] (hp σ) (.inl (some (.int p.1)), hp p.2) := by
  unfold F_30 at H
  rcases ht with rfl | rfl
  · refine ev_x (i := .aload_n 0) (len := 1) (p' := 1) (s' := [.ref 5]) rfl rfl rfl ?_
    refine ev_gi (p' := 4) (v := (gI σ 5 8)) rfl rfl rfl ly_5 rfl rfl rfl ?_
    refine ev_x (i := .aload_n 0) (len := 1) (p' := 5) (s' := [.ref 5, .int (gI σ 5 8)]) rfl rfl rfl ?_
    refine ev_gc (p' := 8) (v := 6) rfl rfl rfl ly_5 rfl rfl ?_
    refine ev_al (p' := 9) (v := (nI (gN σ 6))) rfl rfl ly_6 (by decide) (by decide) rfl rfl ?_
    refine F_if H (fun c_1 H => ?_) (fun c_1 H => ?_)
    · refine ev_b2 (t := 125) (p' := 125) rfl rfl rfl (if_pos c_1) ?_
      exact J_30_125_ok (d := d) (Or.inl rfl) rfl rfl rfl rfl rfl rfl rfl  H
    · refine ev_b2 (t := 125) (p' := 12) rfl rfl rfl (if_neg c_1) ?_
      refine ev_x (i := .iconst 2) (len := 1) (p' := 13) (s' := [.int 2]) rfl rfl rfl ?_
      refine ev_x (i := .aload_n 0) (len := 1) (p' := 14) (s' := [.ref 5, .int 2]) rfl rfl rfl ?_
      refine ev_gc (p' := 17) (v := 6) rfl rfl rfl ly_5 rfl rfl ?_
      refine ev_al (p' := 18) (v := (nI (gN σ 6))) rfl rfl ly_6 (by decide) (by decide) rfl rfl ?_
      refine ev_x (i := .imul) (len := 1) (p' := 19) (s' := [.int (2 * (nI (gN σ 6)))]) rfl rfl rfl ?_
      refine ev_x (i := .istore 6) (len := 2) (p' := 21) (s' := []) (l' := [(6, .int (2 * (nI (gN σ 6)))), (0, .ref 5), (1, .int x_1), (2, .int x_2), (3, .int x_3), (4, .int x_4), (5, .int x_5)]) rfl rfl rfl ?_
      refine ev_x (i := .aload_n 0) (len := 1) (p' := 22) (s' := [.ref 5]) rfl rfl rfl ?_
      refine ev_x (i := .aload_n 0) (len := 1) (p' := 23) (s' := [.ref 5, .ref 5]) rfl rfl rfl ?_
      refine ev_gc (p' := 26) (v := 6) rfl rfl rfl ly_5 rfl rfl ?_
      refine ev_x (i := .iload 6) (len := 2) (p' := 28) (s' := [.int (2 * (nI (gN σ 6))), .ref 6, .ref 5]) rfl rfl rfl ?_
      obtain ⟨b_2, H⟩ := F_gd H
      refine ev_gw (d := d + 0) (k := 6) (p' := 34) rfl rfl rfl rfl rfl rfl ly_5 rfl ly_6 (fun _ => rfl) rfl rfl rfl rfl rfl b_2 rfl ?_
      refine ev_x (i := .aload_n 0) (len := 1) (p' := 35) (s' := [.ref 5]) rfl rfl rfl ?_
      refine ev_x (i := .aload_n 0) (len := 1) (p' := 36) (s' := [.ref 5, .ref 5]) rfl rfl rfl ?_
      refine ev_gc (p' := 39) (v := 7) rfl rfl rfl ly_5 rfl rfl ?_
      refine ev_x (i := .iload 6) (len := 2) (p' := 41) (s' := [.int (2 * (nI (gN σ 6))), .ref 7, .ref 5]) rfl rfl rfl ?_
      obtain ⟨b_3, H⟩ := F_gd H
      refine ev_gw (d := d + 0) (k := 7) (p' := 47) rfl rfl rfl rfl rfl rfl ly_5 rfl ly_7 (fun _ => rfl) rfl rfl rfl rfl rfl b_3 rfl ?_
      refine ev_x (i := .aload_n 0) (len := 1) (p' := 48) (s' := [.ref 5]) rfl rfl rfl ?_
      refine ev_x (i := .aload_n 0) (len := 1) (p' := 49) (s' := [.ref 5, .ref 5]) rfl rfl rfl ?_
      refine ev_gc (p' := 52) (v := 8) rfl rfl rfl ly_5 rfl rfl ?_
      refine ev_x (i := .iload 6) (len := 2) (p' := 54) (s' := [.int (2 * (nI (gN σ 6))), .ref 8, .ref 5]) rfl rfl rfl ?_
      obtain ⟨b_4, H⟩ := F_gd H
      refine ev_gw (d := d + 0) (k := 8) (p' := 60) rfl rfl rfl rfl rfl rfl ly_5 rfl ly_8 (fun _ => rfl) rfl rfl rfl rfl rfl b_4 rfl ?_
      refine ev_x (i := .aload_n 0) (len := 1) (p' := 61) (s' := [.ref 5]) rfl rfl rfl ?_
      refine ev_x (i := .aload_n 0) (len := 1) (p' := 62) (s' := [.ref 5, .ref 5]) rfl rfl rfl ?_
      refine ev_gc (p' := 65) (v := 9) rfl rfl rfl ly_5 rfl rfl ?_
      refine ev_x (i := .iload 6) (len := 2) (p' := 67) (s' := [.int (2 * (nI (gN σ 6))), .ref 9, .ref 5]) rfl rfl rfl ?_
      obtain ⟨b_5, H⟩ := F_gd H
      refine ev_gw (d := d + 0) (k := 9) (p' := 73) rfl rfl rfl rfl rfl rfl ly_5 rfl ly_9 (fun _ => rfl) rfl rfl rfl rfl rfl b_5 rfl ?_
      refine ev_x (i := .aload_n 0) (len := 1) (p' := 74) (s' := [.ref 5]) rfl rfl rfl ?_
      refine ev_x (i := .aload_n 0) (len := 1) (p' := 75) (s' := [.ref 5, .ref 5]) rfl rfl rfl ?_
      refine ev_gc (p' := 78) (v := 10) rfl rfl rfl ly_5 rfl rfl ?_
      refine ev_x (i := .iload 6) (len := 2) (p' := 80) (s' := [.int (2 * (nI (gN σ 6))), .ref 10, .ref 5]) rfl rfl rfl ?_
      obtain ⟨b_6, H⟩ := F_gd H
      refine ev_gw (d := d + 0) (k := 10) (p' := 86) rfl rfl rfl rfl rfl rfl ly_5 rfl ly_10 (fun _ => rfl) rfl rfl rfl rfl rfl b_6 rfl ?_
      refine ev_x (i := .aload_n 0) (len := 1) (p' := 87) (s' := [.ref 5]) rfl rfl rfl ?_
      refine ev_x (i := .aload_n 0) (len := 1) (p' := 88) (s' := [.ref 5, .ref 5]) rfl rfl rfl ?_
      refine ev_gc (p' := 91) (v := 11) rfl rfl rfl ly_5 rfl rfl ?_
      refine ev_x (i := .iload 6) (len := 2) (p' := 93) (s' := [.int (2 * (nI (gN σ 6))), .ref 11, .ref 5]) rfl rfl rfl ?_
      obtain ⟨b_7, H⟩ := F_gd H
      refine ev_gw (d := d + 0) (k := 11) (p' := 99) rfl rfl rfl rfl rfl rfl ly_5 rfl ly_11 (fun _ => rfl) rfl rfl rfl rfl rfl b_7 rfl ?_
      refine ev_x (i := .aload_n 0) (len := 1) (p' := 100) (s' := [.ref 5]) rfl rfl rfl ?_
      refine ev_x (i := .aload_n 0) (len := 1) (p' := 101) (s' := [.ref 5, .ref 5]) rfl rfl rfl ?_
      refine ev_gc (p' := 104) (v := 12) rfl rfl rfl ly_5 rfl rfl ?_
      refine ev_x (i := .iload 6) (len := 2) (p' := 106) (s' := [.int (2 * (nI (gN σ 6))), .ref 12, .ref 5]) rfl rfl rfl ?_
      obtain ⟨b_8, H⟩ := F_gd H
      refine ev_gw (d := d + 0) (k := 12) (p' := 112) rfl rfl rfl rfl rfl rfl ly_5 rfl ly_12 (fun _ => rfl) rfl rfl rfl rfl rfl b_8 rfl ?_
      refine ev_x (i := .aload_n 0) (len := 1) (p' := 113) (s' := [.ref 5]) rfl rfl rfl ?_
      refine ev_x (i := .aload_n 0) (len := 1) (p' := 114) (s' := [.ref 5, .ref 5]) rfl rfl rfl ?_
      refine ev_gc (p' := 117) (v := 13) rfl rfl rfl ly_5 rfl rfl ?_
      refine ev_x (i := .iload 6) (len := 2) (p' := 119) (s' := [.int (2 * (nI (gN σ 6))), .ref 13, .ref 5]) rfl rfl rfl ?_
      obtain ⟨b_9, H⟩ := F_gd H
      refine ev_gw (d := d + 0) (k := 13) (p' := 125) rfl rfl rfl rfl rfl rfl ly_5 rfl ly_13 (fun _ => rfl) rfl rfl rfl rfl rfl b_9 rfl ?_
      exact J_30_125_ok (d := d) (Or.inl rfl) rfl rfl rfl rfl rfl rfl rfl  H
  · refine ev_x (i := .aload_n 0) (len := 1) (p' := 1) (s' := [.ref 21]) rfl rfl rfl ?_
    refine ev_gi (p' := 4) (v := (gI σ 21 8)) rfl rfl rfl ly_21 rfl rfl rfl ?_
    refine ev_x (i := .aload_n 0) (len := 1) (p' := 5) (s' := [.ref 21, .int (gI σ 21 8)]) rfl rfl rfl ?_
    refine ev_gc (p' := 8) (v := 22) rfl rfl rfl ly_21 rfl rfl ?_
    refine ev_al (p' := 9) (v := (nI (gN σ 22))) rfl rfl ly_22 (by decide) (by decide) rfl rfl ?_
    refine F_if H (fun c_1 H => ?_) (fun c_1 H => ?_)
    · refine ev_b2 (t := 125) (p' := 125) rfl rfl rfl (if_pos c_1) ?_
      exact J_30_125_ok (d := d) (Or.inr rfl) rfl rfl rfl rfl rfl rfl rfl  H
    · refine ev_b2 (t := 125) (p' := 12) rfl rfl rfl (if_neg c_1) ?_
      refine ev_x (i := .iconst 2) (len := 1) (p' := 13) (s' := [.int 2]) rfl rfl rfl ?_
      refine ev_x (i := .aload_n 0) (len := 1) (p' := 14) (s' := [.ref 21, .int 2]) rfl rfl rfl ?_
      refine ev_gc (p' := 17) (v := 22) rfl rfl rfl ly_21 rfl rfl ?_
      refine ev_al (p' := 18) (v := (nI (gN σ 22))) rfl rfl ly_22 (by decide) (by decide) rfl rfl ?_
      refine ev_x (i := .imul) (len := 1) (p' := 19) (s' := [.int (2 * (nI (gN σ 22)))]) rfl rfl rfl ?_
      refine ev_x (i := .istore 6) (len := 2) (p' := 21) (s' := []) (l' := [(6, .int (2 * (nI (gN σ 22)))), (0, .ref 21), (1, .int x_1), (2, .int x_2), (3, .int x_3), (4, .int x_4), (5, .int x_5)]) rfl rfl rfl ?_
      refine ev_x (i := .aload_n 0) (len := 1) (p' := 22) (s' := [.ref 21]) rfl rfl rfl ?_
      refine ev_x (i := .aload_n 0) (len := 1) (p' := 23) (s' := [.ref 21, .ref 21]) rfl rfl rfl ?_
      refine ev_gc (p' := 26) (v := 22) rfl rfl rfl ly_21 rfl rfl ?_
      refine ev_x (i := .iload 6) (len := 2) (p' := 28) (s' := [.int (2 * (nI (gN σ 22))), .ref 22, .ref 21]) rfl rfl rfl ?_
      obtain ⟨b_2, H⟩ := F_gd H
      refine ev_gw (d := d + 0) (k := 22) (p' := 34) rfl rfl rfl rfl rfl rfl ly_21 rfl ly_22 (fun _ => rfl) rfl rfl rfl rfl rfl b_2 rfl ?_
      refine ev_x (i := .aload_n 0) (len := 1) (p' := 35) (s' := [.ref 21]) rfl rfl rfl ?_
      refine ev_x (i := .aload_n 0) (len := 1) (p' := 36) (s' := [.ref 21, .ref 21]) rfl rfl rfl ?_
      refine ev_gc (p' := 39) (v := 23) rfl rfl rfl ly_21 rfl rfl ?_
      refine ev_x (i := .iload 6) (len := 2) (p' := 41) (s' := [.int (2 * (nI (gN σ 22))), .ref 23, .ref 21]) rfl rfl rfl ?_
      obtain ⟨b_3, H⟩ := F_gd H
      refine ev_gw (d := d + 0) (k := 23) (p' := 47) rfl rfl rfl rfl rfl rfl ly_21 rfl ly_23 (fun _ => rfl) rfl rfl rfl rfl rfl b_3 rfl ?_
      refine ev_x (i := .aload_n 0) (len := 1) (p' := 48) (s' := [.ref 21]) rfl rfl rfl ?_
      refine ev_x (i := .aload_n 0) (len := 1) (p' := 49) (s' := [.ref 21, .ref 21]) rfl rfl rfl ?_
      refine ev_gc (p' := 52) (v := 24) rfl rfl rfl ly_21 rfl rfl ?_
      refine ev_x (i := .iload 6) (len := 2) (p' := 54) (s' := [.int (2 * (nI (gN σ 22))), .ref 24, .ref 21]) rfl rfl rfl ?_
      obtain ⟨b_4, H⟩ := F_gd H
      refine ev_gw (d := d + 0) (k := 24) (p' := 60) rfl rfl rfl rfl rfl rfl ly_21 rfl ly_24 (fun _ => rfl) rfl rfl rfl rfl rfl b_4 rfl ?_
      refine ev_x (i := .aload_n 0) (len := 1) (p' := 61) (s' := [.ref 21]) rfl rfl rfl ?_
      refine ev_x (i := .aload_n 0) (len := 1) (p' := 62) (s' := [.ref 21, .ref 21]) rfl rfl rfl ?_
      refine ev_gc (p' := 65) (v := 25) rfl rfl rfl ly_21 rfl rfl ?_
      refine ev_x (i := .iload 6) (len := 2) (p' := 67) (s' := [.int (2 * (nI (gN σ 22))), .ref 25, .ref 21]) rfl rfl rfl ?_
      obtain ⟨b_5, H⟩ := F_gd H
      refine ev_gw (d := d + 0) (k := 25) (p' := 73) rfl rfl rfl rfl rfl rfl ly_21 rfl ly_25 (fun _ => rfl) rfl rfl rfl rfl rfl b_5 rfl ?_
      refine ev_x (i := .aload_n 0) (len := 1) (p' := 74) (s' := [.ref 21]) rfl rfl rfl ?_
      refine ev_x (i := .aload_n 0) (len := 1) (p' := 75) (s' := [.ref 21, .ref 21]) rfl rfl rfl ?_
      refine ev_gc (p' := 78) (v := 26) rfl rfl rfl ly_21 rfl rfl ?_
      refine ev_x (i := .iload 6) (len := 2) (p' := 80) (s' := [.int (2 * (nI (gN σ 22))), .ref 26, .ref 21]) rfl rfl rfl ?_
      obtain ⟨b_6, H⟩ := F_gd H
      refine ev_gw (d := d + 0) (k := 26) (p' := 86) rfl rfl rfl rfl rfl rfl ly_21 rfl ly_26 (fun _ => rfl) rfl rfl rfl rfl rfl b_6 rfl ?_
      refine ev_x (i := .aload_n 0) (len := 1) (p' := 87) (s' := [.ref 21]) rfl rfl rfl ?_
      refine ev_x (i := .aload_n 0) (len := 1) (p' := 88) (s' := [.ref 21, .ref 21]) rfl rfl rfl ?_
      refine ev_gc (p' := 91) (v := 27) rfl rfl rfl ly_21 rfl rfl ?_
      refine ev_x (i := .iload 6) (len := 2) (p' := 93) (s' := [.int (2 * (nI (gN σ 22))), .ref 27, .ref 21]) rfl rfl rfl ?_
      obtain ⟨b_7, H⟩ := F_gd H
      refine ev_gw (d := d + 0) (k := 27) (p' := 99) rfl rfl rfl rfl rfl rfl ly_21 rfl ly_27 (fun _ => rfl) rfl rfl rfl rfl rfl b_7 rfl ?_
      refine ev_x (i := .aload_n 0) (len := 1) (p' := 100) (s' := [.ref 21]) rfl rfl rfl ?_
      refine ev_x (i := .aload_n 0) (len := 1) (p' := 101) (s' := [.ref 21, .ref 21]) rfl rfl rfl ?_
      refine ev_gc (p' := 104) (v := 28) rfl rfl rfl ly_21 rfl rfl ?_
      refine ev_x (i := .iload 6) (len := 2) (p' := 106) (s' := [.int (2 * (nI (gN σ 22))), .ref 28, .ref 21]) rfl rfl rfl ?_
      obtain ⟨b_8, H⟩ := F_gd H
      refine ev_gw (d := d + 0) (k := 28) (p' := 112) rfl rfl rfl rfl rfl rfl ly_21 rfl ly_28 (fun _ => rfl) rfl rfl rfl rfl rfl b_8 rfl ?_
      refine ev_x (i := .aload_n 0) (len := 1) (p' := 113) (s' := [.ref 21]) rfl rfl rfl ?_
      refine ev_x (i := .aload_n 0) (len := 1) (p' := 114) (s' := [.ref 21, .ref 21]) rfl rfl rfl ?_
      refine ev_gc (p' := 117) (v := 29) rfl rfl rfl ly_21 rfl rfl ?_
      refine ev_x (i := .iload 6) (len := 2) (p' := 119) (s' := [.int (2 * (nI (gN σ 22))), .ref 29, .ref 21]) rfl rfl rfl ?_
      obtain ⟨b_9, H⟩ := F_gd H
      refine ev_gw (d := d + 0) (k := 29) (p' := 125) rfl rfl rfl rfl rfl rfl ly_21 rfl ly_29 (fun _ => rfl) rfl rfl rfl rfl rfl b_9 rfl ?_
      exact J_30_125_ok (d := d) (Or.inr rfl) rfl rfl rfl rfl rfl rfl rfl  H
/-- GameText$Parser.build(I)V, its loops -/
def L_28 (N : Nat) (t : Nat) : Nat → Int32 → Int32 → st_S → Option (st_S)
  | 0, _, _, _ => none
  | k + 1, l_1, l_2, σ =>
      if 256 ≤ l_2 then
        some (σ)
      else
        if (gI σ 36 6) ≤ 0 then
          some (σ)
        else
          (F_29 N (σ)).bind fun p_3 =>
          if p_3.1 < l_1 then
            some (p_3.2)
          else
            if aB ((gI p_3.2 36 6) - 1) (gN p_3.2 37) then
            if aB ((gI p_3.2 36 6) - 1) (gN p_3.2 38) then
            if (gE (p_3.2) 37 (((gI p_3.2 36 6) - 1) : Int32).toNatClampNeg) = 16 then
              (F_30 N t (gE (p_3.2) 37 (((gI p_3.2 36 6) - 1) : Int32).toNatClampNeg) (gE (p_3.2) 38 (((gI p_3.2 36 6) - 1) : Int32).toNatClampNeg) (gI p_3.2 36 13) (-1) (-1) (st_i (p_3.2) 36 6 ((gI p_3.2 36 6) - 1))).bind fun p_8 =>
              if aB (gI p_8.2 36 6) (gN p_8.2 41) then
              if (gE (p_8.2) 41 ((gI p_8.2 36 6) : Int32).toNatClampNeg) < 0 then
                L_28 N t k l_1 (l_2 + 1) (st_i (st_i (p_8.2) 36 13 p_8.1) 36 12 ((gI p_8.2 36 12) - 1))
              else
                if aB (gE (p_8.2) 41 ((gI p_8.2 36 6) : Int32).toNatClampNeg) (gN p_8.2 (t + 6)) then
                L_28 N t k l_1 (l_2 + 1) (st_e (st_i (st_i (p_8.2) 36 13 p_8.1) 36 12 ((gI p_8.2 36 12) - 1)) (t + 6) (((gE (p_8.2) 41 ((gI p_8.2 36 6) : Int32).toNatClampNeg) : Int32).toNatClampNeg) p_8.1)
                else none
              else none
            else
              if (gE (p_3.2) 37 (((gI p_3.2 36 6) - 1) : Int32).toNatClampNeg) = 9 then
                (F_30 N t (gE (p_3.2) 37 (((gI p_3.2 36 6) - 1) : Int32).toNatClampNeg) (gE (p_3.2) 38 (((gI p_3.2 36 6) - 1) : Int32).toNatClampNeg) (gI p_3.2 36 13) (-1) (-1) (st_i (p_3.2) 36 6 ((gI p_3.2 36 6) - 1))).bind fun p_13 =>
                if aB (gI p_13.2 36 6) (gN p_13.2 41) then
                if (gE (p_13.2) 41 ((gI p_13.2 36 6) : Int32).toNatClampNeg) < 0 then
                  L_28 N t k l_1 (l_2 + 1) (st_i (st_i (p_13.2) 36 13 p_13.1) 36 12 ((gI p_13.2 36 12) - 1))
                else
                  if aB (gE (p_13.2) 41 ((gI p_13.2 36 6) : Int32).toNatClampNeg) (gN p_13.2 (t + 6)) then
                  L_28 N t k l_1 (l_2 + 1) (st_e (st_i (st_i (p_13.2) 36 13 p_13.1) 36 12 ((gI p_13.2 36 12) - 1)) (t + 6) (((gE (p_13.2) 41 ((gI p_13.2 36 6) : Int32).toNatClampNeg) : Int32).toNatClampNeg) p_13.1)
                  else none
                else none
              else
                if (gE (p_3.2) 37 (((gI p_3.2 36 6) - 1) : Int32).toNatClampNeg) = 19 then
                  if aB ((gI p_3.2 36 6) - 1) (gN p_3.2 39) then
                  if aB ((gI p_3.2 36 6) - 1) (gN p_3.2 40) then
                  (F_30 N t (gE (p_3.2) 37 (((gI p_3.2 36 6) - 1) : Int32).toNatClampNeg) (gE (p_3.2) 38 (((gI p_3.2 36 6) - 1) : Int32).toNatClampNeg) (gE (p_3.2) 39 (((gI p_3.2 36 6) - 1) : Int32).toNatClampNeg) (gE (p_3.2) 40 (((gI p_3.2 36 6) - 1) : Int32).toNatClampNeg) (gI p_3.2 36 13) (st_i (p_3.2) 36 6 ((gI p_3.2 36 6) - 1))).bind fun p_20 =>
                  if aB (gI p_20.2 36 6) (gN p_20.2 41) then
                  if (gE (p_20.2) 41 ((gI p_20.2 36 6) : Int32).toNatClampNeg) < 0 then
                    L_28 N t k l_1 (l_2 + 1) (st_i (st_i (p_20.2) 36 13 p_20.1) 36 12 ((gI p_20.2 36 12) - 1))
                  else
                    if aB (gE (p_20.2) 41 ((gI p_20.2 36 6) : Int32).toNatClampNeg) (gN p_20.2 (t + 6)) then
                    L_28 N t k l_1 (l_2 + 1) (st_e (st_i (st_i (p_20.2) 36 13 p_20.1) 36 12 ((gI p_20.2 36 12) - 1)) (t + 6) (((gE (p_20.2) 41 ((gI p_20.2 36 6) : Int32).toNatClampNeg) : Int32).toNatClampNeg) p_20.1)
                    else none
                  else none
                  else none
                  else none
                else
                  if aB ((gI p_3.2 36 6) - 1) (gN p_3.2 39) then
                  (F_30 N t (gE (p_3.2) 37 (((gI p_3.2 36 6) - 1) : Int32).toNatClampNeg) (gE (p_3.2) 38 (((gI p_3.2 36 6) - 1) : Int32).toNatClampNeg) (gE (p_3.2) 39 (((gI p_3.2 36 6) - 1) : Int32).toNatClampNeg) (gI p_3.2 36 13) (-1) (st_i (p_3.2) 36 6 ((gI p_3.2 36 6) - 1))).bind fun p_25 =>
                  if aB (gI p_25.2 36 6) (gN p_25.2 41) then
                  if (gE (p_25.2) 41 ((gI p_25.2 36 6) : Int32).toNatClampNeg) < 0 then
                    L_28 N t k l_1 (l_2 + 1) (st_i (p_25.2) 36 13 p_25.1)
                  else
                    if aB (gE (p_25.2) 41 ((gI p_25.2 36 6) : Int32).toNatClampNeg) (gN p_25.2 (t + 6)) then
                    L_28 N t k l_1 (l_2 + 1) (st_e (st_i (p_25.2) 36 13 p_25.1) (t + 6) (((gE (p_25.2) 41 ((gI p_25.2 36 6) : Int32).toNatClampNeg) : Int32).toNatClampNeg) p_25.1)
                    else none
                  else none
                  else none
            else none
            else none
set_option maxRecDepth 100000 in
theorem L_28_R {N : Nat} {t : Nat} : ∀ (k : Nat) (l_1 : Int32) (l_2 : Int32) (σ : st_S) (p : st_S), L_28 N t k l_1 l_2 σ = some p → gR p = gR σ := by
  intro k
  induction k with
  | zero => intro l_1 l_2 σ p H; unfold L_28 at H; cases H
  | succ k ih =>
    intro l_1 l_2 σ p H
    unfold L_28 at H
    refine F_if H (fun _ H => ?_) (fun _ H => ?_)
    · obtain rfl := Option.some.inj H
      exact rfl
    · refine F_if H (fun _ H => ?_) (fun _ H => ?_)
      · obtain rfl := Option.some.inj H
        exact rfl
      · obtain ⟨p_3, G_3, H⟩ := F_bd H
        refine F_if H (fun _ H => ?_) (fun _ H => ?_)
        · obtain rfl := Option.some.inj H
          exact ((F_29_R G_3).trans rfl)
        · obtain ⟨_, H⟩ := F_gd H
          obtain ⟨_, H⟩ := F_gd H
          refine F_if H (fun _ H => ?_) (fun _ H => ?_)
          · obtain ⟨p_8, G_8, H⟩ := F_bd H
            obtain ⟨_, H⟩ := F_gd H
            refine F_if H (fun _ H => ?_) (fun _ H => ?_)
            · exact (((ih _ _ _ _ H)).trans ((F_30_R G_8).trans ((F_29_R G_3).trans rfl)))
            · obtain ⟨_, H⟩ := F_gd H
              exact (((ih _ _ _ _ H)).trans ((F_30_R G_8).trans ((F_29_R G_3).trans rfl)))
          · refine F_if H (fun _ H => ?_) (fun _ H => ?_)
            · obtain ⟨p_13, G_13, H⟩ := F_bd H
              obtain ⟨_, H⟩ := F_gd H
              refine F_if H (fun _ H => ?_) (fun _ H => ?_)
              · exact (((ih _ _ _ _ H)).trans ((F_30_R G_13).trans ((F_29_R G_3).trans rfl)))
              · obtain ⟨_, H⟩ := F_gd H
                exact (((ih _ _ _ _ H)).trans ((F_30_R G_13).trans ((F_29_R G_3).trans rfl)))
            · refine F_if H (fun _ H => ?_) (fun _ H => ?_)
              · obtain ⟨_, H⟩ := F_gd H
                obtain ⟨_, H⟩ := F_gd H
                obtain ⟨p_20, G_20, H⟩ := F_bd H
                obtain ⟨_, H⟩ := F_gd H
                refine F_if H (fun _ H => ?_) (fun _ H => ?_)
                · exact (((ih _ _ _ _ H)).trans ((F_30_R G_20).trans ((F_29_R G_3).trans rfl)))
                · obtain ⟨_, H⟩ := F_gd H
                  exact (((ih _ _ _ _ H)).trans ((F_30_R G_20).trans ((F_29_R G_3).trans rfl)))
              · obtain ⟨_, H⟩ := F_gd H
                obtain ⟨p_25, G_25, H⟩ := F_bd H
                obtain ⟨_, H⟩ := F_gd H
                refine F_if H (fun _ H => ?_) (fun _ H => ?_)
                · exact (((ih _ _ _ _ H)).trans ((F_30_R G_25).trans ((F_29_R G_3).trans rfl)))
                · obtain ⟨_, H⟩ := F_gd H
                  exact (((ih _ _ _ _ H)).trans ((F_30_R G_25).trans ((F_29_R G_3).trans rfl)))
set_option maxHeartbeats 4000000 in
set_option maxRecDepth 100000 in
theorem L_28_ok {N d : Nat} {t : Nat} (ht : t = 4 ∨ t = 20) : ∀ k : Nat, ∀ (l_1 : Int32) (l_2 : Int32) (σ : st_S) (lv : vz_L) (p : st_S), vz_g lv 0 = some (.ref 36) → vz_g lv 1 = some (.int l_1) → vz_g lv 2 = some (.int l_2) → vz_nbL (vz_gr P0) lv = true → gR σ 36 7 = (t + 1) → L_28 N t k l_1 l_2 σ = some p → vz_ev P0 (d + 6) 28 2 lv [] (hp σ) (.inl none, hp p) := by
  rcases ht with rfl | rfl
  · intro k
    induction k with
    | zero => intro l_1 l_2 σ lv p g_0 g_1 g_2 hnb hr_36_7 H; unfold L_28 at H; cases H
    | succ k ih =>
      intro l_1 l_2 σ lv p g_0 g_1 g_2 hnb hr_36_7 H
      unfold L_28 at H
      refine ev_x (i := .iload_n 2) (len := 1) (p' := 3) (s' := [.int l_2]) rfl rfl (ld_i g_2) ?_
      refine ev_x (i := .sipush 256) (len := 3) (p' := 6) (s' := [.int 256, .int l_2]) rfl rfl rfl ?_
      refine F_if H (fun c_1 H => ?_) (fun c_1 H => ?_)
      · refine ev_b2 (t := 222) (p' := 222) rfl rfl rfl (if_pos c_1) ?_
        obtain rfl := Option.some.inj H
        exact ev_vret rfl rfl rfl
      · refine ev_b2 (t := 222) (p' := 9) rfl rfl rfl (if_neg c_1) ?_
        refine ev_x (i := .aload_n 0) (len := 1) (p' := 10) (s' := [.ref 36]) rfl rfl (ld_a g_0) ?_
        refine ev_gi (p' := 13) (v := (gI σ 36 6)) rfl rfl rfl ly_36 rfl rfl rfl ?_
        refine F_if H (fun c_2 H => ?_) (fun c_2 H => ?_)
        · refine ev_b0 (t := 222) (p' := 222) rfl rfl rfl (if_pos c_2) ?_
          obtain rfl := Option.some.inj H
          exact ev_vret rfl rfl rfl
        · refine ev_b0 (t := 222) (p' := 16) rfl rfl rfl (if_neg c_2) ?_
          refine ev_x (i := .aload_n 0) (len := 1) (p' := 17) (s' := [.ref 36]) rfl rfl (ld_a g_0) ?_
          obtain ⟨p_3, G_3, H⟩ := F_bd H
          refine ev_cv (d := d + 5) (As := []) (a := 36) (p' := 20) rfl rfl rfl ly_36 rfl rfl rfl rfl rfl hnb rfl (F_29_ok (d := d + 4)   G_3) ?_
          refine ev_st (st' := [.int p_3.1]) rfl ?_
          have e_3 := F_29_R G_3
          refine ev_x (i := .iload_n 1) (len := 1) (p' := 21) (s' := [.int l_1, .int p_3.1]) rfl rfl (ld_i g_1) ?_
          refine F_if H (fun c_4 H => ?_) (fun c_4 H => ?_)
          · refine ev_b2 (t := 222) (p' := 222) rfl rfl rfl (if_pos c_4) ?_
            obtain rfl := Option.some.inj H
            exact ev_vret rfl rfl rfl
          · refine ev_b2 (t := 222) (p' := 24) rfl rfl rfl (if_neg c_4) ?_
            refine ev_x (i := .aload_n 0) (len := 1) (p' := 25) (s' := [.ref 36]) rfl rfl (ld_a g_0) ?_
            refine ev_x (i := .dup) (len := 1) (p' := 26) (s' := [.ref 36, .ref 36]) rfl rfl rfl ?_
            refine ev_gi (p' := 29) (v := (gI p_3.2 36 6)) rfl rfl rfl ly_36 rfl rfl rfl ?_
            refine ev_x (i := .iconst 1) (len := 1) (p' := 30) (s' := [.int 1, .int (gI p_3.2 36 6), .ref 36]) rfl rfl rfl ?_
            refine ev_x (i := .isub) (len := 1) (p' := 31) (s' := [.int ((gI p_3.2 36 6) - 1), .ref 36]) rfl rfl rfl ?_
            refine ev_pi (p' := 34) rfl rfl rfl ly_36 rfl rfl rfl rfl ?_
            refine ev_x (i := .aload_n 0) (len := 1) (p' := 35) (s' := [.ref 36]) rfl rfl (ld_a g_0) ?_
            refine ev_gc (p' := 38) (v := 37) rfl rfl rfl ly_36 rfl rfl ?_
            refine ev_x (i := .aload_n 0) (len := 1) (p' := 39) (s' := [.ref 36, .ref 37]) rfl rfl (ld_a g_0) ?_
            refine ev_gi (p' := 42) (v := ((gI p_3.2 36 6) - 1)) rfl rfl rfl ly_36 rfl rfl rfl ?_
            obtain ⟨b_5, H⟩ := F_gd H
            refine ev_ga (p' := 43) (v := (gE (p_3.2) 37 (((gI p_3.2 36 6) - 1) : Int32).toNatClampNeg)) rfl rfl ly_37 rfl (gd_in b_5) rfl ?_
            refine ev_x (i := .istore_n 3) (len := 1) (p' := 44) (s' := []) (l' := vz_s1 (lv) 3 (.int (gE (p_3.2) 37 (((gI p_3.2 36 6) - 1) : Int32).toNatClampNeg))) rfl rfl rfl ?_
            refine ev_x (i := .aload_n 0) (len := 1) (p' := 45) (s' := [.ref 36]) rfl rfl (ld_a (vg_o (i := 3) (v := .int (gE (p_3.2) 37 (((gI p_3.2 36 6) - 1) : Int32).toNatClampNeg)) g_0 (by decide) (Or.inl rfl))) ?_
            refine ev_gc (p' := 48) (v := 38) rfl rfl rfl ly_36 rfl rfl ?_
            refine ev_x (i := .aload_n 0) (len := 1) (p' := 49) (s' := [.ref 36, .ref 38]) rfl rfl (ld_a (vg_o (i := 3) (v := .int (gE (p_3.2) 37 (((gI p_3.2 36 6) - 1) : Int32).toNatClampNeg)) g_0 (by decide) (Or.inl rfl))) ?_
            refine ev_gi (p' := 52) (v := ((gI p_3.2 36 6) - 1)) rfl rfl rfl ly_36 rfl rfl rfl ?_
            obtain ⟨b_6, H⟩ := F_gd H
            refine ev_ga (p' := 53) (v := (gE (p_3.2) 38 (((gI p_3.2 36 6) - 1) : Int32).toNatClampNeg)) rfl rfl ly_38 rfl (gd_in b_6) rfl ?_
            refine ev_x (i := .istore 4) (len := 2) (p' := 55) (s' := []) (l' := vz_s1 (vz_s1 (lv) 3 (.int (gE (p_3.2) 37 (((gI p_3.2 36 6) - 1) : Int32).toNatClampNeg))) 4 (.int (gE (p_3.2) 38 (((gI p_3.2 36 6) - 1) : Int32).toNatClampNeg))) rfl rfl rfl ?_
            refine ev_x (i := .iload_n 3) (len := 1) (p' := 56) (s' := [.int (gE (p_3.2) 37 (((gI p_3.2 36 6) - 1) : Int32).toNatClampNeg)]) rfl rfl (ld_i (vg_o (i := 4) (v := .int (gE (p_3.2) 38 (((gI p_3.2 36 6) - 1) : Int32).toNatClampNeg)) (vg_s (lv) 3 (.int (gE (p_3.2) 37 (((gI p_3.2 36 6) - 1) : Int32).toNatClampNeg))) (by decide) (Or.inl rfl))) ?_
            refine ev_x (i := .bipush 16) (len := 2) (p' := 58) (s' := [.int 16, .int (gE (p_3.2) 37 (((gI p_3.2 36 6) - 1) : Int32).toNatClampNeg)]) rfl rfl rfl ?_
            refine F_if H (fun c_7 H => ?_) (fun c_7 H => ?_)
            · refine ev_b2 (t := 67) (p' := 67) rfl rfl rfl (if_pos c_7) ?_
              refine ev_x (i := .aload_n 0) (len := 1) (p' := 68) (s' := [.ref 36]) rfl rfl (ld_a (vg_o (i := 4) (v := .int (gE (p_3.2) 38 (((gI p_3.2 36 6) - 1) : Int32).toNatClampNeg)) (vg_o (i := 3) (v := .int (gE (p_3.2) 37 (((gI p_3.2 36 6) - 1) : Int32).toNatClampNeg)) g_0 (by decide) (Or.inl rfl)) (by decide) (Or.inl rfl))) ?_
              refine ev_x (i := .aload_n 0) (len := 1) (p' := 69) (s' := [.ref 36, .ref 36]) rfl rfl (ld_a (vg_o (i := 4) (v := .int (gE (p_3.2) 38 (((gI p_3.2 36 6) - 1) : Int32).toNatClampNeg)) (vg_o (i := 3) (v := .int (gE (p_3.2) 37 (((gI p_3.2 36 6) - 1) : Int32).toNatClampNeg)) g_0 (by decide) (Or.inl rfl)) (by decide) (Or.inl rfl))) ?_
              refine ev_gr (p' := 72) (v := 5) rfl rfl rfl ly_36 rfl rfl ((congrFun (congrFun e_3 36) 7).trans hr_36_7) ?_
              refine ev_x (i := .iload_n 3) (len := 1) (p' := 73) (s' := [.int (gE (p_3.2) 37 (((gI p_3.2 36 6) - 1) : Int32).toNatClampNeg), .ref 5, .ref 36]) rfl rfl (ld_i (vg_o (i := 4) (v := .int (gE (p_3.2) 38 (((gI p_3.2 36 6) - 1) : Int32).toNatClampNeg)) (vg_s (lv) 3 (.int (gE (p_3.2) 37 (((gI p_3.2 36 6) - 1) : Int32).toNatClampNeg))) (by decide) (Or.inl rfl))) ?_
              refine ev_x (i := .iload 4) (len := 2) (p' := 75) (s' := [.int (gE (p_3.2) 38 (((gI p_3.2 36 6) - 1) : Int32).toNatClampNeg), .int (gE (p_3.2) 37 (((gI p_3.2 36 6) - 1) : Int32).toNatClampNeg), .ref 5, .ref 36]) rfl rfl (ld_i (vg_s (vz_s1 (lv) 3 (.int (gE (p_3.2) 37 (((gI p_3.2 36 6) - 1) : Int32).toNatClampNeg))) 4 (.int (gE (p_3.2) 38 (((gI p_3.2 36 6) - 1) : Int32).toNatClampNeg)))) ?_
              refine ev_x (i := .aload_n 0) (len := 1) (p' := 76) (s' := [.ref 36, .int (gE (p_3.2) 38 (((gI p_3.2 36 6) - 1) : Int32).toNatClampNeg), .int (gE (p_3.2) 37 (((gI p_3.2 36 6) - 1) : Int32).toNatClampNeg), .ref 5, .ref 36]) rfl rfl (ld_a (vg_o (i := 4) (v := .int (gE (p_3.2) 38 (((gI p_3.2 36 6) - 1) : Int32).toNatClampNeg)) (vg_o (i := 3) (v := .int (gE (p_3.2) 37 (((gI p_3.2 36 6) - 1) : Int32).toNatClampNeg)) g_0 (by decide) (Or.inl rfl)) (by decide) (Or.inl rfl))) ?_
              refine ev_gi (p' := 79) (v := (gI p_3.2 36 13)) rfl rfl rfl ly_36 rfl rfl rfl ?_
              refine ev_x (i := .iconst (-1)) (len := 1) (p' := 80) (s' := [.int (-1), .int (gI p_3.2 36 13), .int (gE (p_3.2) 38 (((gI p_3.2 36 6) - 1) : Int32).toNatClampNeg), .int (gE (p_3.2) 37 (((gI p_3.2 36 6) - 1) : Int32).toNatClampNeg), .ref 5, .ref 36]) rfl rfl rfl ?_
              refine ev_x (i := .iconst (-1)) (len := 1) (p' := 81) (s' := [.int (-1), .int (-1), .int (gI p_3.2 36 13), .int (gE (p_3.2) 38 (((gI p_3.2 36 6) - 1) : Int32).toNatClampNeg), .int (gE (p_3.2) 37 (((gI p_3.2 36 6) - 1) : Int32).toNatClampNeg), .ref 5, .ref 36]) rfl rfl rfl ?_
              obtain ⟨p_8, G_8, H⟩ := F_bd H
              refine ev_cv (d := d + 5) (As := [.int (gE (p_3.2) 37 (((gI p_3.2 36 6) - 1) : Int32).toNatClampNeg), .int (gE (p_3.2) 38 (((gI p_3.2 36 6) - 1) : Int32).toNatClampNeg), .int (gI p_3.2 36 13), .int (-1), .int (-1)]) (a := 5) (p' := 84) rfl rfl rfl ly_5 rfl rfl rfl rfl rfl (nb_s1 (nb_s1 hnb rfl) rfl) rfl (F_30_ok (d := d + 0) (ht := (Or.inl rfl))  G_8) ?_
              refine ev_st (st' := [.int p_8.1, .ref 36]) rfl ?_
              have e_8 := F_30_R G_8
              refine ev_pi (p' := 87) rfl rfl rfl ly_36 rfl rfl rfl rfl ?_
              refine ev_x (i := .aload_n 0) (len := 1) (p' := 88) (s' := [.ref 36]) rfl rfl (ld_a (vg_o (i := 4) (v := .int (gE (p_3.2) 38 (((gI p_3.2 36 6) - 1) : Int32).toNatClampNeg)) (vg_o (i := 3) (v := .int (gE (p_3.2) 37 (((gI p_3.2 36 6) - 1) : Int32).toNatClampNeg)) g_0 (by decide) (Or.inl rfl)) (by decide) (Or.inl rfl))) ?_
              refine ev_x (i := .dup) (len := 1) (p' := 89) (s' := [.ref 36, .ref 36]) rfl rfl rfl ?_
              refine ev_gi (p' := 92) (v := (gI p_8.2 36 12)) rfl rfl rfl ly_36 rfl rfl rfl ?_
              refine ev_x (i := .iconst 1) (len := 1) (p' := 93) (s' := [.int 1, .int (gI p_8.2 36 12), .ref 36]) rfl rfl rfl ?_
              refine ev_x (i := .isub) (len := 1) (p' := 94) (s' := [.int ((gI p_8.2 36 12) - 1), .ref 36]) rfl rfl rfl ?_
              refine ev_pi (p' := 97) rfl rfl rfl ly_36 rfl rfl rfl rfl ?_
              refine ev_x (i := .goto 86) (len := 3) (p' := 183) (s' := []) rfl rfl rfl ?_
              refine ev_x (i := .aload_n 0) (len := 1) (p' := 184) (s' := [.ref 36]) rfl rfl (ld_a (vg_o (i := 4) (v := .int (gE (p_3.2) 38 (((gI p_3.2 36 6) - 1) : Int32).toNatClampNeg)) (vg_o (i := 3) (v := .int (gE (p_3.2) 37 (((gI p_3.2 36 6) - 1) : Int32).toNatClampNeg)) g_0 (by decide) (Or.inl rfl)) (by decide) (Or.inl rfl))) ?_
              refine ev_gc (p' := 187) (v := 41) rfl rfl rfl ly_36 rfl rfl ?_
              refine ev_x (i := .aload_n 0) (len := 1) (p' := 188) (s' := [.ref 36, .ref 41]) rfl rfl (ld_a (vg_o (i := 4) (v := .int (gE (p_3.2) 38 (((gI p_3.2 36 6) - 1) : Int32).toNatClampNeg)) (vg_o (i := 3) (v := .int (gE (p_3.2) 37 (((gI p_3.2 36 6) - 1) : Int32).toNatClampNeg)) g_0 (by decide) (Or.inl rfl)) (by decide) (Or.inl rfl))) ?_
              refine ev_gi (p' := 191) (v := (gI p_8.2 36 6)) rfl rfl rfl ly_36 rfl rfl rfl ?_
              obtain ⟨b_9, H⟩ := F_gd H
              refine ev_ga (p' := 192) (v := (gE (p_8.2) 41 ((gI p_8.2 36 6) : Int32).toNatClampNeg)) rfl rfl ly_41 rfl (gd_in b_9) rfl ?_
              refine F_if H (fun c_10 H => ?_) (fun c_10 H => ?_)
              · refine ev_b0 (t := 216) (p' := 216) rfl rfl rfl (if_pos c_10) ?_
                refine ev_x (i := .iinc 2 1) (len := 3) (p' := 219) (s' := []) (l' := vz_s1 (vz_s1 (vz_s1 (lv) 3 (.int (gE (p_3.2) 37 (((gI p_3.2 36 6) - 1) : Int32).toNatClampNeg))) 4 (.int (gE (p_3.2) 38 (((gI p_3.2 36 6) - 1) : Int32).toNatClampNeg))) 2 (.int (l_2 + 1))) rfl rfl (ld_inc (vg_o (i := 4) (v := .int (gE (p_3.2) 38 (((gI p_3.2 36 6) - 1) : Int32).toNatClampNeg)) (vg_o (i := 3) (v := .int (gE (p_3.2) 37 (((gI p_3.2 36 6) - 1) : Int32).toNatClampNeg)) g_2 (by decide) (Or.inl rfl)) (by decide) (Or.inl rfl)) rfl) ?_
                refine ev_x (i := .goto (-217)) (len := 3) (p' := 2) (s' := []) rfl rfl rfl ?_
                exact ih _ _ _ _ _ (vg_o (i := 2) (v := .int (l_2 + 1)) (vg_o (i := 4) (v := .int (gE (p_3.2) 38 (((gI p_3.2 36 6) - 1) : Int32).toNatClampNeg)) (vg_o (i := 3) (v := .int (gE (p_3.2) 37 (((gI p_3.2 36 6) - 1) : Int32).toNatClampNeg)) g_0 (by decide) (Or.inl rfl)) (by decide) (Or.inl rfl)) (by decide) (Or.inl rfl)) (vg_o (i := 2) (v := .int (l_2 + 1)) (vg_o (i := 4) (v := .int (gE (p_3.2) 38 (((gI p_3.2 36 6) - 1) : Int32).toNatClampNeg)) (vg_o (i := 3) (v := .int (gE (p_3.2) 37 (((gI p_3.2 36 6) - 1) : Int32).toNatClampNeg)) g_1 (by decide) (Or.inl rfl)) (by decide) (Or.inl rfl)) (by decide) (Or.inl rfl)) (vg_s (vz_s1 (vz_s1 (lv) 3 (.int (gE (p_3.2) 37 (((gI p_3.2 36 6) - 1) : Int32).toNatClampNeg))) 4 (.int (gE (p_3.2) 38 (((gI p_3.2 36 6) - 1) : Int32).toNatClampNeg))) 2 (.int (l_2 + 1))) (nb_s1 (nb_s1 (nb_s1 hnb rfl) rfl) rfl) ((congrFun (congrFun e_8 36) 7).trans ((congrFun (congrFun e_3 36) 7).trans hr_36_7)) H
              · refine ev_b0 (t := 216) (p' := 195) rfl rfl rfl (if_neg c_10) ?_
                refine ev_x (i := .aload_n 0) (len := 1) (p' := 196) (s' := [.ref 36]) rfl rfl (ld_a (vg_o (i := 4) (v := .int (gE (p_3.2) 38 (((gI p_3.2 36 6) - 1) : Int32).toNatClampNeg)) (vg_o (i := 3) (v := .int (gE (p_3.2) 37 (((gI p_3.2 36 6) - 1) : Int32).toNatClampNeg)) g_0 (by decide) (Or.inl rfl)) (by decide) (Or.inl rfl))) ?_
                refine ev_gr (p' := 199) (v := 5) rfl rfl rfl ly_36 rfl rfl ((congrFun (congrFun e_8 36) 7).trans ((congrFun (congrFun e_3 36) 7).trans hr_36_7)) ?_
                refine ev_gc (p' := 202) (v := 10) rfl rfl rfl ly_5 rfl rfl ?_
                refine ev_x (i := .aload_n 0) (len := 1) (p' := 203) (s' := [.ref 36, .ref 10]) rfl rfl (ld_a (vg_o (i := 4) (v := .int (gE (p_3.2) 38 (((gI p_3.2 36 6) - 1) : Int32).toNatClampNeg)) (vg_o (i := 3) (v := .int (gE (p_3.2) 37 (((gI p_3.2 36 6) - 1) : Int32).toNatClampNeg)) g_0 (by decide) (Or.inl rfl)) (by decide) (Or.inl rfl))) ?_
                refine ev_gc (p' := 206) (v := 41) rfl rfl rfl ly_36 rfl rfl ?_
                refine ev_x (i := .aload_n 0) (len := 1) (p' := 207) (s' := [.ref 36, .ref 41, .ref 10]) rfl rfl (ld_a (vg_o (i := 4) (v := .int (gE (p_3.2) 38 (((gI p_3.2 36 6) - 1) : Int32).toNatClampNeg)) (vg_o (i := 3) (v := .int (gE (p_3.2) 37 (((gI p_3.2 36 6) - 1) : Int32).toNatClampNeg)) g_0 (by decide) (Or.inl rfl)) (by decide) (Or.inl rfl))) ?_
                refine ev_gi (p' := 210) (v := (gI p_8.2 36 6)) rfl rfl rfl ly_36 rfl rfl rfl ?_
                refine ev_ga (p' := 211) (v := (gE (p_8.2) 41 ((gI p_8.2 36 6) : Int32).toNatClampNeg)) rfl rfl ly_41 rfl (gd_in b_9) rfl ?_
                refine ev_x (i := .aload_n 0) (len := 1) (p' := 212) (s' := [.ref 36, .int (gE (p_8.2) 41 ((gI p_8.2 36 6) : Int32).toNatClampNeg), .ref 10]) rfl rfl (ld_a (vg_o (i := 4) (v := .int (gE (p_3.2) 38 (((gI p_3.2 36 6) - 1) : Int32).toNatClampNeg)) (vg_o (i := 3) (v := .int (gE (p_3.2) 37 (((gI p_3.2 36 6) - 1) : Int32).toNatClampNeg)) g_0 (by decide) (Or.inl rfl)) (by decide) (Or.inl rfl))) ?_
                refine ev_gi (p' := 215) (v := p_8.1) rfl rfl rfl ly_36 rfl rfl rfl ?_
                obtain ⟨b_11, H⟩ := F_gd H
                refine ev_pa (j := ((gE (p_8.2) 41 ((gI p_8.2 36 6) : Int32).toNatClampNeg) : Int32).toNatClampNeg) (p' := 216) rfl rfl ly_10 rfl (gd_in b_11) rfl ?_
                refine ev_x (i := .iinc 2 1) (len := 3) (p' := 219) (s' := []) (l' := vz_s1 (vz_s1 (vz_s1 (lv) 3 (.int (gE (p_3.2) 37 (((gI p_3.2 36 6) - 1) : Int32).toNatClampNeg))) 4 (.int (gE (p_3.2) 38 (((gI p_3.2 36 6) - 1) : Int32).toNatClampNeg))) 2 (.int (l_2 + 1))) rfl rfl (ld_inc (vg_o (i := 4) (v := .int (gE (p_3.2) 38 (((gI p_3.2 36 6) - 1) : Int32).toNatClampNeg)) (vg_o (i := 3) (v := .int (gE (p_3.2) 37 (((gI p_3.2 36 6) - 1) : Int32).toNatClampNeg)) g_2 (by decide) (Or.inl rfl)) (by decide) (Or.inl rfl)) rfl) ?_
                refine ev_x (i := .goto (-217)) (len := 3) (p' := 2) (s' := []) rfl rfl rfl ?_
                exact ih _ _ _ _ _ (vg_o (i := 2) (v := .int (l_2 + 1)) (vg_o (i := 4) (v := .int (gE (p_3.2) 38 (((gI p_3.2 36 6) - 1) : Int32).toNatClampNeg)) (vg_o (i := 3) (v := .int (gE (p_3.2) 37 (((gI p_3.2 36 6) - 1) : Int32).toNatClampNeg)) g_0 (by decide) (Or.inl rfl)) (by decide) (Or.inl rfl)) (by decide) (Or.inl rfl)) (vg_o (i := 2) (v := .int (l_2 + 1)) (vg_o (i := 4) (v := .int (gE (p_3.2) 38 (((gI p_3.2 36 6) - 1) : Int32).toNatClampNeg)) (vg_o (i := 3) (v := .int (gE (p_3.2) 37 (((gI p_3.2 36 6) - 1) : Int32).toNatClampNeg)) g_1 (by decide) (Or.inl rfl)) (by decide) (Or.inl rfl)) (by decide) (Or.inl rfl)) (vg_s (vz_s1 (vz_s1 (lv) 3 (.int (gE (p_3.2) 37 (((gI p_3.2 36 6) - 1) : Int32).toNatClampNeg))) 4 (.int (gE (p_3.2) 38 (((gI p_3.2 36 6) - 1) : Int32).toNatClampNeg))) 2 (.int (l_2 + 1))) (nb_s1 (nb_s1 (nb_s1 hnb rfl) rfl) rfl) ((congrFun (congrFun e_8 36) 7).trans ((congrFun (congrFun e_3 36) 7).trans hr_36_7)) H
            · refine ev_b2 (t := 67) (p' := 61) rfl rfl rfl (if_neg c_7) ?_
              refine ev_x (i := .iload_n 3) (len := 1) (p' := 62) (s' := [.int (gE (p_3.2) 37 (((gI p_3.2 36 6) - 1) : Int32).toNatClampNeg)]) rfl rfl (ld_i (vg_o (i := 4) (v := .int (gE (p_3.2) 38 (((gI p_3.2 36 6) - 1) : Int32).toNatClampNeg)) (vg_s (lv) 3 (.int (gE (p_3.2) 37 (((gI p_3.2 36 6) - 1) : Int32).toNatClampNeg))) (by decide) (Or.inl rfl))) ?_
              refine ev_x (i := .bipush 9) (len := 2) (p' := 64) (s' := [.int 9, .int (gE (p_3.2) 37 (((gI p_3.2 36 6) - 1) : Int32).toNatClampNeg)]) rfl rfl rfl ?_
              refine F_if H (fun c_12 H => ?_) (fun c_12 H => ?_)
              · refine ev_b2 (t := 100) (p' := 67) rfl rfl rfl (if_neg (fun q => q c_12)) ?_
                refine ev_x (i := .aload_n 0) (len := 1) (p' := 68) (s' := [.ref 36]) rfl rfl (ld_a (vg_o (i := 4) (v := .int (gE (p_3.2) 38 (((gI p_3.2 36 6) - 1) : Int32).toNatClampNeg)) (vg_o (i := 3) (v := .int (gE (p_3.2) 37 (((gI p_3.2 36 6) - 1) : Int32).toNatClampNeg)) g_0 (by decide) (Or.inl rfl)) (by decide) (Or.inl rfl))) ?_
                refine ev_x (i := .aload_n 0) (len := 1) (p' := 69) (s' := [.ref 36, .ref 36]) rfl rfl (ld_a (vg_o (i := 4) (v := .int (gE (p_3.2) 38 (((gI p_3.2 36 6) - 1) : Int32).toNatClampNeg)) (vg_o (i := 3) (v := .int (gE (p_3.2) 37 (((gI p_3.2 36 6) - 1) : Int32).toNatClampNeg)) g_0 (by decide) (Or.inl rfl)) (by decide) (Or.inl rfl))) ?_
                refine ev_gr (p' := 72) (v := 5) rfl rfl rfl ly_36 rfl rfl ((congrFun (congrFun e_3 36) 7).trans hr_36_7) ?_
                refine ev_x (i := .iload_n 3) (len := 1) (p' := 73) (s' := [.int (gE (p_3.2) 37 (((gI p_3.2 36 6) - 1) : Int32).toNatClampNeg), .ref 5, .ref 36]) rfl rfl (ld_i (vg_o (i := 4) (v := .int (gE (p_3.2) 38 (((gI p_3.2 36 6) - 1) : Int32).toNatClampNeg)) (vg_s (lv) 3 (.int (gE (p_3.2) 37 (((gI p_3.2 36 6) - 1) : Int32).toNatClampNeg))) (by decide) (Or.inl rfl))) ?_
                refine ev_x (i := .iload 4) (len := 2) (p' := 75) (s' := [.int (gE (p_3.2) 38 (((gI p_3.2 36 6) - 1) : Int32).toNatClampNeg), .int (gE (p_3.2) 37 (((gI p_3.2 36 6) - 1) : Int32).toNatClampNeg), .ref 5, .ref 36]) rfl rfl (ld_i (vg_s (vz_s1 (lv) 3 (.int (gE (p_3.2) 37 (((gI p_3.2 36 6) - 1) : Int32).toNatClampNeg))) 4 (.int (gE (p_3.2) 38 (((gI p_3.2 36 6) - 1) : Int32).toNatClampNeg)))) ?_
                refine ev_x (i := .aload_n 0) (len := 1) (p' := 76) (s' := [.ref 36, .int (gE (p_3.2) 38 (((gI p_3.2 36 6) - 1) : Int32).toNatClampNeg), .int (gE (p_3.2) 37 (((gI p_3.2 36 6) - 1) : Int32).toNatClampNeg), .ref 5, .ref 36]) rfl rfl (ld_a (vg_o (i := 4) (v := .int (gE (p_3.2) 38 (((gI p_3.2 36 6) - 1) : Int32).toNatClampNeg)) (vg_o (i := 3) (v := .int (gE (p_3.2) 37 (((gI p_3.2 36 6) - 1) : Int32).toNatClampNeg)) g_0 (by decide) (Or.inl rfl)) (by decide) (Or.inl rfl))) ?_
                refine ev_gi (p' := 79) (v := (gI p_3.2 36 13)) rfl rfl rfl ly_36 rfl rfl rfl ?_
                refine ev_x (i := .iconst (-1)) (len := 1) (p' := 80) (s' := [.int (-1), .int (gI p_3.2 36 13), .int (gE (p_3.2) 38 (((gI p_3.2 36 6) - 1) : Int32).toNatClampNeg), .int (gE (p_3.2) 37 (((gI p_3.2 36 6) - 1) : Int32).toNatClampNeg), .ref 5, .ref 36]) rfl rfl rfl ?_
                refine ev_x (i := .iconst (-1)) (len := 1) (p' := 81) (s' := [.int (-1), .int (-1), .int (gI p_3.2 36 13), .int (gE (p_3.2) 38 (((gI p_3.2 36 6) - 1) : Int32).toNatClampNeg), .int (gE (p_3.2) 37 (((gI p_3.2 36 6) - 1) : Int32).toNatClampNeg), .ref 5, .ref 36]) rfl rfl rfl ?_
                obtain ⟨p_13, G_13, H⟩ := F_bd H
                refine ev_cv (d := d + 5) (As := [.int (gE (p_3.2) 37 (((gI p_3.2 36 6) - 1) : Int32).toNatClampNeg), .int (gE (p_3.2) 38 (((gI p_3.2 36 6) - 1) : Int32).toNatClampNeg), .int (gI p_3.2 36 13), .int (-1), .int (-1)]) (a := 5) (p' := 84) rfl rfl rfl ly_5 rfl rfl rfl rfl rfl (nb_s1 (nb_s1 hnb rfl) rfl) rfl (F_30_ok (d := d + 0) (ht := (Or.inl rfl))  G_13) ?_
                refine ev_st (st' := [.int p_13.1, .ref 36]) rfl ?_
                have e_13 := F_30_R G_13
                refine ev_pi (p' := 87) rfl rfl rfl ly_36 rfl rfl rfl rfl ?_
                refine ev_x (i := .aload_n 0) (len := 1) (p' := 88) (s' := [.ref 36]) rfl rfl (ld_a (vg_o (i := 4) (v := .int (gE (p_3.2) 38 (((gI p_3.2 36 6) - 1) : Int32).toNatClampNeg)) (vg_o (i := 3) (v := .int (gE (p_3.2) 37 (((gI p_3.2 36 6) - 1) : Int32).toNatClampNeg)) g_0 (by decide) (Or.inl rfl)) (by decide) (Or.inl rfl))) ?_
                refine ev_x (i := .dup) (len := 1) (p' := 89) (s' := [.ref 36, .ref 36]) rfl rfl rfl ?_
                refine ev_gi (p' := 92) (v := (gI p_13.2 36 12)) rfl rfl rfl ly_36 rfl rfl rfl ?_
                refine ev_x (i := .iconst 1) (len := 1) (p' := 93) (s' := [.int 1, .int (gI p_13.2 36 12), .ref 36]) rfl rfl rfl ?_
                refine ev_x (i := .isub) (len := 1) (p' := 94) (s' := [.int ((gI p_13.2 36 12) - 1), .ref 36]) rfl rfl rfl ?_
                refine ev_pi (p' := 97) rfl rfl rfl ly_36 rfl rfl rfl rfl ?_
                refine ev_x (i := .goto 86) (len := 3) (p' := 183) (s' := []) rfl rfl rfl ?_
                refine ev_x (i := .aload_n 0) (len := 1) (p' := 184) (s' := [.ref 36]) rfl rfl (ld_a (vg_o (i := 4) (v := .int (gE (p_3.2) 38 (((gI p_3.2 36 6) - 1) : Int32).toNatClampNeg)) (vg_o (i := 3) (v := .int (gE (p_3.2) 37 (((gI p_3.2 36 6) - 1) : Int32).toNatClampNeg)) g_0 (by decide) (Or.inl rfl)) (by decide) (Or.inl rfl))) ?_
                refine ev_gc (p' := 187) (v := 41) rfl rfl rfl ly_36 rfl rfl ?_
                refine ev_x (i := .aload_n 0) (len := 1) (p' := 188) (s' := [.ref 36, .ref 41]) rfl rfl (ld_a (vg_o (i := 4) (v := .int (gE (p_3.2) 38 (((gI p_3.2 36 6) - 1) : Int32).toNatClampNeg)) (vg_o (i := 3) (v := .int (gE (p_3.2) 37 (((gI p_3.2 36 6) - 1) : Int32).toNatClampNeg)) g_0 (by decide) (Or.inl rfl)) (by decide) (Or.inl rfl))) ?_
                refine ev_gi (p' := 191) (v := (gI p_13.2 36 6)) rfl rfl rfl ly_36 rfl rfl rfl ?_
                obtain ⟨b_14, H⟩ := F_gd H
                refine ev_ga (p' := 192) (v := (gE (p_13.2) 41 ((gI p_13.2 36 6) : Int32).toNatClampNeg)) rfl rfl ly_41 rfl (gd_in b_14) rfl ?_
                refine F_if H (fun c_15 H => ?_) (fun c_15 H => ?_)
                · refine ev_b0 (t := 216) (p' := 216) rfl rfl rfl (if_pos c_15) ?_
                  refine ev_x (i := .iinc 2 1) (len := 3) (p' := 219) (s' := []) (l' := vz_s1 (vz_s1 (vz_s1 (lv) 3 (.int (gE (p_3.2) 37 (((gI p_3.2 36 6) - 1) : Int32).toNatClampNeg))) 4 (.int (gE (p_3.2) 38 (((gI p_3.2 36 6) - 1) : Int32).toNatClampNeg))) 2 (.int (l_2 + 1))) rfl rfl (ld_inc (vg_o (i := 4) (v := .int (gE (p_3.2) 38 (((gI p_3.2 36 6) - 1) : Int32).toNatClampNeg)) (vg_o (i := 3) (v := .int (gE (p_3.2) 37 (((gI p_3.2 36 6) - 1) : Int32).toNatClampNeg)) g_2 (by decide) (Or.inl rfl)) (by decide) (Or.inl rfl)) rfl) ?_
                  refine ev_x (i := .goto (-217)) (len := 3) (p' := 2) (s' := []) rfl rfl rfl ?_
                  exact ih _ _ _ _ _ (vg_o (i := 2) (v := .int (l_2 + 1)) (vg_o (i := 4) (v := .int (gE (p_3.2) 38 (((gI p_3.2 36 6) - 1) : Int32).toNatClampNeg)) (vg_o (i := 3) (v := .int (gE (p_3.2) 37 (((gI p_3.2 36 6) - 1) : Int32).toNatClampNeg)) g_0 (by decide) (Or.inl rfl)) (by decide) (Or.inl rfl)) (by decide) (Or.inl rfl)) (vg_o (i := 2) (v := .int (l_2 + 1)) (vg_o (i := 4) (v := .int (gE (p_3.2) 38 (((gI p_3.2 36 6) - 1) : Int32).toNatClampNeg)) (vg_o (i := 3) (v := .int (gE (p_3.2) 37 (((gI p_3.2 36 6) - 1) : Int32).toNatClampNeg)) g_1 (by decide) (Or.inl rfl)) (by decide) (Or.inl rfl)) (by decide) (Or.inl rfl)) (vg_s (vz_s1 (vz_s1 (lv) 3 (.int (gE (p_3.2) 37 (((gI p_3.2 36 6) - 1) : Int32).toNatClampNeg))) 4 (.int (gE (p_3.2) 38 (((gI p_3.2 36 6) - 1) : Int32).toNatClampNeg))) 2 (.int (l_2 + 1))) (nb_s1 (nb_s1 (nb_s1 hnb rfl) rfl) rfl) ((congrFun (congrFun e_13 36) 7).trans ((congrFun (congrFun e_3 36) 7).trans hr_36_7)) H
                · refine ev_b0 (t := 216) (p' := 195) rfl rfl rfl (if_neg c_15) ?_
                  refine ev_x (i := .aload_n 0) (len := 1) (p' := 196) (s' := [.ref 36]) rfl rfl (ld_a (vg_o (i := 4) (v := .int (gE (p_3.2) 38 (((gI p_3.2 36 6) - 1) : Int32).toNatClampNeg)) (vg_o (i := 3) (v := .int (gE (p_3.2) 37 (((gI p_3.2 36 6) - 1) : Int32).toNatClampNeg)) g_0 (by decide) (Or.inl rfl)) (by decide) (Or.inl rfl))) ?_
                  refine ev_gr (p' := 199) (v := 5) rfl rfl rfl ly_36 rfl rfl ((congrFun (congrFun e_13 36) 7).trans ((congrFun (congrFun e_3 36) 7).trans hr_36_7)) ?_
                  refine ev_gc (p' := 202) (v := 10) rfl rfl rfl ly_5 rfl rfl ?_
                  refine ev_x (i := .aload_n 0) (len := 1) (p' := 203) (s' := [.ref 36, .ref 10]) rfl rfl (ld_a (vg_o (i := 4) (v := .int (gE (p_3.2) 38 (((gI p_3.2 36 6) - 1) : Int32).toNatClampNeg)) (vg_o (i := 3) (v := .int (gE (p_3.2) 37 (((gI p_3.2 36 6) - 1) : Int32).toNatClampNeg)) g_0 (by decide) (Or.inl rfl)) (by decide) (Or.inl rfl))) ?_
                  refine ev_gc (p' := 206) (v := 41) rfl rfl rfl ly_36 rfl rfl ?_
                  refine ev_x (i := .aload_n 0) (len := 1) (p' := 207) (s' := [.ref 36, .ref 41, .ref 10]) rfl rfl (ld_a (vg_o (i := 4) (v := .int (gE (p_3.2) 38 (((gI p_3.2 36 6) - 1) : Int32).toNatClampNeg)) (vg_o (i := 3) (v := .int (gE (p_3.2) 37 (((gI p_3.2 36 6) - 1) : Int32).toNatClampNeg)) g_0 (by decide) (Or.inl rfl)) (by decide) (Or.inl rfl))) ?_
                  refine ev_gi (p' := 210) (v := (gI p_13.2 36 6)) rfl rfl rfl ly_36 rfl rfl rfl ?_
                  refine ev_ga (p' := 211) (v := (gE (p_13.2) 41 ((gI p_13.2 36 6) : Int32).toNatClampNeg)) rfl rfl ly_41 rfl (gd_in b_14) rfl ?_
                  refine ev_x (i := .aload_n 0) (len := 1) (p' := 212) (s' := [.ref 36, .int (gE (p_13.2) 41 ((gI p_13.2 36 6) : Int32).toNatClampNeg), .ref 10]) rfl rfl (ld_a (vg_o (i := 4) (v := .int (gE (p_3.2) 38 (((gI p_3.2 36 6) - 1) : Int32).toNatClampNeg)) (vg_o (i := 3) (v := .int (gE (p_3.2) 37 (((gI p_3.2 36 6) - 1) : Int32).toNatClampNeg)) g_0 (by decide) (Or.inl rfl)) (by decide) (Or.inl rfl))) ?_
                  refine ev_gi (p' := 215) (v := p_13.1) rfl rfl rfl ly_36 rfl rfl rfl ?_
                  obtain ⟨b_16, H⟩ := F_gd H
                  refine ev_pa (j := ((gE (p_13.2) 41 ((gI p_13.2 36 6) : Int32).toNatClampNeg) : Int32).toNatClampNeg) (p' := 216) rfl rfl ly_10 rfl (gd_in b_16) rfl ?_
                  refine ev_x (i := .iinc 2 1) (len := 3) (p' := 219) (s' := []) (l' := vz_s1 (vz_s1 (vz_s1 (lv) 3 (.int (gE (p_3.2) 37 (((gI p_3.2 36 6) - 1) : Int32).toNatClampNeg))) 4 (.int (gE (p_3.2) 38 (((gI p_3.2 36 6) - 1) : Int32).toNatClampNeg))) 2 (.int (l_2 + 1))) rfl rfl (ld_inc (vg_o (i := 4) (v := .int (gE (p_3.2) 38 (((gI p_3.2 36 6) - 1) : Int32).toNatClampNeg)) (vg_o (i := 3) (v := .int (gE (p_3.2) 37 (((gI p_3.2 36 6) - 1) : Int32).toNatClampNeg)) g_2 (by decide) (Or.inl rfl)) (by decide) (Or.inl rfl)) rfl) ?_
                  refine ev_x (i := .goto (-217)) (len := 3) (p' := 2) (s' := []) rfl rfl rfl ?_
                  exact ih _ _ _ _ _ (vg_o (i := 2) (v := .int (l_2 + 1)) (vg_o (i := 4) (v := .int (gE (p_3.2) 38 (((gI p_3.2 36 6) - 1) : Int32).toNatClampNeg)) (vg_o (i := 3) (v := .int (gE (p_3.2) 37 (((gI p_3.2 36 6) - 1) : Int32).toNatClampNeg)) g_0 (by decide) (Or.inl rfl)) (by decide) (Or.inl rfl)) (by decide) (Or.inl rfl)) (vg_o (i := 2) (v := .int (l_2 + 1)) (vg_o (i := 4) (v := .int (gE (p_3.2) 38 (((gI p_3.2 36 6) - 1) : Int32).toNatClampNeg)) (vg_o (i := 3) (v := .int (gE (p_3.2) 37 (((gI p_3.2 36 6) - 1) : Int32).toNatClampNeg)) g_1 (by decide) (Or.inl rfl)) (by decide) (Or.inl rfl)) (by decide) (Or.inl rfl)) (vg_s (vz_s1 (vz_s1 (lv) 3 (.int (gE (p_3.2) 37 (((gI p_3.2 36 6) - 1) : Int32).toNatClampNeg))) 4 (.int (gE (p_3.2) 38 (((gI p_3.2 36 6) - 1) : Int32).toNatClampNeg))) 2 (.int (l_2 + 1))) (nb_s1 (nb_s1 (nb_s1 hnb rfl) rfl) rfl) ((congrFun (congrFun e_13 36) 7).trans ((congrFun (congrFun e_3 36) 7).trans hr_36_7)) H
              · refine ev_b2 (t := 100) (p' := 100) rfl rfl rfl (if_pos c_12) ?_
                refine ev_x (i := .iload_n 3) (len := 1) (p' := 101) (s' := [.int (gE (p_3.2) 37 (((gI p_3.2 36 6) - 1) : Int32).toNatClampNeg)]) rfl rfl (ld_i (vg_o (i := 4) (v := .int (gE (p_3.2) 38 (((gI p_3.2 36 6) - 1) : Int32).toNatClampNeg)) (vg_s (lv) 3 (.int (gE (p_3.2) 37 (((gI p_3.2 36 6) - 1) : Int32).toNatClampNeg))) (by decide) (Or.inl rfl))) ?_
                refine ev_x (i := .bipush 19) (len := 2) (p' := 103) (s' := [.int 19, .int (gE (p_3.2) 37 (((gI p_3.2 36 6) - 1) : Int32).toNatClampNeg)]) rfl rfl rfl ?_
                refine F_if H (fun c_17 H => ?_) (fun c_17 H => ?_)
                · refine ev_b2 (t := 155) (p' := 106) rfl rfl rfl (if_neg (fun q => q c_17)) ?_
                  refine ev_x (i := .aload_n 0) (len := 1) (p' := 107) (s' := [.ref 36]) rfl rfl (ld_a (vg_o (i := 4) (v := .int (gE (p_3.2) 38 (((gI p_3.2 36 6) - 1) : Int32).toNatClampNeg)) (vg_o (i := 3) (v := .int (gE (p_3.2) 37 (((gI p_3.2 36 6) - 1) : Int32).toNatClampNeg)) g_0 (by decide) (Or.inl rfl)) (by decide) (Or.inl rfl))) ?_
                  refine ev_x (i := .aload_n 0) (len := 1) (p' := 108) (s' := [.ref 36, .ref 36]) rfl rfl (ld_a (vg_o (i := 4) (v := .int (gE (p_3.2) 38 (((gI p_3.2 36 6) - 1) : Int32).toNatClampNeg)) (vg_o (i := 3) (v := .int (gE (p_3.2) 37 (((gI p_3.2 36 6) - 1) : Int32).toNatClampNeg)) g_0 (by decide) (Or.inl rfl)) (by decide) (Or.inl rfl))) ?_
                  refine ev_gr (p' := 111) (v := 5) rfl rfl rfl ly_36 rfl rfl ((congrFun (congrFun e_3 36) 7).trans hr_36_7) ?_
                  refine ev_x (i := .iload_n 3) (len := 1) (p' := 112) (s' := [.int (gE (p_3.2) 37 (((gI p_3.2 36 6) - 1) : Int32).toNatClampNeg), .ref 5, .ref 36]) rfl rfl (ld_i (vg_o (i := 4) (v := .int (gE (p_3.2) 38 (((gI p_3.2 36 6) - 1) : Int32).toNatClampNeg)) (vg_s (lv) 3 (.int (gE (p_3.2) 37 (((gI p_3.2 36 6) - 1) : Int32).toNatClampNeg))) (by decide) (Or.inl rfl))) ?_
                  refine ev_x (i := .iload 4) (len := 2) (p' := 114) (s' := [.int (gE (p_3.2) 38 (((gI p_3.2 36 6) - 1) : Int32).toNatClampNeg), .int (gE (p_3.2) 37 (((gI p_3.2 36 6) - 1) : Int32).toNatClampNeg), .ref 5, .ref 36]) rfl rfl (ld_i (vg_s (vz_s1 (lv) 3 (.int (gE (p_3.2) 37 (((gI p_3.2 36 6) - 1) : Int32).toNatClampNeg))) 4 (.int (gE (p_3.2) 38 (((gI p_3.2 36 6) - 1) : Int32).toNatClampNeg)))) ?_
                  refine ev_x (i := .aload_n 0) (len := 1) (p' := 115) (s' := [.ref 36, .int (gE (p_3.2) 38 (((gI p_3.2 36 6) - 1) : Int32).toNatClampNeg), .int (gE (p_3.2) 37 (((gI p_3.2 36 6) - 1) : Int32).toNatClampNeg), .ref 5, .ref 36]) rfl rfl (ld_a (vg_o (i := 4) (v := .int (gE (p_3.2) 38 (((gI p_3.2 36 6) - 1) : Int32).toNatClampNeg)) (vg_o (i := 3) (v := .int (gE (p_3.2) 37 (((gI p_3.2 36 6) - 1) : Int32).toNatClampNeg)) g_0 (by decide) (Or.inl rfl)) (by decide) (Or.inl rfl))) ?_
                  refine ev_gc (p' := 118) (v := 39) rfl rfl rfl ly_36 rfl rfl ?_
                  refine ev_x (i := .aload_n 0) (len := 1) (p' := 119) (s' := [.ref 36, .ref 39, .int (gE (p_3.2) 38 (((gI p_3.2 36 6) - 1) : Int32).toNatClampNeg), .int (gE (p_3.2) 37 (((gI p_3.2 36 6) - 1) : Int32).toNatClampNeg), .ref 5, .ref 36]) rfl rfl (ld_a (vg_o (i := 4) (v := .int (gE (p_3.2) 38 (((gI p_3.2 36 6) - 1) : Int32).toNatClampNeg)) (vg_o (i := 3) (v := .int (gE (p_3.2) 37 (((gI p_3.2 36 6) - 1) : Int32).toNatClampNeg)) g_0 (by decide) (Or.inl rfl)) (by decide) (Or.inl rfl))) ?_
                  refine ev_gi (p' := 122) (v := ((gI p_3.2 36 6) - 1)) rfl rfl rfl ly_36 rfl rfl rfl ?_
                  obtain ⟨b_18, H⟩ := F_gd H
                  refine ev_ga (p' := 123) (v := (gE (p_3.2) 39 (((gI p_3.2 36 6) - 1) : Int32).toNatClampNeg)) rfl rfl ly_39 rfl (gd_in b_18) rfl ?_
                  refine ev_x (i := .aload_n 0) (len := 1) (p' := 124) (s' := [.ref 36, .int (gE (p_3.2) 39 (((gI p_3.2 36 6) - 1) : Int32).toNatClampNeg), .int (gE (p_3.2) 38 (((gI p_3.2 36 6) - 1) : Int32).toNatClampNeg), .int (gE (p_3.2) 37 (((gI p_3.2 36 6) - 1) : Int32).toNatClampNeg), .ref 5, .ref 36]) rfl rfl (ld_a (vg_o (i := 4) (v := .int (gE (p_3.2) 38 (((gI p_3.2 36 6) - 1) : Int32).toNatClampNeg)) (vg_o (i := 3) (v := .int (gE (p_3.2) 37 (((gI p_3.2 36 6) - 1) : Int32).toNatClampNeg)) g_0 (by decide) (Or.inl rfl)) (by decide) (Or.inl rfl))) ?_
                  refine ev_gc (p' := 127) (v := 40) rfl rfl rfl ly_36 rfl rfl ?_
                  refine ev_x (i := .aload_n 0) (len := 1) (p' := 128) (s' := [.ref 36, .ref 40, .int (gE (p_3.2) 39 (((gI p_3.2 36 6) - 1) : Int32).toNatClampNeg), .int (gE (p_3.2) 38 (((gI p_3.2 36 6) - 1) : Int32).toNatClampNeg), .int (gE (p_3.2) 37 (((gI p_3.2 36 6) - 1) : Int32).toNatClampNeg), .ref 5, .ref 36]) rfl rfl (ld_a (vg_o (i := 4) (v := .int (gE (p_3.2) 38 (((gI p_3.2 36 6) - 1) : Int32).toNatClampNeg)) (vg_o (i := 3) (v := .int (gE (p_3.2) 37 (((gI p_3.2 36 6) - 1) : Int32).toNatClampNeg)) g_0 (by decide) (Or.inl rfl)) (by decide) (Or.inl rfl))) ?_
                  refine ev_gi (p' := 131) (v := ((gI p_3.2 36 6) - 1)) rfl rfl rfl ly_36 rfl rfl rfl ?_
                  obtain ⟨b_19, H⟩ := F_gd H
                  refine ev_ga (p' := 132) (v := (gE (p_3.2) 40 (((gI p_3.2 36 6) - 1) : Int32).toNatClampNeg)) rfl rfl ly_40 rfl (gd_in b_19) rfl ?_
                  refine ev_x (i := .aload_n 0) (len := 1) (p' := 133) (s' := [.ref 36, .int (gE (p_3.2) 40 (((gI p_3.2 36 6) - 1) : Int32).toNatClampNeg), .int (gE (p_3.2) 39 (((gI p_3.2 36 6) - 1) : Int32).toNatClampNeg), .int (gE (p_3.2) 38 (((gI p_3.2 36 6) - 1) : Int32).toNatClampNeg), .int (gE (p_3.2) 37 (((gI p_3.2 36 6) - 1) : Int32).toNatClampNeg), .ref 5, .ref 36]) rfl rfl (ld_a (vg_o (i := 4) (v := .int (gE (p_3.2) 38 (((gI p_3.2 36 6) - 1) : Int32).toNatClampNeg)) (vg_o (i := 3) (v := .int (gE (p_3.2) 37 (((gI p_3.2 36 6) - 1) : Int32).toNatClampNeg)) g_0 (by decide) (Or.inl rfl)) (by decide) (Or.inl rfl))) ?_
                  refine ev_gi (p' := 136) (v := (gI p_3.2 36 13)) rfl rfl rfl ly_36 rfl rfl rfl ?_
                  obtain ⟨p_20, G_20, H⟩ := F_bd H
                  refine ev_cv (d := d + 5) (As := [.int (gE (p_3.2) 37 (((gI p_3.2 36 6) - 1) : Int32).toNatClampNeg), .int (gE (p_3.2) 38 (((gI p_3.2 36 6) - 1) : Int32).toNatClampNeg), .int (gE (p_3.2) 39 (((gI p_3.2 36 6) - 1) : Int32).toNatClampNeg), .int (gE (p_3.2) 40 (((gI p_3.2 36 6) - 1) : Int32).toNatClampNeg), .int (gI p_3.2 36 13)]) (a := 5) (p' := 139) rfl rfl rfl ly_5 rfl rfl rfl rfl rfl (nb_s1 (nb_s1 hnb rfl) rfl) rfl (F_30_ok (d := d + 0) (ht := (Or.inl rfl))  G_20) ?_
                  refine ev_st (st' := [.int p_20.1, .ref 36]) rfl ?_
                  have e_20 := F_30_R G_20
                  refine ev_pi (p' := 142) rfl rfl rfl ly_36 rfl rfl rfl rfl ?_
                  refine ev_x (i := .aload_n 0) (len := 1) (p' := 143) (s' := [.ref 36]) rfl rfl (ld_a (vg_o (i := 4) (v := .int (gE (p_3.2) 38 (((gI p_3.2 36 6) - 1) : Int32).toNatClampNeg)) (vg_o (i := 3) (v := .int (gE (p_3.2) 37 (((gI p_3.2 36 6) - 1) : Int32).toNatClampNeg)) g_0 (by decide) (Or.inl rfl)) (by decide) (Or.inl rfl))) ?_
                  refine ev_x (i := .dup) (len := 1) (p' := 144) (s' := [.ref 36, .ref 36]) rfl rfl rfl ?_
                  refine ev_gi (p' := 147) (v := (gI p_20.2 36 12)) rfl rfl rfl ly_36 rfl rfl rfl ?_
                  refine ev_x (i := .iconst 1) (len := 1) (p' := 148) (s' := [.int 1, .int (gI p_20.2 36 12), .ref 36]) rfl rfl rfl ?_
                  refine ev_x (i := .isub) (len := 1) (p' := 149) (s' := [.int ((gI p_20.2 36 12) - 1), .ref 36]) rfl rfl rfl ?_
                  refine ev_pi (p' := 152) rfl rfl rfl ly_36 rfl rfl rfl rfl ?_
                  refine ev_x (i := .goto 31) (len := 3) (p' := 183) (s' := []) rfl rfl rfl ?_
                  refine ev_x (i := .aload_n 0) (len := 1) (p' := 184) (s' := [.ref 36]) rfl rfl (ld_a (vg_o (i := 4) (v := .int (gE (p_3.2) 38 (((gI p_3.2 36 6) - 1) : Int32).toNatClampNeg)) (vg_o (i := 3) (v := .int (gE (p_3.2) 37 (((gI p_3.2 36 6) - 1) : Int32).toNatClampNeg)) g_0 (by decide) (Or.inl rfl)) (by decide) (Or.inl rfl))) ?_
                  refine ev_gc (p' := 187) (v := 41) rfl rfl rfl ly_36 rfl rfl ?_
                  refine ev_x (i := .aload_n 0) (len := 1) (p' := 188) (s' := [.ref 36, .ref 41]) rfl rfl (ld_a (vg_o (i := 4) (v := .int (gE (p_3.2) 38 (((gI p_3.2 36 6) - 1) : Int32).toNatClampNeg)) (vg_o (i := 3) (v := .int (gE (p_3.2) 37 (((gI p_3.2 36 6) - 1) : Int32).toNatClampNeg)) g_0 (by decide) (Or.inl rfl)) (by decide) (Or.inl rfl))) ?_
                  refine ev_gi (p' := 191) (v := (gI p_20.2 36 6)) rfl rfl rfl ly_36 rfl rfl rfl ?_
                  obtain ⟨b_21, H⟩ := F_gd H
                  refine ev_ga (p' := 192) (v := (gE (p_20.2) 41 ((gI p_20.2 36 6) : Int32).toNatClampNeg)) rfl rfl ly_41 rfl (gd_in b_21) rfl ?_
                  refine F_if H (fun c_22 H => ?_) (fun c_22 H => ?_)
                  · refine ev_b0 (t := 216) (p' := 216) rfl rfl rfl (if_pos c_22) ?_
                    refine ev_x (i := .iinc 2 1) (len := 3) (p' := 219) (s' := []) (l' := vz_s1 (vz_s1 (vz_s1 (lv) 3 (.int (gE (p_3.2) 37 (((gI p_3.2 36 6) - 1) : Int32).toNatClampNeg))) 4 (.int (gE (p_3.2) 38 (((gI p_3.2 36 6) - 1) : Int32).toNatClampNeg))) 2 (.int (l_2 + 1))) rfl rfl (ld_inc (vg_o (i := 4) (v := .int (gE (p_3.2) 38 (((gI p_3.2 36 6) - 1) : Int32).toNatClampNeg)) (vg_o (i := 3) (v := .int (gE (p_3.2) 37 (((gI p_3.2 36 6) - 1) : Int32).toNatClampNeg)) g_2 (by decide) (Or.inl rfl)) (by decide) (Or.inl rfl)) rfl) ?_
                    refine ev_x (i := .goto (-217)) (len := 3) (p' := 2) (s' := []) rfl rfl rfl ?_
                    exact ih _ _ _ _ _ (vg_o (i := 2) (v := .int (l_2 + 1)) (vg_o (i := 4) (v := .int (gE (p_3.2) 38 (((gI p_3.2 36 6) - 1) : Int32).toNatClampNeg)) (vg_o (i := 3) (v := .int (gE (p_3.2) 37 (((gI p_3.2 36 6) - 1) : Int32).toNatClampNeg)) g_0 (by decide) (Or.inl rfl)) (by decide) (Or.inl rfl)) (by decide) (Or.inl rfl)) (vg_o (i := 2) (v := .int (l_2 + 1)) (vg_o (i := 4) (v := .int (gE (p_3.2) 38 (((gI p_3.2 36 6) - 1) : Int32).toNatClampNeg)) (vg_o (i := 3) (v := .int (gE (p_3.2) 37 (((gI p_3.2 36 6) - 1) : Int32).toNatClampNeg)) g_1 (by decide) (Or.inl rfl)) (by decide) (Or.inl rfl)) (by decide) (Or.inl rfl)) (vg_s (vz_s1 (vz_s1 (lv) 3 (.int (gE (p_3.2) 37 (((gI p_3.2 36 6) - 1) : Int32).toNatClampNeg))) 4 (.int (gE (p_3.2) 38 (((gI p_3.2 36 6) - 1) : Int32).toNatClampNeg))) 2 (.int (l_2 + 1))) (nb_s1 (nb_s1 (nb_s1 hnb rfl) rfl) rfl) ((congrFun (congrFun e_20 36) 7).trans ((congrFun (congrFun e_3 36) 7).trans hr_36_7)) H
                  · refine ev_b0 (t := 216) (p' := 195) rfl rfl rfl (if_neg c_22) ?_
                    refine ev_x (i := .aload_n 0) (len := 1) (p' := 196) (s' := [.ref 36]) rfl rfl (ld_a (vg_o (i := 4) (v := .int (gE (p_3.2) 38 (((gI p_3.2 36 6) - 1) : Int32).toNatClampNeg)) (vg_o (i := 3) (v := .int (gE (p_3.2) 37 (((gI p_3.2 36 6) - 1) : Int32).toNatClampNeg)) g_0 (by decide) (Or.inl rfl)) (by decide) (Or.inl rfl))) ?_
                    refine ev_gr (p' := 199) (v := 5) rfl rfl rfl ly_36 rfl rfl ((congrFun (congrFun e_20 36) 7).trans ((congrFun (congrFun e_3 36) 7).trans hr_36_7)) ?_
                    refine ev_gc (p' := 202) (v := 10) rfl rfl rfl ly_5 rfl rfl ?_
                    refine ev_x (i := .aload_n 0) (len := 1) (p' := 203) (s' := [.ref 36, .ref 10]) rfl rfl (ld_a (vg_o (i := 4) (v := .int (gE (p_3.2) 38 (((gI p_3.2 36 6) - 1) : Int32).toNatClampNeg)) (vg_o (i := 3) (v := .int (gE (p_3.2) 37 (((gI p_3.2 36 6) - 1) : Int32).toNatClampNeg)) g_0 (by decide) (Or.inl rfl)) (by decide) (Or.inl rfl))) ?_
                    refine ev_gc (p' := 206) (v := 41) rfl rfl rfl ly_36 rfl rfl ?_
                    refine ev_x (i := .aload_n 0) (len := 1) (p' := 207) (s' := [.ref 36, .ref 41, .ref 10]) rfl rfl (ld_a (vg_o (i := 4) (v := .int (gE (p_3.2) 38 (((gI p_3.2 36 6) - 1) : Int32).toNatClampNeg)) (vg_o (i := 3) (v := .int (gE (p_3.2) 37 (((gI p_3.2 36 6) - 1) : Int32).toNatClampNeg)) g_0 (by decide) (Or.inl rfl)) (by decide) (Or.inl rfl))) ?_
                    refine ev_gi (p' := 210) (v := (gI p_20.2 36 6)) rfl rfl rfl ly_36 rfl rfl rfl ?_
                    refine ev_ga (p' := 211) (v := (gE (p_20.2) 41 ((gI p_20.2 36 6) : Int32).toNatClampNeg)) rfl rfl ly_41 rfl (gd_in b_21) rfl ?_
                    refine ev_x (i := .aload_n 0) (len := 1) (p' := 212) (s' := [.ref 36, .int (gE (p_20.2) 41 ((gI p_20.2 36 6) : Int32).toNatClampNeg), .ref 10]) rfl rfl (ld_a (vg_o (i := 4) (v := .int (gE (p_3.2) 38 (((gI p_3.2 36 6) - 1) : Int32).toNatClampNeg)) (vg_o (i := 3) (v := .int (gE (p_3.2) 37 (((gI p_3.2 36 6) - 1) : Int32).toNatClampNeg)) g_0 (by decide) (Or.inl rfl)) (by decide) (Or.inl rfl))) ?_
                    refine ev_gi (p' := 215) (v := p_20.1) rfl rfl rfl ly_36 rfl rfl rfl ?_
                    obtain ⟨b_23, H⟩ := F_gd H
                    refine ev_pa (j := ((gE (p_20.2) 41 ((gI p_20.2 36 6) : Int32).toNatClampNeg) : Int32).toNatClampNeg) (p' := 216) rfl rfl ly_10 rfl (gd_in b_23) rfl ?_
                    refine ev_x (i := .iinc 2 1) (len := 3) (p' := 219) (s' := []) (l' := vz_s1 (vz_s1 (vz_s1 (lv) 3 (.int (gE (p_3.2) 37 (((gI p_3.2 36 6) - 1) : Int32).toNatClampNeg))) 4 (.int (gE (p_3.2) 38 (((gI p_3.2 36 6) - 1) : Int32).toNatClampNeg))) 2 (.int (l_2 + 1))) rfl rfl (ld_inc (vg_o (i := 4) (v := .int (gE (p_3.2) 38 (((gI p_3.2 36 6) - 1) : Int32).toNatClampNeg)) (vg_o (i := 3) (v := .int (gE (p_3.2) 37 (((gI p_3.2 36 6) - 1) : Int32).toNatClampNeg)) g_2 (by decide) (Or.inl rfl)) (by decide) (Or.inl rfl)) rfl) ?_
                    refine ev_x (i := .goto (-217)) (len := 3) (p' := 2) (s' := []) rfl rfl rfl ?_
                    exact ih _ _ _ _ _ (vg_o (i := 2) (v := .int (l_2 + 1)) (vg_o (i := 4) (v := .int (gE (p_3.2) 38 (((gI p_3.2 36 6) - 1) : Int32).toNatClampNeg)) (vg_o (i := 3) (v := .int (gE (p_3.2) 37 (((gI p_3.2 36 6) - 1) : Int32).toNatClampNeg)) g_0 (by decide) (Or.inl rfl)) (by decide) (Or.inl rfl)) (by decide) (Or.inl rfl)) (vg_o (i := 2) (v := .int (l_2 + 1)) (vg_o (i := 4) (v := .int (gE (p_3.2) 38 (((gI p_3.2 36 6) - 1) : Int32).toNatClampNeg)) (vg_o (i := 3) (v := .int (gE (p_3.2) 37 (((gI p_3.2 36 6) - 1) : Int32).toNatClampNeg)) g_1 (by decide) (Or.inl rfl)) (by decide) (Or.inl rfl)) (by decide) (Or.inl rfl)) (vg_s (vz_s1 (vz_s1 (lv) 3 (.int (gE (p_3.2) 37 (((gI p_3.2 36 6) - 1) : Int32).toNatClampNeg))) 4 (.int (gE (p_3.2) 38 (((gI p_3.2 36 6) - 1) : Int32).toNatClampNeg))) 2 (.int (l_2 + 1))) (nb_s1 (nb_s1 (nb_s1 hnb rfl) rfl) rfl) ((congrFun (congrFun e_20 36) 7).trans ((congrFun (congrFun e_3 36) 7).trans hr_36_7)) H
                · refine ev_b2 (t := 155) (p' := 155) rfl rfl rfl (if_pos c_17) ?_
                  refine ev_x (i := .aload_n 0) (len := 1) (p' := 156) (s' := [.ref 36]) rfl rfl (ld_a (vg_o (i := 4) (v := .int (gE (p_3.2) 38 (((gI p_3.2 36 6) - 1) : Int32).toNatClampNeg)) (vg_o (i := 3) (v := .int (gE (p_3.2) 37 (((gI p_3.2 36 6) - 1) : Int32).toNatClampNeg)) g_0 (by decide) (Or.inl rfl)) (by decide) (Or.inl rfl))) ?_
                  refine ev_x (i := .aload_n 0) (len := 1) (p' := 157) (s' := [.ref 36, .ref 36]) rfl rfl (ld_a (vg_o (i := 4) (v := .int (gE (p_3.2) 38 (((gI p_3.2 36 6) - 1) : Int32).toNatClampNeg)) (vg_o (i := 3) (v := .int (gE (p_3.2) 37 (((gI p_3.2 36 6) - 1) : Int32).toNatClampNeg)) g_0 (by decide) (Or.inl rfl)) (by decide) (Or.inl rfl))) ?_
                  refine ev_gr (p' := 160) (v := 5) rfl rfl rfl ly_36 rfl rfl ((congrFun (congrFun e_3 36) 7).trans hr_36_7) ?_
                  refine ev_x (i := .iload_n 3) (len := 1) (p' := 161) (s' := [.int (gE (p_3.2) 37 (((gI p_3.2 36 6) - 1) : Int32).toNatClampNeg), .ref 5, .ref 36]) rfl rfl (ld_i (vg_o (i := 4) (v := .int (gE (p_3.2) 38 (((gI p_3.2 36 6) - 1) : Int32).toNatClampNeg)) (vg_s (lv) 3 (.int (gE (p_3.2) 37 (((gI p_3.2 36 6) - 1) : Int32).toNatClampNeg))) (by decide) (Or.inl rfl))) ?_
                  refine ev_x (i := .iload 4) (len := 2) (p' := 163) (s' := [.int (gE (p_3.2) 38 (((gI p_3.2 36 6) - 1) : Int32).toNatClampNeg), .int (gE (p_3.2) 37 (((gI p_3.2 36 6) - 1) : Int32).toNatClampNeg), .ref 5, .ref 36]) rfl rfl (ld_i (vg_s (vz_s1 (lv) 3 (.int (gE (p_3.2) 37 (((gI p_3.2 36 6) - 1) : Int32).toNatClampNeg))) 4 (.int (gE (p_3.2) 38 (((gI p_3.2 36 6) - 1) : Int32).toNatClampNeg)))) ?_
                  refine ev_x (i := .aload_n 0) (len := 1) (p' := 164) (s' := [.ref 36, .int (gE (p_3.2) 38 (((gI p_3.2 36 6) - 1) : Int32).toNatClampNeg), .int (gE (p_3.2) 37 (((gI p_3.2 36 6) - 1) : Int32).toNatClampNeg), .ref 5, .ref 36]) rfl rfl (ld_a (vg_o (i := 4) (v := .int (gE (p_3.2) 38 (((gI p_3.2 36 6) - 1) : Int32).toNatClampNeg)) (vg_o (i := 3) (v := .int (gE (p_3.2) 37 (((gI p_3.2 36 6) - 1) : Int32).toNatClampNeg)) g_0 (by decide) (Or.inl rfl)) (by decide) (Or.inl rfl))) ?_
                  refine ev_gc (p' := 167) (v := 39) rfl rfl rfl ly_36 rfl rfl ?_
                  refine ev_x (i := .aload_n 0) (len := 1) (p' := 168) (s' := [.ref 36, .ref 39, .int (gE (p_3.2) 38 (((gI p_3.2 36 6) - 1) : Int32).toNatClampNeg), .int (gE (p_3.2) 37 (((gI p_3.2 36 6) - 1) : Int32).toNatClampNeg), .ref 5, .ref 36]) rfl rfl (ld_a (vg_o (i := 4) (v := .int (gE (p_3.2) 38 (((gI p_3.2 36 6) - 1) : Int32).toNatClampNeg)) (vg_o (i := 3) (v := .int (gE (p_3.2) 37 (((gI p_3.2 36 6) - 1) : Int32).toNatClampNeg)) g_0 (by decide) (Or.inl rfl)) (by decide) (Or.inl rfl))) ?_
                  refine ev_gi (p' := 171) (v := ((gI p_3.2 36 6) - 1)) rfl rfl rfl ly_36 rfl rfl rfl ?_
                  obtain ⟨b_24, H⟩ := F_gd H
                  refine ev_ga (p' := 172) (v := (gE (p_3.2) 39 (((gI p_3.2 36 6) - 1) : Int32).toNatClampNeg)) rfl rfl ly_39 rfl (gd_in b_24) rfl ?_
                  refine ev_x (i := .aload_n 0) (len := 1) (p' := 173) (s' := [.ref 36, .int (gE (p_3.2) 39 (((gI p_3.2 36 6) - 1) : Int32).toNatClampNeg), .int (gE (p_3.2) 38 (((gI p_3.2 36 6) - 1) : Int32).toNatClampNeg), .int (gE (p_3.2) 37 (((gI p_3.2 36 6) - 1) : Int32).toNatClampNeg), .ref 5, .ref 36]) rfl rfl (ld_a (vg_o (i := 4) (v := .int (gE (p_3.2) 38 (((gI p_3.2 36 6) - 1) : Int32).toNatClampNeg)) (vg_o (i := 3) (v := .int (gE (p_3.2) 37 (((gI p_3.2 36 6) - 1) : Int32).toNatClampNeg)) g_0 (by decide) (Or.inl rfl)) (by decide) (Or.inl rfl))) ?_
                  refine ev_gi (p' := 176) (v := (gI p_3.2 36 13)) rfl rfl rfl ly_36 rfl rfl rfl ?_
                  refine ev_x (i := .iconst (-1)) (len := 1) (p' := 177) (s' := [.int (-1), .int (gI p_3.2 36 13), .int (gE (p_3.2) 39 (((gI p_3.2 36 6) - 1) : Int32).toNatClampNeg), .int (gE (p_3.2) 38 (((gI p_3.2 36 6) - 1) : Int32).toNatClampNeg), .int (gE (p_3.2) 37 (((gI p_3.2 36 6) - 1) : Int32).toNatClampNeg), .ref 5, .ref 36]) rfl rfl rfl ?_
                  obtain ⟨p_25, G_25, H⟩ := F_bd H
                  refine ev_cv (d := d + 5) (As := [.int (gE (p_3.2) 37 (((gI p_3.2 36 6) - 1) : Int32).toNatClampNeg), .int (gE (p_3.2) 38 (((gI p_3.2 36 6) - 1) : Int32).toNatClampNeg), .int (gE (p_3.2) 39 (((gI p_3.2 36 6) - 1) : Int32).toNatClampNeg), .int (gI p_3.2 36 13), .int (-1)]) (a := 5) (p' := 180) rfl rfl rfl ly_5 rfl rfl rfl rfl rfl (nb_s1 (nb_s1 hnb rfl) rfl) rfl (F_30_ok (d := d + 0) (ht := (Or.inl rfl))  G_25) ?_
                  refine ev_st (st' := [.int p_25.1, .ref 36]) rfl ?_
                  have e_25 := F_30_R G_25
                  refine ev_pi (p' := 183) rfl rfl rfl ly_36 rfl rfl rfl rfl ?_
                  refine ev_x (i := .aload_n 0) (len := 1) (p' := 184) (s' := [.ref 36]) rfl rfl (ld_a (vg_o (i := 4) (v := .int (gE (p_3.2) 38 (((gI p_3.2 36 6) - 1) : Int32).toNatClampNeg)) (vg_o (i := 3) (v := .int (gE (p_3.2) 37 (((gI p_3.2 36 6) - 1) : Int32).toNatClampNeg)) g_0 (by decide) (Or.inl rfl)) (by decide) (Or.inl rfl))) ?_
                  refine ev_gc (p' := 187) (v := 41) rfl rfl rfl ly_36 rfl rfl ?_
                  refine ev_x (i := .aload_n 0) (len := 1) (p' := 188) (s' := [.ref 36, .ref 41]) rfl rfl (ld_a (vg_o (i := 4) (v := .int (gE (p_3.2) 38 (((gI p_3.2 36 6) - 1) : Int32).toNatClampNeg)) (vg_o (i := 3) (v := .int (gE (p_3.2) 37 (((gI p_3.2 36 6) - 1) : Int32).toNatClampNeg)) g_0 (by decide) (Or.inl rfl)) (by decide) (Or.inl rfl))) ?_
                  refine ev_gi (p' := 191) (v := (gI p_25.2 36 6)) rfl rfl rfl ly_36 rfl rfl rfl ?_
                  obtain ⟨b_26, H⟩ := F_gd H
                  refine ev_ga (p' := 192) (v := (gE (p_25.2) 41 ((gI p_25.2 36 6) : Int32).toNatClampNeg)) rfl rfl ly_41 rfl (gd_in b_26) rfl ?_
                  refine F_if H (fun c_27 H => ?_) (fun c_27 H => ?_)
                  · refine ev_b0 (t := 216) (p' := 216) rfl rfl rfl (if_pos c_27) ?_
                    refine ev_x (i := .iinc 2 1) (len := 3) (p' := 219) (s' := []) (l' := vz_s1 (vz_s1 (vz_s1 (lv) 3 (.int (gE (p_3.2) 37 (((gI p_3.2 36 6) - 1) : Int32).toNatClampNeg))) 4 (.int (gE (p_3.2) 38 (((gI p_3.2 36 6) - 1) : Int32).toNatClampNeg))) 2 (.int (l_2 + 1))) rfl rfl (ld_inc (vg_o (i := 4) (v := .int (gE (p_3.2) 38 (((gI p_3.2 36 6) - 1) : Int32).toNatClampNeg)) (vg_o (i := 3) (v := .int (gE (p_3.2) 37 (((gI p_3.2 36 6) - 1) : Int32).toNatClampNeg)) g_2 (by decide) (Or.inl rfl)) (by decide) (Or.inl rfl)) rfl) ?_
                    refine ev_x (i := .goto (-217)) (len := 3) (p' := 2) (s' := []) rfl rfl rfl ?_
                    exact ih _ _ _ _ _ (vg_o (i := 2) (v := .int (l_2 + 1)) (vg_o (i := 4) (v := .int (gE (p_3.2) 38 (((gI p_3.2 36 6) - 1) : Int32).toNatClampNeg)) (vg_o (i := 3) (v := .int (gE (p_3.2) 37 (((gI p_3.2 36 6) - 1) : Int32).toNatClampNeg)) g_0 (by decide) (Or.inl rfl)) (by decide) (Or.inl rfl)) (by decide) (Or.inl rfl)) (vg_o (i := 2) (v := .int (l_2 + 1)) (vg_o (i := 4) (v := .int (gE (p_3.2) 38 (((gI p_3.2 36 6) - 1) : Int32).toNatClampNeg)) (vg_o (i := 3) (v := .int (gE (p_3.2) 37 (((gI p_3.2 36 6) - 1) : Int32).toNatClampNeg)) g_1 (by decide) (Or.inl rfl)) (by decide) (Or.inl rfl)) (by decide) (Or.inl rfl)) (vg_s (vz_s1 (vz_s1 (lv) 3 (.int (gE (p_3.2) 37 (((gI p_3.2 36 6) - 1) : Int32).toNatClampNeg))) 4 (.int (gE (p_3.2) 38 (((gI p_3.2 36 6) - 1) : Int32).toNatClampNeg))) 2 (.int (l_2 + 1))) (nb_s1 (nb_s1 (nb_s1 hnb rfl) rfl) rfl) ((congrFun (congrFun e_25 36) 7).trans ((congrFun (congrFun e_3 36) 7).trans hr_36_7)) H
                  · refine ev_b0 (t := 216) (p' := 195) rfl rfl rfl (if_neg c_27) ?_
                    refine ev_x (i := .aload_n 0) (len := 1) (p' := 196) (s' := [.ref 36]) rfl rfl (ld_a (vg_o (i := 4) (v := .int (gE (p_3.2) 38 (((gI p_3.2 36 6) - 1) : Int32).toNatClampNeg)) (vg_o (i := 3) (v := .int (gE (p_3.2) 37 (((gI p_3.2 36 6) - 1) : Int32).toNatClampNeg)) g_0 (by decide) (Or.inl rfl)) (by decide) (Or.inl rfl))) ?_
                    refine ev_gr (p' := 199) (v := 5) rfl rfl rfl ly_36 rfl rfl ((congrFun (congrFun e_25 36) 7).trans ((congrFun (congrFun e_3 36) 7).trans hr_36_7)) ?_
                    refine ev_gc (p' := 202) (v := 10) rfl rfl rfl ly_5 rfl rfl ?_
                    refine ev_x (i := .aload_n 0) (len := 1) (p' := 203) (s' := [.ref 36, .ref 10]) rfl rfl (ld_a (vg_o (i := 4) (v := .int (gE (p_3.2) 38 (((gI p_3.2 36 6) - 1) : Int32).toNatClampNeg)) (vg_o (i := 3) (v := .int (gE (p_3.2) 37 (((gI p_3.2 36 6) - 1) : Int32).toNatClampNeg)) g_0 (by decide) (Or.inl rfl)) (by decide) (Or.inl rfl))) ?_
                    refine ev_gc (p' := 206) (v := 41) rfl rfl rfl ly_36 rfl rfl ?_
                    refine ev_x (i := .aload_n 0) (len := 1) (p' := 207) (s' := [.ref 36, .ref 41, .ref 10]) rfl rfl (ld_a (vg_o (i := 4) (v := .int (gE (p_3.2) 38 (((gI p_3.2 36 6) - 1) : Int32).toNatClampNeg)) (vg_o (i := 3) (v := .int (gE (p_3.2) 37 (((gI p_3.2 36 6) - 1) : Int32).toNatClampNeg)) g_0 (by decide) (Or.inl rfl)) (by decide) (Or.inl rfl))) ?_
                    refine ev_gi (p' := 210) (v := (gI p_25.2 36 6)) rfl rfl rfl ly_36 rfl rfl rfl ?_
                    refine ev_ga (p' := 211) (v := (gE (p_25.2) 41 ((gI p_25.2 36 6) : Int32).toNatClampNeg)) rfl rfl ly_41 rfl (gd_in b_26) rfl ?_
                    refine ev_x (i := .aload_n 0) (len := 1) (p' := 212) (s' := [.ref 36, .int (gE (p_25.2) 41 ((gI p_25.2 36 6) : Int32).toNatClampNeg), .ref 10]) rfl rfl (ld_a (vg_o (i := 4) (v := .int (gE (p_3.2) 38 (((gI p_3.2 36 6) - 1) : Int32).toNatClampNeg)) (vg_o (i := 3) (v := .int (gE (p_3.2) 37 (((gI p_3.2 36 6) - 1) : Int32).toNatClampNeg)) g_0 (by decide) (Or.inl rfl)) (by decide) (Or.inl rfl))) ?_
                    refine ev_gi (p' := 215) (v := p_25.1) rfl rfl rfl ly_36 rfl rfl rfl ?_
                    obtain ⟨b_28, H⟩ := F_gd H
                    refine ev_pa (j := ((gE (p_25.2) 41 ((gI p_25.2 36 6) : Int32).toNatClampNeg) : Int32).toNatClampNeg) (p' := 216) rfl rfl ly_10 rfl (gd_in b_28) rfl ?_
                    refine ev_x (i := .iinc 2 1) (len := 3) (p' := 219) (s' := []) (l' := vz_s1 (vz_s1 (vz_s1 (lv) 3 (.int (gE (p_3.2) 37 (((gI p_3.2 36 6) - 1) : Int32).toNatClampNeg))) 4 (.int (gE (p_3.2) 38 (((gI p_3.2 36 6) - 1) : Int32).toNatClampNeg))) 2 (.int (l_2 + 1))) rfl rfl (ld_inc (vg_o (i := 4) (v := .int (gE (p_3.2) 38 (((gI p_3.2 36 6) - 1) : Int32).toNatClampNeg)) (vg_o (i := 3) (v := .int (gE (p_3.2) 37 (((gI p_3.2 36 6) - 1) : Int32).toNatClampNeg)) g_2 (by decide) (Or.inl rfl)) (by decide) (Or.inl rfl)) rfl) ?_
                    refine ev_x (i := .goto (-217)) (len := 3) (p' := 2) (s' := []) rfl rfl rfl ?_
                    exact ih _ _ _ _ _ (vg_o (i := 2) (v := .int (l_2 + 1)) (vg_o (i := 4) (v := .int (gE (p_3.2) 38 (((gI p_3.2 36 6) - 1) : Int32).toNatClampNeg)) (vg_o (i := 3) (v := .int (gE (p_3.2) 37 (((gI p_3.2 36 6) - 1) : Int32).toNatClampNeg)) g_0 (by decide) (Or.inl rfl)) (by decide) (Or.inl rfl)) (by decide) (Or.inl rfl)) (vg_o (i := 2) (v := .int (l_2 + 1)) (vg_o (i := 4) (v := .int (gE (p_3.2) 38 (((gI p_3.2 36 6) - 1) : Int32).toNatClampNeg)) (vg_o (i := 3) (v := .int (gE (p_3.2) 37 (((gI p_3.2 36 6) - 1) : Int32).toNatClampNeg)) g_1 (by decide) (Or.inl rfl)) (by decide) (Or.inl rfl)) (by decide) (Or.inl rfl)) (vg_s (vz_s1 (vz_s1 (lv) 3 (.int (gE (p_3.2) 37 (((gI p_3.2 36 6) - 1) : Int32).toNatClampNeg))) 4 (.int (gE (p_3.2) 38 (((gI p_3.2 36 6) - 1) : Int32).toNatClampNeg))) 2 (.int (l_2 + 1))) (nb_s1 (nb_s1 (nb_s1 hnb rfl) rfl) rfl) ((congrFun (congrFun e_25 36) 7).trans ((congrFun (congrFun e_3 36) 7).trans hr_36_7)) H
  · intro k
    induction k with
    | zero => intro l_1 l_2 σ lv p g_0 g_1 g_2 hnb hr_36_7 H; unfold L_28 at H; cases H
    | succ k ih =>
      intro l_1 l_2 σ lv p g_0 g_1 g_2 hnb hr_36_7 H
      unfold L_28 at H
      refine ev_x (i := .iload_n 2) (len := 1) (p' := 3) (s' := [.int l_2]) rfl rfl (ld_i g_2) ?_
      refine ev_x (i := .sipush 256) (len := 3) (p' := 6) (s' := [.int 256, .int l_2]) rfl rfl rfl ?_
      refine F_if H (fun c_1 H => ?_) (fun c_1 H => ?_)
      · refine ev_b2 (t := 222) (p' := 222) rfl rfl rfl (if_pos c_1) ?_
        obtain rfl := Option.some.inj H
        exact ev_vret rfl rfl rfl
      · refine ev_b2 (t := 222) (p' := 9) rfl rfl rfl (if_neg c_1) ?_
        refine ev_x (i := .aload_n 0) (len := 1) (p' := 10) (s' := [.ref 36]) rfl rfl (ld_a g_0) ?_
        refine ev_gi (p' := 13) (v := (gI σ 36 6)) rfl rfl rfl ly_36 rfl rfl rfl ?_
        refine F_if H (fun c_2 H => ?_) (fun c_2 H => ?_)
        · refine ev_b0 (t := 222) (p' := 222) rfl rfl rfl (if_pos c_2) ?_
          obtain rfl := Option.some.inj H
          exact ev_vret rfl rfl rfl
        · refine ev_b0 (t := 222) (p' := 16) rfl rfl rfl (if_neg c_2) ?_
          refine ev_x (i := .aload_n 0) (len := 1) (p' := 17) (s' := [.ref 36]) rfl rfl (ld_a g_0) ?_
          obtain ⟨p_3, G_3, H⟩ := F_bd H
          refine ev_cv (d := d + 5) (As := []) (a := 36) (p' := 20) rfl rfl rfl ly_36 rfl rfl rfl rfl rfl hnb rfl (F_29_ok (d := d + 4)   G_3) ?_
          refine ev_st (st' := [.int p_3.1]) rfl ?_
          have e_3 := F_29_R G_3
          refine ev_x (i := .iload_n 1) (len := 1) (p' := 21) (s' := [.int l_1, .int p_3.1]) rfl rfl (ld_i g_1) ?_
          refine F_if H (fun c_4 H => ?_) (fun c_4 H => ?_)
          · refine ev_b2 (t := 222) (p' := 222) rfl rfl rfl (if_pos c_4) ?_
            obtain rfl := Option.some.inj H
            exact ev_vret rfl rfl rfl
          · refine ev_b2 (t := 222) (p' := 24) rfl rfl rfl (if_neg c_4) ?_
            refine ev_x (i := .aload_n 0) (len := 1) (p' := 25) (s' := [.ref 36]) rfl rfl (ld_a g_0) ?_
            refine ev_x (i := .dup) (len := 1) (p' := 26) (s' := [.ref 36, .ref 36]) rfl rfl rfl ?_
            refine ev_gi (p' := 29) (v := (gI p_3.2 36 6)) rfl rfl rfl ly_36 rfl rfl rfl ?_
            refine ev_x (i := .iconst 1) (len := 1) (p' := 30) (s' := [.int 1, .int (gI p_3.2 36 6), .ref 36]) rfl rfl rfl ?_
            refine ev_x (i := .isub) (len := 1) (p' := 31) (s' := [.int ((gI p_3.2 36 6) - 1), .ref 36]) rfl rfl rfl ?_
            refine ev_pi (p' := 34) rfl rfl rfl ly_36 rfl rfl rfl rfl ?_
            refine ev_x (i := .aload_n 0) (len := 1) (p' := 35) (s' := [.ref 36]) rfl rfl (ld_a g_0) ?_
            refine ev_gc (p' := 38) (v := 37) rfl rfl rfl ly_36 rfl rfl ?_
            refine ev_x (i := .aload_n 0) (len := 1) (p' := 39) (s' := [.ref 36, .ref 37]) rfl rfl (ld_a g_0) ?_
            refine ev_gi (p' := 42) (v := ((gI p_3.2 36 6) - 1)) rfl rfl rfl ly_36 rfl rfl rfl ?_
            obtain ⟨b_5, H⟩ := F_gd H
            refine ev_ga (p' := 43) (v := (gE (p_3.2) 37 (((gI p_3.2 36 6) - 1) : Int32).toNatClampNeg)) rfl rfl ly_37 rfl (gd_in b_5) rfl ?_
            refine ev_x (i := .istore_n 3) (len := 1) (p' := 44) (s' := []) (l' := vz_s1 (lv) 3 (.int (gE (p_3.2) 37 (((gI p_3.2 36 6) - 1) : Int32).toNatClampNeg))) rfl rfl rfl ?_
            refine ev_x (i := .aload_n 0) (len := 1) (p' := 45) (s' := [.ref 36]) rfl rfl (ld_a (vg_o (i := 3) (v := .int (gE (p_3.2) 37 (((gI p_3.2 36 6) - 1) : Int32).toNatClampNeg)) g_0 (by decide) (Or.inl rfl))) ?_
            refine ev_gc (p' := 48) (v := 38) rfl rfl rfl ly_36 rfl rfl ?_
            refine ev_x (i := .aload_n 0) (len := 1) (p' := 49) (s' := [.ref 36, .ref 38]) rfl rfl (ld_a (vg_o (i := 3) (v := .int (gE (p_3.2) 37 (((gI p_3.2 36 6) - 1) : Int32).toNatClampNeg)) g_0 (by decide) (Or.inl rfl))) ?_
            refine ev_gi (p' := 52) (v := ((gI p_3.2 36 6) - 1)) rfl rfl rfl ly_36 rfl rfl rfl ?_
            obtain ⟨b_6, H⟩ := F_gd H
            refine ev_ga (p' := 53) (v := (gE (p_3.2) 38 (((gI p_3.2 36 6) - 1) : Int32).toNatClampNeg)) rfl rfl ly_38 rfl (gd_in b_6) rfl ?_
            refine ev_x (i := .istore 4) (len := 2) (p' := 55) (s' := []) (l' := vz_s1 (vz_s1 (lv) 3 (.int (gE (p_3.2) 37 (((gI p_3.2 36 6) - 1) : Int32).toNatClampNeg))) 4 (.int (gE (p_3.2) 38 (((gI p_3.2 36 6) - 1) : Int32).toNatClampNeg))) rfl rfl rfl ?_
            refine ev_x (i := .iload_n 3) (len := 1) (p' := 56) (s' := [.int (gE (p_3.2) 37 (((gI p_3.2 36 6) - 1) : Int32).toNatClampNeg)]) rfl rfl (ld_i (vg_o (i := 4) (v := .int (gE (p_3.2) 38 (((gI p_3.2 36 6) - 1) : Int32).toNatClampNeg)) (vg_s (lv) 3 (.int (gE (p_3.2) 37 (((gI p_3.2 36 6) - 1) : Int32).toNatClampNeg))) (by decide) (Or.inl rfl))) ?_
            refine ev_x (i := .bipush 16) (len := 2) (p' := 58) (s' := [.int 16, .int (gE (p_3.2) 37 (((gI p_3.2 36 6) - 1) : Int32).toNatClampNeg)]) rfl rfl rfl ?_
            refine F_if H (fun c_7 H => ?_) (fun c_7 H => ?_)
            · refine ev_b2 (t := 67) (p' := 67) rfl rfl rfl (if_pos c_7) ?_
              refine ev_x (i := .aload_n 0) (len := 1) (p' := 68) (s' := [.ref 36]) rfl rfl (ld_a (vg_o (i := 4) (v := .int (gE (p_3.2) 38 (((gI p_3.2 36 6) - 1) : Int32).toNatClampNeg)) (vg_o (i := 3) (v := .int (gE (p_3.2) 37 (((gI p_3.2 36 6) - 1) : Int32).toNatClampNeg)) g_0 (by decide) (Or.inl rfl)) (by decide) (Or.inl rfl))) ?_
              refine ev_x (i := .aload_n 0) (len := 1) (p' := 69) (s' := [.ref 36, .ref 36]) rfl rfl (ld_a (vg_o (i := 4) (v := .int (gE (p_3.2) 38 (((gI p_3.2 36 6) - 1) : Int32).toNatClampNeg)) (vg_o (i := 3) (v := .int (gE (p_3.2) 37 (((gI p_3.2 36 6) - 1) : Int32).toNatClampNeg)) g_0 (by decide) (Or.inl rfl)) (by decide) (Or.inl rfl))) ?_
              refine ev_gr (p' := 72) (v := 21) rfl rfl rfl ly_36 rfl rfl ((congrFun (congrFun e_3 36) 7).trans hr_36_7) ?_
              refine ev_x (i := .iload_n 3) (len := 1) (p' := 73) (s' := [.int (gE (p_3.2) 37 (((gI p_3.2 36 6) - 1) : Int32).toNatClampNeg), .ref 21, .ref 36]) rfl rfl (ld_i (vg_o (i := 4) (v := .int (gE (p_3.2) 38 (((gI p_3.2 36 6) - 1) : Int32).toNatClampNeg)) (vg_s (lv) 3 (.int (gE (p_3.2) 37 (((gI p_3.2 36 6) - 1) : Int32).toNatClampNeg))) (by decide) (Or.inl rfl))) ?_
              refine ev_x (i := .iload 4) (len := 2) (p' := 75) (s' := [.int (gE (p_3.2) 38 (((gI p_3.2 36 6) - 1) : Int32).toNatClampNeg), .int (gE (p_3.2) 37 (((gI p_3.2 36 6) - 1) : Int32).toNatClampNeg), .ref 21, .ref 36]) rfl rfl (ld_i (vg_s (vz_s1 (lv) 3 (.int (gE (p_3.2) 37 (((gI p_3.2 36 6) - 1) : Int32).toNatClampNeg))) 4 (.int (gE (p_3.2) 38 (((gI p_3.2 36 6) - 1) : Int32).toNatClampNeg)))) ?_
              refine ev_x (i := .aload_n 0) (len := 1) (p' := 76) (s' := [.ref 36, .int (gE (p_3.2) 38 (((gI p_3.2 36 6) - 1) : Int32).toNatClampNeg), .int (gE (p_3.2) 37 (((gI p_3.2 36 6) - 1) : Int32).toNatClampNeg), .ref 21, .ref 36]) rfl rfl (ld_a (vg_o (i := 4) (v := .int (gE (p_3.2) 38 (((gI p_3.2 36 6) - 1) : Int32).toNatClampNeg)) (vg_o (i := 3) (v := .int (gE (p_3.2) 37 (((gI p_3.2 36 6) - 1) : Int32).toNatClampNeg)) g_0 (by decide) (Or.inl rfl)) (by decide) (Or.inl rfl))) ?_
              refine ev_gi (p' := 79) (v := (gI p_3.2 36 13)) rfl rfl rfl ly_36 rfl rfl rfl ?_
              refine ev_x (i := .iconst (-1)) (len := 1) (p' := 80) (s' := [.int (-1), .int (gI p_3.2 36 13), .int (gE (p_3.2) 38 (((gI p_3.2 36 6) - 1) : Int32).toNatClampNeg), .int (gE (p_3.2) 37 (((gI p_3.2 36 6) - 1) : Int32).toNatClampNeg), .ref 21, .ref 36]) rfl rfl rfl ?_
              refine ev_x (i := .iconst (-1)) (len := 1) (p' := 81) (s' := [.int (-1), .int (-1), .int (gI p_3.2 36 13), .int (gE (p_3.2) 38 (((gI p_3.2 36 6) - 1) : Int32).toNatClampNeg), .int (gE (p_3.2) 37 (((gI p_3.2 36 6) - 1) : Int32).toNatClampNeg), .ref 21, .ref 36]) rfl rfl rfl ?_
              obtain ⟨p_8, G_8, H⟩ := F_bd H
              refine ev_cv (d := d + 5) (As := [.int (gE (p_3.2) 37 (((gI p_3.2 36 6) - 1) : Int32).toNatClampNeg), .int (gE (p_3.2) 38 (((gI p_3.2 36 6) - 1) : Int32).toNatClampNeg), .int (gI p_3.2 36 13), .int (-1), .int (-1)]) (a := 21) (p' := 84) rfl rfl rfl ly_21 rfl rfl rfl rfl rfl (nb_s1 (nb_s1 hnb rfl) rfl) rfl (F_30_ok (d := d + 0) (ht := (Or.inr rfl))  G_8) ?_
              refine ev_st (st' := [.int p_8.1, .ref 36]) rfl ?_
              have e_8 := F_30_R G_8
              refine ev_pi (p' := 87) rfl rfl rfl ly_36 rfl rfl rfl rfl ?_
              refine ev_x (i := .aload_n 0) (len := 1) (p' := 88) (s' := [.ref 36]) rfl rfl (ld_a (vg_o (i := 4) (v := .int (gE (p_3.2) 38 (((gI p_3.2 36 6) - 1) : Int32).toNatClampNeg)) (vg_o (i := 3) (v := .int (gE (p_3.2) 37 (((gI p_3.2 36 6) - 1) : Int32).toNatClampNeg)) g_0 (by decide) (Or.inl rfl)) (by decide) (Or.inl rfl))) ?_
              refine ev_x (i := .dup) (len := 1) (p' := 89) (s' := [.ref 36, .ref 36]) rfl rfl rfl ?_
              refine ev_gi (p' := 92) (v := (gI p_8.2 36 12)) rfl rfl rfl ly_36 rfl rfl rfl ?_
              refine ev_x (i := .iconst 1) (len := 1) (p' := 93) (s' := [.int 1, .int (gI p_8.2 36 12), .ref 36]) rfl rfl rfl ?_
              refine ev_x (i := .isub) (len := 1) (p' := 94) (s' := [.int ((gI p_8.2 36 12) - 1), .ref 36]) rfl rfl rfl ?_
              refine ev_pi (p' := 97) rfl rfl rfl ly_36 rfl rfl rfl rfl ?_
              refine ev_x (i := .goto 86) (len := 3) (p' := 183) (s' := []) rfl rfl rfl ?_
              refine ev_x (i := .aload_n 0) (len := 1) (p' := 184) (s' := [.ref 36]) rfl rfl (ld_a (vg_o (i := 4) (v := .int (gE (p_3.2) 38 (((gI p_3.2 36 6) - 1) : Int32).toNatClampNeg)) (vg_o (i := 3) (v := .int (gE (p_3.2) 37 (((gI p_3.2 36 6) - 1) : Int32).toNatClampNeg)) g_0 (by decide) (Or.inl rfl)) (by decide) (Or.inl rfl))) ?_
              refine ev_gc (p' := 187) (v := 41) rfl rfl rfl ly_36 rfl rfl ?_
              refine ev_x (i := .aload_n 0) (len := 1) (p' := 188) (s' := [.ref 36, .ref 41]) rfl rfl (ld_a (vg_o (i := 4) (v := .int (gE (p_3.2) 38 (((gI p_3.2 36 6) - 1) : Int32).toNatClampNeg)) (vg_o (i := 3) (v := .int (gE (p_3.2) 37 (((gI p_3.2 36 6) - 1) : Int32).toNatClampNeg)) g_0 (by decide) (Or.inl rfl)) (by decide) (Or.inl rfl))) ?_
              refine ev_gi (p' := 191) (v := (gI p_8.2 36 6)) rfl rfl rfl ly_36 rfl rfl rfl ?_
              obtain ⟨b_9, H⟩ := F_gd H
              refine ev_ga (p' := 192) (v := (gE (p_8.2) 41 ((gI p_8.2 36 6) : Int32).toNatClampNeg)) rfl rfl ly_41 rfl (gd_in b_9) rfl ?_
              refine F_if H (fun c_10 H => ?_) (fun c_10 H => ?_)
              · refine ev_b0 (t := 216) (p' := 216) rfl rfl rfl (if_pos c_10) ?_
                refine ev_x (i := .iinc 2 1) (len := 3) (p' := 219) (s' := []) (l' := vz_s1 (vz_s1 (vz_s1 (lv) 3 (.int (gE (p_3.2) 37 (((gI p_3.2 36 6) - 1) : Int32).toNatClampNeg))) 4 (.int (gE (p_3.2) 38 (((gI p_3.2 36 6) - 1) : Int32).toNatClampNeg))) 2 (.int (l_2 + 1))) rfl rfl (ld_inc (vg_o (i := 4) (v := .int (gE (p_3.2) 38 (((gI p_3.2 36 6) - 1) : Int32).toNatClampNeg)) (vg_o (i := 3) (v := .int (gE (p_3.2) 37 (((gI p_3.2 36 6) - 1) : Int32).toNatClampNeg)) g_2 (by decide) (Or.inl rfl)) (by decide) (Or.inl rfl)) rfl) ?_
                refine ev_x (i := .goto (-217)) (len := 3) (p' := 2) (s' := []) rfl rfl rfl ?_
                exact ih _ _ _ _ _ (vg_o (i := 2) (v := .int (l_2 + 1)) (vg_o (i := 4) (v := .int (gE (p_3.2) 38 (((gI p_3.2 36 6) - 1) : Int32).toNatClampNeg)) (vg_o (i := 3) (v := .int (gE (p_3.2) 37 (((gI p_3.2 36 6) - 1) : Int32).toNatClampNeg)) g_0 (by decide) (Or.inl rfl)) (by decide) (Or.inl rfl)) (by decide) (Or.inl rfl)) (vg_o (i := 2) (v := .int (l_2 + 1)) (vg_o (i := 4) (v := .int (gE (p_3.2) 38 (((gI p_3.2 36 6) - 1) : Int32).toNatClampNeg)) (vg_o (i := 3) (v := .int (gE (p_3.2) 37 (((gI p_3.2 36 6) - 1) : Int32).toNatClampNeg)) g_1 (by decide) (Or.inl rfl)) (by decide) (Or.inl rfl)) (by decide) (Or.inl rfl)) (vg_s (vz_s1 (vz_s1 (lv) 3 (.int (gE (p_3.2) 37 (((gI p_3.2 36 6) - 1) : Int32).toNatClampNeg))) 4 (.int (gE (p_3.2) 38 (((gI p_3.2 36 6) - 1) : Int32).toNatClampNeg))) 2 (.int (l_2 + 1))) (nb_s1 (nb_s1 (nb_s1 hnb rfl) rfl) rfl) ((congrFun (congrFun e_8 36) 7).trans ((congrFun (congrFun e_3 36) 7).trans hr_36_7)) H
              · refine ev_b0 (t := 216) (p' := 195) rfl rfl rfl (if_neg c_10) ?_
                refine ev_x (i := .aload_n 0) (len := 1) (p' := 196) (s' := [.ref 36]) rfl rfl (ld_a (vg_o (i := 4) (v := .int (gE (p_3.2) 38 (((gI p_3.2 36 6) - 1) : Int32).toNatClampNeg)) (vg_o (i := 3) (v := .int (gE (p_3.2) 37 (((gI p_3.2 36 6) - 1) : Int32).toNatClampNeg)) g_0 (by decide) (Or.inl rfl)) (by decide) (Or.inl rfl))) ?_
                refine ev_gr (p' := 199) (v := 21) rfl rfl rfl ly_36 rfl rfl ((congrFun (congrFun e_8 36) 7).trans ((congrFun (congrFun e_3 36) 7).trans hr_36_7)) ?_
                refine ev_gc (p' := 202) (v := 26) rfl rfl rfl ly_21 rfl rfl ?_
                refine ev_x (i := .aload_n 0) (len := 1) (p' := 203) (s' := [.ref 36, .ref 26]) rfl rfl (ld_a (vg_o (i := 4) (v := .int (gE (p_3.2) 38 (((gI p_3.2 36 6) - 1) : Int32).toNatClampNeg)) (vg_o (i := 3) (v := .int (gE (p_3.2) 37 (((gI p_3.2 36 6) - 1) : Int32).toNatClampNeg)) g_0 (by decide) (Or.inl rfl)) (by decide) (Or.inl rfl))) ?_
                refine ev_gc (p' := 206) (v := 41) rfl rfl rfl ly_36 rfl rfl ?_
                refine ev_x (i := .aload_n 0) (len := 1) (p' := 207) (s' := [.ref 36, .ref 41, .ref 26]) rfl rfl (ld_a (vg_o (i := 4) (v := .int (gE (p_3.2) 38 (((gI p_3.2 36 6) - 1) : Int32).toNatClampNeg)) (vg_o (i := 3) (v := .int (gE (p_3.2) 37 (((gI p_3.2 36 6) - 1) : Int32).toNatClampNeg)) g_0 (by decide) (Or.inl rfl)) (by decide) (Or.inl rfl))) ?_
                refine ev_gi (p' := 210) (v := (gI p_8.2 36 6)) rfl rfl rfl ly_36 rfl rfl rfl ?_
                refine ev_ga (p' := 211) (v := (gE (p_8.2) 41 ((gI p_8.2 36 6) : Int32).toNatClampNeg)) rfl rfl ly_41 rfl (gd_in b_9) rfl ?_
                refine ev_x (i := .aload_n 0) (len := 1) (p' := 212) (s' := [.ref 36, .int (gE (p_8.2) 41 ((gI p_8.2 36 6) : Int32).toNatClampNeg), .ref 26]) rfl rfl (ld_a (vg_o (i := 4) (v := .int (gE (p_3.2) 38 (((gI p_3.2 36 6) - 1) : Int32).toNatClampNeg)) (vg_o (i := 3) (v := .int (gE (p_3.2) 37 (((gI p_3.2 36 6) - 1) : Int32).toNatClampNeg)) g_0 (by decide) (Or.inl rfl)) (by decide) (Or.inl rfl))) ?_
                refine ev_gi (p' := 215) (v := p_8.1) rfl rfl rfl ly_36 rfl rfl rfl ?_
                obtain ⟨b_11, H⟩ := F_gd H
                refine ev_pa (j := ((gE (p_8.2) 41 ((gI p_8.2 36 6) : Int32).toNatClampNeg) : Int32).toNatClampNeg) (p' := 216) rfl rfl ly_26 rfl (gd_in b_11) rfl ?_
                refine ev_x (i := .iinc 2 1) (len := 3) (p' := 219) (s' := []) (l' := vz_s1 (vz_s1 (vz_s1 (lv) 3 (.int (gE (p_3.2) 37 (((gI p_3.2 36 6) - 1) : Int32).toNatClampNeg))) 4 (.int (gE (p_3.2) 38 (((gI p_3.2 36 6) - 1) : Int32).toNatClampNeg))) 2 (.int (l_2 + 1))) rfl rfl (ld_inc (vg_o (i := 4) (v := .int (gE (p_3.2) 38 (((gI p_3.2 36 6) - 1) : Int32).toNatClampNeg)) (vg_o (i := 3) (v := .int (gE (p_3.2) 37 (((gI p_3.2 36 6) - 1) : Int32).toNatClampNeg)) g_2 (by decide) (Or.inl rfl)) (by decide) (Or.inl rfl)) rfl) ?_
                refine ev_x (i := .goto (-217)) (len := 3) (p' := 2) (s' := []) rfl rfl rfl ?_
                exact ih _ _ _ _ _ (vg_o (i := 2) (v := .int (l_2 + 1)) (vg_o (i := 4) (v := .int (gE (p_3.2) 38 (((gI p_3.2 36 6) - 1) : Int32).toNatClampNeg)) (vg_o (i := 3) (v := .int (gE (p_3.2) 37 (((gI p_3.2 36 6) - 1) : Int32).toNatClampNeg)) g_0 (by decide) (Or.inl rfl)) (by decide) (Or.inl rfl)) (by decide) (Or.inl rfl)) (vg_o (i := 2) (v := .int (l_2 + 1)) (vg_o (i := 4) (v := .int (gE (p_3.2) 38 (((gI p_3.2 36 6) - 1) : Int32).toNatClampNeg)) (vg_o (i := 3) (v := .int (gE (p_3.2) 37 (((gI p_3.2 36 6) - 1) : Int32).toNatClampNeg)) g_1 (by decide) (Or.inl rfl)) (by decide) (Or.inl rfl)) (by decide) (Or.inl rfl)) (vg_s (vz_s1 (vz_s1 (lv) 3 (.int (gE (p_3.2) 37 (((gI p_3.2 36 6) - 1) : Int32).toNatClampNeg))) 4 (.int (gE (p_3.2) 38 (((gI p_3.2 36 6) - 1) : Int32).toNatClampNeg))) 2 (.int (l_2 + 1))) (nb_s1 (nb_s1 (nb_s1 hnb rfl) rfl) rfl) ((congrFun (congrFun e_8 36) 7).trans ((congrFun (congrFun e_3 36) 7).trans hr_36_7)) H
            · refine ev_b2 (t := 67) (p' := 61) rfl rfl rfl (if_neg c_7) ?_
              refine ev_x (i := .iload_n 3) (len := 1) (p' := 62) (s' := [.int (gE (p_3.2) 37 (((gI p_3.2 36 6) - 1) : Int32).toNatClampNeg)]) rfl rfl (ld_i (vg_o (i := 4) (v := .int (gE (p_3.2) 38 (((gI p_3.2 36 6) - 1) : Int32).toNatClampNeg)) (vg_s (lv) 3 (.int (gE (p_3.2) 37 (((gI p_3.2 36 6) - 1) : Int32).toNatClampNeg))) (by decide) (Or.inl rfl))) ?_
              refine ev_x (i := .bipush 9) (len := 2) (p' := 64) (s' := [.int 9, .int (gE (p_3.2) 37 (((gI p_3.2 36 6) - 1) : Int32).toNatClampNeg)]) rfl rfl rfl ?_
              refine F_if H (fun c_12 H => ?_) (fun c_12 H => ?_)
              · refine ev_b2 (t := 100) (p' := 67) rfl rfl rfl (if_neg (fun q => q c_12)) ?_
                refine ev_x (i := .aload_n 0) (len := 1) (p' := 68) (s' := [.ref 36]) rfl rfl (ld_a (vg_o (i := 4) (v := .int (gE (p_3.2) 38 (((gI p_3.2 36 6) - 1) : Int32).toNatClampNeg)) (vg_o (i := 3) (v := .int (gE (p_3.2) 37 (((gI p_3.2 36 6) - 1) : Int32).toNatClampNeg)) g_0 (by decide) (Or.inl rfl)) (by decide) (Or.inl rfl))) ?_
                refine ev_x (i := .aload_n 0) (len := 1) (p' := 69) (s' := [.ref 36, .ref 36]) rfl rfl (ld_a (vg_o (i := 4) (v := .int (gE (p_3.2) 38 (((gI p_3.2 36 6) - 1) : Int32).toNatClampNeg)) (vg_o (i := 3) (v := .int (gE (p_3.2) 37 (((gI p_3.2 36 6) - 1) : Int32).toNatClampNeg)) g_0 (by decide) (Or.inl rfl)) (by decide) (Or.inl rfl))) ?_
                refine ev_gr (p' := 72) (v := 21) rfl rfl rfl ly_36 rfl rfl ((congrFun (congrFun e_3 36) 7).trans hr_36_7) ?_
                refine ev_x (i := .iload_n 3) (len := 1) (p' := 73) (s' := [.int (gE (p_3.2) 37 (((gI p_3.2 36 6) - 1) : Int32).toNatClampNeg), .ref 21, .ref 36]) rfl rfl (ld_i (vg_o (i := 4) (v := .int (gE (p_3.2) 38 (((gI p_3.2 36 6) - 1) : Int32).toNatClampNeg)) (vg_s (lv) 3 (.int (gE (p_3.2) 37 (((gI p_3.2 36 6) - 1) : Int32).toNatClampNeg))) (by decide) (Or.inl rfl))) ?_
                refine ev_x (i := .iload 4) (len := 2) (p' := 75) (s' := [.int (gE (p_3.2) 38 (((gI p_3.2 36 6) - 1) : Int32).toNatClampNeg), .int (gE (p_3.2) 37 (((gI p_3.2 36 6) - 1) : Int32).toNatClampNeg), .ref 21, .ref 36]) rfl rfl (ld_i (vg_s (vz_s1 (lv) 3 (.int (gE (p_3.2) 37 (((gI p_3.2 36 6) - 1) : Int32).toNatClampNeg))) 4 (.int (gE (p_3.2) 38 (((gI p_3.2 36 6) - 1) : Int32).toNatClampNeg)))) ?_
                refine ev_x (i := .aload_n 0) (len := 1) (p' := 76) (s' := [.ref 36, .int (gE (p_3.2) 38 (((gI p_3.2 36 6) - 1) : Int32).toNatClampNeg), .int (gE (p_3.2) 37 (((gI p_3.2 36 6) - 1) : Int32).toNatClampNeg), .ref 21, .ref 36]) rfl rfl (ld_a (vg_o (i := 4) (v := .int (gE (p_3.2) 38 (((gI p_3.2 36 6) - 1) : Int32).toNatClampNeg)) (vg_o (i := 3) (v := .int (gE (p_3.2) 37 (((gI p_3.2 36 6) - 1) : Int32).toNatClampNeg)) g_0 (by decide) (Or.inl rfl)) (by decide) (Or.inl rfl))) ?_
                refine ev_gi (p' := 79) (v := (gI p_3.2 36 13)) rfl rfl rfl ly_36 rfl rfl rfl ?_
                refine ev_x (i := .iconst (-1)) (len := 1) (p' := 80) (s' := [.int (-1), .int (gI p_3.2 36 13), .int (gE (p_3.2) 38 (((gI p_3.2 36 6) - 1) : Int32).toNatClampNeg), .int (gE (p_3.2) 37 (((gI p_3.2 36 6) - 1) : Int32).toNatClampNeg), .ref 21, .ref 36]) rfl rfl rfl ?_
                refine ev_x (i := .iconst (-1)) (len := 1) (p' := 81) (s' := [.int (-1), .int (-1), .int (gI p_3.2 36 13), .int (gE (p_3.2) 38 (((gI p_3.2 36 6) - 1) : Int32).toNatClampNeg), .int (gE (p_3.2) 37 (((gI p_3.2 36 6) - 1) : Int32).toNatClampNeg), .ref 21, .ref 36]) rfl rfl rfl ?_
                obtain ⟨p_13, G_13, H⟩ := F_bd H
                refine ev_cv (d := d + 5) (As := [.int (gE (p_3.2) 37 (((gI p_3.2 36 6) - 1) : Int32).toNatClampNeg), .int (gE (p_3.2) 38 (((gI p_3.2 36 6) - 1) : Int32).toNatClampNeg), .int (gI p_3.2 36 13), .int (-1), .int (-1)]) (a := 21) (p' := 84) rfl rfl rfl ly_21 rfl rfl rfl rfl rfl (nb_s1 (nb_s1 hnb rfl) rfl) rfl (F_30_ok (d := d + 0) (ht := (Or.inr rfl))  G_13) ?_
                refine ev_st (st' := [.int p_13.1, .ref 36]) rfl ?_
                have e_13 := F_30_R G_13
                refine ev_pi (p' := 87) rfl rfl rfl ly_36 rfl rfl rfl rfl ?_
                refine ev_x (i := .aload_n 0) (len := 1) (p' := 88) (s' := [.ref 36]) rfl rfl (ld_a (vg_o (i := 4) (v := .int (gE (p_3.2) 38 (((gI p_3.2 36 6) - 1) : Int32).toNatClampNeg)) (vg_o (i := 3) (v := .int (gE (p_3.2) 37 (((gI p_3.2 36 6) - 1) : Int32).toNatClampNeg)) g_0 (by decide) (Or.inl rfl)) (by decide) (Or.inl rfl))) ?_
                refine ev_x (i := .dup) (len := 1) (p' := 89) (s' := [.ref 36, .ref 36]) rfl rfl rfl ?_
                refine ev_gi (p' := 92) (v := (gI p_13.2 36 12)) rfl rfl rfl ly_36 rfl rfl rfl ?_
                refine ev_x (i := .iconst 1) (len := 1) (p' := 93) (s' := [.int 1, .int (gI p_13.2 36 12), .ref 36]) rfl rfl rfl ?_
                refine ev_x (i := .isub) (len := 1) (p' := 94) (s' := [.int ((gI p_13.2 36 12) - 1), .ref 36]) rfl rfl rfl ?_
                refine ev_pi (p' := 97) rfl rfl rfl ly_36 rfl rfl rfl rfl ?_
                refine ev_x (i := .goto 86) (len := 3) (p' := 183) (s' := []) rfl rfl rfl ?_
                refine ev_x (i := .aload_n 0) (len := 1) (p' := 184) (s' := [.ref 36]) rfl rfl (ld_a (vg_o (i := 4) (v := .int (gE (p_3.2) 38 (((gI p_3.2 36 6) - 1) : Int32).toNatClampNeg)) (vg_o (i := 3) (v := .int (gE (p_3.2) 37 (((gI p_3.2 36 6) - 1) : Int32).toNatClampNeg)) g_0 (by decide) (Or.inl rfl)) (by decide) (Or.inl rfl))) ?_
                refine ev_gc (p' := 187) (v := 41) rfl rfl rfl ly_36 rfl rfl ?_
                refine ev_x (i := .aload_n 0) (len := 1) (p' := 188) (s' := [.ref 36, .ref 41]) rfl rfl (ld_a (vg_o (i := 4) (v := .int (gE (p_3.2) 38 (((gI p_3.2 36 6) - 1) : Int32).toNatClampNeg)) (vg_o (i := 3) (v := .int (gE (p_3.2) 37 (((gI p_3.2 36 6) - 1) : Int32).toNatClampNeg)) g_0 (by decide) (Or.inl rfl)) (by decide) (Or.inl rfl))) ?_
                refine ev_gi (p' := 191) (v := (gI p_13.2 36 6)) rfl rfl rfl ly_36 rfl rfl rfl ?_
                obtain ⟨b_14, H⟩ := F_gd H
                refine ev_ga (p' := 192) (v := (gE (p_13.2) 41 ((gI p_13.2 36 6) : Int32).toNatClampNeg)) rfl rfl ly_41 rfl (gd_in b_14) rfl ?_
                refine F_if H (fun c_15 H => ?_) (fun c_15 H => ?_)
                · refine ev_b0 (t := 216) (p' := 216) rfl rfl rfl (if_pos c_15) ?_
                  refine ev_x (i := .iinc 2 1) (len := 3) (p' := 219) (s' := []) (l' := vz_s1 (vz_s1 (vz_s1 (lv) 3 (.int (gE (p_3.2) 37 (((gI p_3.2 36 6) - 1) : Int32).toNatClampNeg))) 4 (.int (gE (p_3.2) 38 (((gI p_3.2 36 6) - 1) : Int32).toNatClampNeg))) 2 (.int (l_2 + 1))) rfl rfl (ld_inc (vg_o (i := 4) (v := .int (gE (p_3.2) 38 (((gI p_3.2 36 6) - 1) : Int32).toNatClampNeg)) (vg_o (i := 3) (v := .int (gE (p_3.2) 37 (((gI p_3.2 36 6) - 1) : Int32).toNatClampNeg)) g_2 (by decide) (Or.inl rfl)) (by decide) (Or.inl rfl)) rfl) ?_
                  refine ev_x (i := .goto (-217)) (len := 3) (p' := 2) (s' := []) rfl rfl rfl ?_
                  exact ih _ _ _ _ _ (vg_o (i := 2) (v := .int (l_2 + 1)) (vg_o (i := 4) (v := .int (gE (p_3.2) 38 (((gI p_3.2 36 6) - 1) : Int32).toNatClampNeg)) (vg_o (i := 3) (v := .int (gE (p_3.2) 37 (((gI p_3.2 36 6) - 1) : Int32).toNatClampNeg)) g_0 (by decide) (Or.inl rfl)) (by decide) (Or.inl rfl)) (by decide) (Or.inl rfl)) (vg_o (i := 2) (v := .int (l_2 + 1)) (vg_o (i := 4) (v := .int (gE (p_3.2) 38 (((gI p_3.2 36 6) - 1) : Int32).toNatClampNeg)) (vg_o (i := 3) (v := .int (gE (p_3.2) 37 (((gI p_3.2 36 6) - 1) : Int32).toNatClampNeg)) g_1 (by decide) (Or.inl rfl)) (by decide) (Or.inl rfl)) (by decide) (Or.inl rfl)) (vg_s (vz_s1 (vz_s1 (lv) 3 (.int (gE (p_3.2) 37 (((gI p_3.2 36 6) - 1) : Int32).toNatClampNeg))) 4 (.int (gE (p_3.2) 38 (((gI p_3.2 36 6) - 1) : Int32).toNatClampNeg))) 2 (.int (l_2 + 1))) (nb_s1 (nb_s1 (nb_s1 hnb rfl) rfl) rfl) ((congrFun (congrFun e_13 36) 7).trans ((congrFun (congrFun e_3 36) 7).trans hr_36_7)) H
                · refine ev_b0 (t := 216) (p' := 195) rfl rfl rfl (if_neg c_15) ?_
                  refine ev_x (i := .aload_n 0) (len := 1) (p' := 196) (s' := [.ref 36]) rfl rfl (ld_a (vg_o (i := 4) (v := .int (gE (p_3.2) 38 (((gI p_3.2 36 6) - 1) : Int32).toNatClampNeg)) (vg_o (i := 3) (v := .int (gE (p_3.2) 37 (((gI p_3.2 36 6) - 1) : Int32).toNatClampNeg)) g_0 (by decide) (Or.inl rfl)) (by decide) (Or.inl rfl))) ?_
                  refine ev_gr (p' := 199) (v := 21) rfl rfl rfl ly_36 rfl rfl ((congrFun (congrFun e_13 36) 7).trans ((congrFun (congrFun e_3 36) 7).trans hr_36_7)) ?_
                  refine ev_gc (p' := 202) (v := 26) rfl rfl rfl ly_21 rfl rfl ?_
                  refine ev_x (i := .aload_n 0) (len := 1) (p' := 203) (s' := [.ref 36, .ref 26]) rfl rfl (ld_a (vg_o (i := 4) (v := .int (gE (p_3.2) 38 (((gI p_3.2 36 6) - 1) : Int32).toNatClampNeg)) (vg_o (i := 3) (v := .int (gE (p_3.2) 37 (((gI p_3.2 36 6) - 1) : Int32).toNatClampNeg)) g_0 (by decide) (Or.inl rfl)) (by decide) (Or.inl rfl))) ?_
                  refine ev_gc (p' := 206) (v := 41) rfl rfl rfl ly_36 rfl rfl ?_
                  refine ev_x (i := .aload_n 0) (len := 1) (p' := 207) (s' := [.ref 36, .ref 41, .ref 26]) rfl rfl (ld_a (vg_o (i := 4) (v := .int (gE (p_3.2) 38 (((gI p_3.2 36 6) - 1) : Int32).toNatClampNeg)) (vg_o (i := 3) (v := .int (gE (p_3.2) 37 (((gI p_3.2 36 6) - 1) : Int32).toNatClampNeg)) g_0 (by decide) (Or.inl rfl)) (by decide) (Or.inl rfl))) ?_
                  refine ev_gi (p' := 210) (v := (gI p_13.2 36 6)) rfl rfl rfl ly_36 rfl rfl rfl ?_
                  refine ev_ga (p' := 211) (v := (gE (p_13.2) 41 ((gI p_13.2 36 6) : Int32).toNatClampNeg)) rfl rfl ly_41 rfl (gd_in b_14) rfl ?_
                  refine ev_x (i := .aload_n 0) (len := 1) (p' := 212) (s' := [.ref 36, .int (gE (p_13.2) 41 ((gI p_13.2 36 6) : Int32).toNatClampNeg), .ref 26]) rfl rfl (ld_a (vg_o (i := 4) (v := .int (gE (p_3.2) 38 (((gI p_3.2 36 6) - 1) : Int32).toNatClampNeg)) (vg_o (i := 3) (v := .int (gE (p_3.2) 37 (((gI p_3.2 36 6) - 1) : Int32).toNatClampNeg)) g_0 (by decide) (Or.inl rfl)) (by decide) (Or.inl rfl))) ?_
                  refine ev_gi (p' := 215) (v := p_13.1) rfl rfl rfl ly_36 rfl rfl rfl ?_
                  obtain ⟨b_16, H⟩ := F_gd H
                  refine ev_pa (j := ((gE (p_13.2) 41 ((gI p_13.2 36 6) : Int32).toNatClampNeg) : Int32).toNatClampNeg) (p' := 216) rfl rfl ly_26 rfl (gd_in b_16) rfl ?_
                  refine ev_x (i := .iinc 2 1) (len := 3) (p' := 219) (s' := []) (l' := vz_s1 (vz_s1 (vz_s1 (lv) 3 (.int (gE (p_3.2) 37 (((gI p_3.2 36 6) - 1) : Int32).toNatClampNeg))) 4 (.int (gE (p_3.2) 38 (((gI p_3.2 36 6) - 1) : Int32).toNatClampNeg))) 2 (.int (l_2 + 1))) rfl rfl (ld_inc (vg_o (i := 4) (v := .int (gE (p_3.2) 38 (((gI p_3.2 36 6) - 1) : Int32).toNatClampNeg)) (vg_o (i := 3) (v := .int (gE (p_3.2) 37 (((gI p_3.2 36 6) - 1) : Int32).toNatClampNeg)) g_2 (by decide) (Or.inl rfl)) (by decide) (Or.inl rfl)) rfl) ?_
                  refine ev_x (i := .goto (-217)) (len := 3) (p' := 2) (s' := []) rfl rfl rfl ?_
                  exact ih _ _ _ _ _ (vg_o (i := 2) (v := .int (l_2 + 1)) (vg_o (i := 4) (v := .int (gE (p_3.2) 38 (((gI p_3.2 36 6) - 1) : Int32).toNatClampNeg)) (vg_o (i := 3) (v := .int (gE (p_3.2) 37 (((gI p_3.2 36 6) - 1) : Int32).toNatClampNeg)) g_0 (by decide) (Or.inl rfl)) (by decide) (Or.inl rfl)) (by decide) (Or.inl rfl)) (vg_o (i := 2) (v := .int (l_2 + 1)) (vg_o (i := 4) (v := .int (gE (p_3.2) 38 (((gI p_3.2 36 6) - 1) : Int32).toNatClampNeg)) (vg_o (i := 3) (v := .int (gE (p_3.2) 37 (((gI p_3.2 36 6) - 1) : Int32).toNatClampNeg)) g_1 (by decide) (Or.inl rfl)) (by decide) (Or.inl rfl)) (by decide) (Or.inl rfl)) (vg_s (vz_s1 (vz_s1 (lv) 3 (.int (gE (p_3.2) 37 (((gI p_3.2 36 6) - 1) : Int32).toNatClampNeg))) 4 (.int (gE (p_3.2) 38 (((gI p_3.2 36 6) - 1) : Int32).toNatClampNeg))) 2 (.int (l_2 + 1))) (nb_s1 (nb_s1 (nb_s1 hnb rfl) rfl) rfl) ((congrFun (congrFun e_13 36) 7).trans ((congrFun (congrFun e_3 36) 7).trans hr_36_7)) H
              · refine ev_b2 (t := 100) (p' := 100) rfl rfl rfl (if_pos c_12) ?_
                refine ev_x (i := .iload_n 3) (len := 1) (p' := 101) (s' := [.int (gE (p_3.2) 37 (((gI p_3.2 36 6) - 1) : Int32).toNatClampNeg)]) rfl rfl (ld_i (vg_o (i := 4) (v := .int (gE (p_3.2) 38 (((gI p_3.2 36 6) - 1) : Int32).toNatClampNeg)) (vg_s (lv) 3 (.int (gE (p_3.2) 37 (((gI p_3.2 36 6) - 1) : Int32).toNatClampNeg))) (by decide) (Or.inl rfl))) ?_
                refine ev_x (i := .bipush 19) (len := 2) (p' := 103) (s' := [.int 19, .int (gE (p_3.2) 37 (((gI p_3.2 36 6) - 1) : Int32).toNatClampNeg)]) rfl rfl rfl ?_
                refine F_if H (fun c_17 H => ?_) (fun c_17 H => ?_)
                · refine ev_b2 (t := 155) (p' := 106) rfl rfl rfl (if_neg (fun q => q c_17)) ?_
                  refine ev_x (i := .aload_n 0) (len := 1) (p' := 107) (s' := [.ref 36]) rfl rfl (ld_a (vg_o (i := 4) (v := .int (gE (p_3.2) 38 (((gI p_3.2 36 6) - 1) : Int32).toNatClampNeg)) (vg_o (i := 3) (v := .int (gE (p_3.2) 37 (((gI p_3.2 36 6) - 1) : Int32).toNatClampNeg)) g_0 (by decide) (Or.inl rfl)) (by decide) (Or.inl rfl))) ?_
                  refine ev_x (i := .aload_n 0) (len := 1) (p' := 108) (s' := [.ref 36, .ref 36]) rfl rfl (ld_a (vg_o (i := 4) (v := .int (gE (p_3.2) 38 (((gI p_3.2 36 6) - 1) : Int32).toNatClampNeg)) (vg_o (i := 3) (v := .int (gE (p_3.2) 37 (((gI p_3.2 36 6) - 1) : Int32).toNatClampNeg)) g_0 (by decide) (Or.inl rfl)) (by decide) (Or.inl rfl))) ?_
                  refine ev_gr (p' := 111) (v := 21) rfl rfl rfl ly_36 rfl rfl ((congrFun (congrFun e_3 36) 7).trans hr_36_7) ?_
                  refine ev_x (i := .iload_n 3) (len := 1) (p' := 112) (s' := [.int (gE (p_3.2) 37 (((gI p_3.2 36 6) - 1) : Int32).toNatClampNeg), .ref 21, .ref 36]) rfl rfl (ld_i (vg_o (i := 4) (v := .int (gE (p_3.2) 38 (((gI p_3.2 36 6) - 1) : Int32).toNatClampNeg)) (vg_s (lv) 3 (.int (gE (p_3.2) 37 (((gI p_3.2 36 6) - 1) : Int32).toNatClampNeg))) (by decide) (Or.inl rfl))) ?_
                  refine ev_x (i := .iload 4) (len := 2) (p' := 114) (s' := [.int (gE (p_3.2) 38 (((gI p_3.2 36 6) - 1) : Int32).toNatClampNeg), .int (gE (p_3.2) 37 (((gI p_3.2 36 6) - 1) : Int32).toNatClampNeg), .ref 21, .ref 36]) rfl rfl (ld_i (vg_s (vz_s1 (lv) 3 (.int (gE (p_3.2) 37 (((gI p_3.2 36 6) - 1) : Int32).toNatClampNeg))) 4 (.int (gE (p_3.2) 38 (((gI p_3.2 36 6) - 1) : Int32).toNatClampNeg)))) ?_
                  refine ev_x (i := .aload_n 0) (len := 1) (p' := 115) (s' := [.ref 36, .int (gE (p_3.2) 38 (((gI p_3.2 36 6) - 1) : Int32).toNatClampNeg), .int (gE (p_3.2) 37 (((gI p_3.2 36 6) - 1) : Int32).toNatClampNeg), .ref 21, .ref 36]) rfl rfl (ld_a (vg_o (i := 4) (v := .int (gE (p_3.2) 38 (((gI p_3.2 36 6) - 1) : Int32).toNatClampNeg)) (vg_o (i := 3) (v := .int (gE (p_3.2) 37 (((gI p_3.2 36 6) - 1) : Int32).toNatClampNeg)) g_0 (by decide) (Or.inl rfl)) (by decide) (Or.inl rfl))) ?_
                  refine ev_gc (p' := 118) (v := 39) rfl rfl rfl ly_36 rfl rfl ?_
                  refine ev_x (i := .aload_n 0) (len := 1) (p' := 119) (s' := [.ref 36, .ref 39, .int (gE (p_3.2) 38 (((gI p_3.2 36 6) - 1) : Int32).toNatClampNeg), .int (gE (p_3.2) 37 (((gI p_3.2 36 6) - 1) : Int32).toNatClampNeg), .ref 21, .ref 36]) rfl rfl (ld_a (vg_o (i := 4) (v := .int (gE (p_3.2) 38 (((gI p_3.2 36 6) - 1) : Int32).toNatClampNeg)) (vg_o (i := 3) (v := .int (gE (p_3.2) 37 (((gI p_3.2 36 6) - 1) : Int32).toNatClampNeg)) g_0 (by decide) (Or.inl rfl)) (by decide) (Or.inl rfl))) ?_
                  refine ev_gi (p' := 122) (v := ((gI p_3.2 36 6) - 1)) rfl rfl rfl ly_36 rfl rfl rfl ?_
                  obtain ⟨b_18, H⟩ := F_gd H
                  refine ev_ga (p' := 123) (v := (gE (p_3.2) 39 (((gI p_3.2 36 6) - 1) : Int32).toNatClampNeg)) rfl rfl ly_39 rfl (gd_in b_18) rfl ?_
                  refine ev_x (i := .aload_n 0) (len := 1) (p' := 124) (s' := [.ref 36, .int (gE (p_3.2) 39 (((gI p_3.2 36 6) - 1) : Int32).toNatClampNeg), .int (gE (p_3.2) 38 (((gI p_3.2 36 6) - 1) : Int32).toNatClampNeg), .int (gE (p_3.2) 37 (((gI p_3.2 36 6) - 1) : Int32).toNatClampNeg), .ref 21, .ref 36]) rfl rfl (ld_a (vg_o (i := 4) (v := .int (gE (p_3.2) 38 (((gI p_3.2 36 6) - 1) : Int32).toNatClampNeg)) (vg_o (i := 3) (v := .int (gE (p_3.2) 37 (((gI p_3.2 36 6) - 1) : Int32).toNatClampNeg)) g_0 (by decide) (Or.inl rfl)) (by decide) (Or.inl rfl))) ?_
                  refine ev_gc (p' := 127) (v := 40) rfl rfl rfl ly_36 rfl rfl ?_
                  refine ev_x (i := .aload_n 0) (len := 1) (p' := 128) (s' := [.ref 36, .ref 40, .int (gE (p_3.2) 39 (((gI p_3.2 36 6) - 1) : Int32).toNatClampNeg), .int (gE (p_3.2) 38 (((gI p_3.2 36 6) - 1) : Int32).toNatClampNeg), .int (gE (p_3.2) 37 (((gI p_3.2 36 6) - 1) : Int32).toNatClampNeg), .ref 21, .ref 36]) rfl rfl (ld_a (vg_o (i := 4) (v := .int (gE (p_3.2) 38 (((gI p_3.2 36 6) - 1) : Int32).toNatClampNeg)) (vg_o (i := 3) (v := .int (gE (p_3.2) 37 (((gI p_3.2 36 6) - 1) : Int32).toNatClampNeg)) g_0 (by decide) (Or.inl rfl)) (by decide) (Or.inl rfl))) ?_
                  refine ev_gi (p' := 131) (v := ((gI p_3.2 36 6) - 1)) rfl rfl rfl ly_36 rfl rfl rfl ?_
                  obtain ⟨b_19, H⟩ := F_gd H
                  refine ev_ga (p' := 132) (v := (gE (p_3.2) 40 (((gI p_3.2 36 6) - 1) : Int32).toNatClampNeg)) rfl rfl ly_40 rfl (gd_in b_19) rfl ?_
                  refine ev_x (i := .aload_n 0) (len := 1) (p' := 133) (s' := [.ref 36, .int (gE (p_3.2) 40 (((gI p_3.2 36 6) - 1) : Int32).toNatClampNeg), .int (gE (p_3.2) 39 (((gI p_3.2 36 6) - 1) : Int32).toNatClampNeg), .int (gE (p_3.2) 38 (((gI p_3.2 36 6) - 1) : Int32).toNatClampNeg), .int (gE (p_3.2) 37 (((gI p_3.2 36 6) - 1) : Int32).toNatClampNeg), .ref 21, .ref 36]) rfl rfl (ld_a (vg_o (i := 4) (v := .int (gE (p_3.2) 38 (((gI p_3.2 36 6) - 1) : Int32).toNatClampNeg)) (vg_o (i := 3) (v := .int (gE (p_3.2) 37 (((gI p_3.2 36 6) - 1) : Int32).toNatClampNeg)) g_0 (by decide) (Or.inl rfl)) (by decide) (Or.inl rfl))) ?_
                  refine ev_gi (p' := 136) (v := (gI p_3.2 36 13)) rfl rfl rfl ly_36 rfl rfl rfl ?_
                  obtain ⟨p_20, G_20, H⟩ := F_bd H
                  refine ev_cv (d := d + 5) (As := [.int (gE (p_3.2) 37 (((gI p_3.2 36 6) - 1) : Int32).toNatClampNeg), .int (gE (p_3.2) 38 (((gI p_3.2 36 6) - 1) : Int32).toNatClampNeg), .int (gE (p_3.2) 39 (((gI p_3.2 36 6) - 1) : Int32).toNatClampNeg), .int (gE (p_3.2) 40 (((gI p_3.2 36 6) - 1) : Int32).toNatClampNeg), .int (gI p_3.2 36 13)]) (a := 21) (p' := 139) rfl rfl rfl ly_21 rfl rfl rfl rfl rfl (nb_s1 (nb_s1 hnb rfl) rfl) rfl (F_30_ok (d := d + 0) (ht := (Or.inr rfl))  G_20) ?_
                  refine ev_st (st' := [.int p_20.1, .ref 36]) rfl ?_
                  have e_20 := F_30_R G_20
                  refine ev_pi (p' := 142) rfl rfl rfl ly_36 rfl rfl rfl rfl ?_
                  refine ev_x (i := .aload_n 0) (len := 1) (p' := 143) (s' := [.ref 36]) rfl rfl (ld_a (vg_o (i := 4) (v := .int (gE (p_3.2) 38 (((gI p_3.2 36 6) - 1) : Int32).toNatClampNeg)) (vg_o (i := 3) (v := .int (gE (p_3.2) 37 (((gI p_3.2 36 6) - 1) : Int32).toNatClampNeg)) g_0 (by decide) (Or.inl rfl)) (by decide) (Or.inl rfl))) ?_
                  refine ev_x (i := .dup) (len := 1) (p' := 144) (s' := [.ref 36, .ref 36]) rfl rfl rfl ?_
                  refine ev_gi (p' := 147) (v := (gI p_20.2 36 12)) rfl rfl rfl ly_36 rfl rfl rfl ?_
                  refine ev_x (i := .iconst 1) (len := 1) (p' := 148) (s' := [.int 1, .int (gI p_20.2 36 12), .ref 36]) rfl rfl rfl ?_
                  refine ev_x (i := .isub) (len := 1) (p' := 149) (s' := [.int ((gI p_20.2 36 12) - 1), .ref 36]) rfl rfl rfl ?_
                  refine ev_pi (p' := 152) rfl rfl rfl ly_36 rfl rfl rfl rfl ?_
                  refine ev_x (i := .goto 31) (len := 3) (p' := 183) (s' := []) rfl rfl rfl ?_
                  refine ev_x (i := .aload_n 0) (len := 1) (p' := 184) (s' := [.ref 36]) rfl rfl (ld_a (vg_o (i := 4) (v := .int (gE (p_3.2) 38 (((gI p_3.2 36 6) - 1) : Int32).toNatClampNeg)) (vg_o (i := 3) (v := .int (gE (p_3.2) 37 (((gI p_3.2 36 6) - 1) : Int32).toNatClampNeg)) g_0 (by decide) (Or.inl rfl)) (by decide) (Or.inl rfl))) ?_
                  refine ev_gc (p' := 187) (v := 41) rfl rfl rfl ly_36 rfl rfl ?_
                  refine ev_x (i := .aload_n 0) (len := 1) (p' := 188) (s' := [.ref 36, .ref 41]) rfl rfl (ld_a (vg_o (i := 4) (v := .int (gE (p_3.2) 38 (((gI p_3.2 36 6) - 1) : Int32).toNatClampNeg)) (vg_o (i := 3) (v := .int (gE (p_3.2) 37 (((gI p_3.2 36 6) - 1) : Int32).toNatClampNeg)) g_0 (by decide) (Or.inl rfl)) (by decide) (Or.inl rfl))) ?_
                  refine ev_gi (p' := 191) (v := (gI p_20.2 36 6)) rfl rfl rfl ly_36 rfl rfl rfl ?_
                  obtain ⟨b_21, H⟩ := F_gd H
                  refine ev_ga (p' := 192) (v := (gE (p_20.2) 41 ((gI p_20.2 36 6) : Int32).toNatClampNeg)) rfl rfl ly_41 rfl (gd_in b_21) rfl ?_
                  refine F_if H (fun c_22 H => ?_) (fun c_22 H => ?_)
                  · refine ev_b0 (t := 216) (p' := 216) rfl rfl rfl (if_pos c_22) ?_
                    refine ev_x (i := .iinc 2 1) (len := 3) (p' := 219) (s' := []) (l' := vz_s1 (vz_s1 (vz_s1 (lv) 3 (.int (gE (p_3.2) 37 (((gI p_3.2 36 6) - 1) : Int32).toNatClampNeg))) 4 (.int (gE (p_3.2) 38 (((gI p_3.2 36 6) - 1) : Int32).toNatClampNeg))) 2 (.int (l_2 + 1))) rfl rfl (ld_inc (vg_o (i := 4) (v := .int (gE (p_3.2) 38 (((gI p_3.2 36 6) - 1) : Int32).toNatClampNeg)) (vg_o (i := 3) (v := .int (gE (p_3.2) 37 (((gI p_3.2 36 6) - 1) : Int32).toNatClampNeg)) g_2 (by decide) (Or.inl rfl)) (by decide) (Or.inl rfl)) rfl) ?_
                    refine ev_x (i := .goto (-217)) (len := 3) (p' := 2) (s' := []) rfl rfl rfl ?_
                    exact ih _ _ _ _ _ (vg_o (i := 2) (v := .int (l_2 + 1)) (vg_o (i := 4) (v := .int (gE (p_3.2) 38 (((gI p_3.2 36 6) - 1) : Int32).toNatClampNeg)) (vg_o (i := 3) (v := .int (gE (p_3.2) 37 (((gI p_3.2 36 6) - 1) : Int32).toNatClampNeg)) g_0 (by decide) (Or.inl rfl)) (by decide) (Or.inl rfl)) (by decide) (Or.inl rfl)) (vg_o (i := 2) (v := .int (l_2 + 1)) (vg_o (i := 4) (v := .int (gE (p_3.2) 38 (((gI p_3.2 36 6) - 1) : Int32).toNatClampNeg)) (vg_o (i := 3) (v := .int (gE (p_3.2) 37 (((gI p_3.2 36 6) - 1) : Int32).toNatClampNeg)) g_1 (by decide) (Or.inl rfl)) (by decide) (Or.inl rfl)) (by decide) (Or.inl rfl)) (vg_s (vz_s1 (vz_s1 (lv) 3 (.int (gE (p_3.2) 37 (((gI p_3.2 36 6) - 1) : Int32).toNatClampNeg))) 4 (.int (gE (p_3.2) 38 (((gI p_3.2 36 6) - 1) : Int32).toNatClampNeg))) 2 (.int (l_2 + 1))) (nb_s1 (nb_s1 (nb_s1 hnb rfl) rfl) rfl) ((congrFun (congrFun e_20 36) 7).trans ((congrFun (congrFun e_3 36) 7).trans hr_36_7)) H
                  · refine ev_b0 (t := 216) (p' := 195) rfl rfl rfl (if_neg c_22) ?_
                    refine ev_x (i := .aload_n 0) (len := 1) (p' := 196) (s' := [.ref 36]) rfl rfl (ld_a (vg_o (i := 4) (v := .int (gE (p_3.2) 38 (((gI p_3.2 36 6) - 1) : Int32).toNatClampNeg)) (vg_o (i := 3) (v := .int (gE (p_3.2) 37 (((gI p_3.2 36 6) - 1) : Int32).toNatClampNeg)) g_0 (by decide) (Or.inl rfl)) (by decide) (Or.inl rfl))) ?_
                    refine ev_gr (p' := 199) (v := 21) rfl rfl rfl ly_36 rfl rfl ((congrFun (congrFun e_20 36) 7).trans ((congrFun (congrFun e_3 36) 7).trans hr_36_7)) ?_
                    refine ev_gc (p' := 202) (v := 26) rfl rfl rfl ly_21 rfl rfl ?_
                    refine ev_x (i := .aload_n 0) (len := 1) (p' := 203) (s' := [.ref 36, .ref 26]) rfl rfl (ld_a (vg_o (i := 4) (v := .int (gE (p_3.2) 38 (((gI p_3.2 36 6) - 1) : Int32).toNatClampNeg)) (vg_o (i := 3) (v := .int (gE (p_3.2) 37 (((gI p_3.2 36 6) - 1) : Int32).toNatClampNeg)) g_0 (by decide) (Or.inl rfl)) (by decide) (Or.inl rfl))) ?_
                    refine ev_gc (p' := 206) (v := 41) rfl rfl rfl ly_36 rfl rfl ?_
                    refine ev_x (i := .aload_n 0) (len := 1) (p' := 207) (s' := [.ref 36, .ref 41, .ref 26]) rfl rfl (ld_a (vg_o (i := 4) (v := .int (gE (p_3.2) 38 (((gI p_3.2 36 6) - 1) : Int32).toNatClampNeg)) (vg_o (i := 3) (v := .int (gE (p_3.2) 37 (((gI p_3.2 36 6) - 1) : Int32).toNatClampNeg)) g_0 (by decide) (Or.inl rfl)) (by decide) (Or.inl rfl))) ?_
                    refine ev_gi (p' := 210) (v := (gI p_20.2 36 6)) rfl rfl rfl ly_36 rfl rfl rfl ?_
                    refine ev_ga (p' := 211) (v := (gE (p_20.2) 41 ((gI p_20.2 36 6) : Int32).toNatClampNeg)) rfl rfl ly_41 rfl (gd_in b_21) rfl ?_
                    refine ev_x (i := .aload_n 0) (len := 1) (p' := 212) (s' := [.ref 36, .int (gE (p_20.2) 41 ((gI p_20.2 36 6) : Int32).toNatClampNeg), .ref 26]) rfl rfl (ld_a (vg_o (i := 4) (v := .int (gE (p_3.2) 38 (((gI p_3.2 36 6) - 1) : Int32).toNatClampNeg)) (vg_o (i := 3) (v := .int (gE (p_3.2) 37 (((gI p_3.2 36 6) - 1) : Int32).toNatClampNeg)) g_0 (by decide) (Or.inl rfl)) (by decide) (Or.inl rfl))) ?_
                    refine ev_gi (p' := 215) (v := p_20.1) rfl rfl rfl ly_36 rfl rfl rfl ?_
                    obtain ⟨b_23, H⟩ := F_gd H
                    refine ev_pa (j := ((gE (p_20.2) 41 ((gI p_20.2 36 6) : Int32).toNatClampNeg) : Int32).toNatClampNeg) (p' := 216) rfl rfl ly_26 rfl (gd_in b_23) rfl ?_
                    refine ev_x (i := .iinc 2 1) (len := 3) (p' := 219) (s' := []) (l' := vz_s1 (vz_s1 (vz_s1 (lv) 3 (.int (gE (p_3.2) 37 (((gI p_3.2 36 6) - 1) : Int32).toNatClampNeg))) 4 (.int (gE (p_3.2) 38 (((gI p_3.2 36 6) - 1) : Int32).toNatClampNeg))) 2 (.int (l_2 + 1))) rfl rfl (ld_inc (vg_o (i := 4) (v := .int (gE (p_3.2) 38 (((gI p_3.2 36 6) - 1) : Int32).toNatClampNeg)) (vg_o (i := 3) (v := .int (gE (p_3.2) 37 (((gI p_3.2 36 6) - 1) : Int32).toNatClampNeg)) g_2 (by decide) (Or.inl rfl)) (by decide) (Or.inl rfl)) rfl) ?_
                    refine ev_x (i := .goto (-217)) (len := 3) (p' := 2) (s' := []) rfl rfl rfl ?_
                    exact ih _ _ _ _ _ (vg_o (i := 2) (v := .int (l_2 + 1)) (vg_o (i := 4) (v := .int (gE (p_3.2) 38 (((gI p_3.2 36 6) - 1) : Int32).toNatClampNeg)) (vg_o (i := 3) (v := .int (gE (p_3.2) 37 (((gI p_3.2 36 6) - 1) : Int32).toNatClampNeg)) g_0 (by decide) (Or.inl rfl)) (by decide) (Or.inl rfl)) (by decide) (Or.inl rfl)) (vg_o (i := 2) (v := .int (l_2 + 1)) (vg_o (i := 4) (v := .int (gE (p_3.2) 38 (((gI p_3.2 36 6) - 1) : Int32).toNatClampNeg)) (vg_o (i := 3) (v := .int (gE (p_3.2) 37 (((gI p_3.2 36 6) - 1) : Int32).toNatClampNeg)) g_1 (by decide) (Or.inl rfl)) (by decide) (Or.inl rfl)) (by decide) (Or.inl rfl)) (vg_s (vz_s1 (vz_s1 (lv) 3 (.int (gE (p_3.2) 37 (((gI p_3.2 36 6) - 1) : Int32).toNatClampNeg))) 4 (.int (gE (p_3.2) 38 (((gI p_3.2 36 6) - 1) : Int32).toNatClampNeg))) 2 (.int (l_2 + 1))) (nb_s1 (nb_s1 (nb_s1 hnb rfl) rfl) rfl) ((congrFun (congrFun e_20 36) 7).trans ((congrFun (congrFun e_3 36) 7).trans hr_36_7)) H
                · refine ev_b2 (t := 155) (p' := 155) rfl rfl rfl (if_pos c_17) ?_
                  refine ev_x (i := .aload_n 0) (len := 1) (p' := 156) (s' := [.ref 36]) rfl rfl (ld_a (vg_o (i := 4) (v := .int (gE (p_3.2) 38 (((gI p_3.2 36 6) - 1) : Int32).toNatClampNeg)) (vg_o (i := 3) (v := .int (gE (p_3.2) 37 (((gI p_3.2 36 6) - 1) : Int32).toNatClampNeg)) g_0 (by decide) (Or.inl rfl)) (by decide) (Or.inl rfl))) ?_
                  refine ev_x (i := .aload_n 0) (len := 1) (p' := 157) (s' := [.ref 36, .ref 36]) rfl rfl (ld_a (vg_o (i := 4) (v := .int (gE (p_3.2) 38 (((gI p_3.2 36 6) - 1) : Int32).toNatClampNeg)) (vg_o (i := 3) (v := .int (gE (p_3.2) 37 (((gI p_3.2 36 6) - 1) : Int32).toNatClampNeg)) g_0 (by decide) (Or.inl rfl)) (by decide) (Or.inl rfl))) ?_
                  refine ev_gr (p' := 160) (v := 21) rfl rfl rfl ly_36 rfl rfl ((congrFun (congrFun e_3 36) 7).trans hr_36_7) ?_
                  refine ev_x (i := .iload_n 3) (len := 1) (p' := 161) (s' := [.int (gE (p_3.2) 37 (((gI p_3.2 36 6) - 1) : Int32).toNatClampNeg), .ref 21, .ref 36]) rfl rfl (ld_i (vg_o (i := 4) (v := .int (gE (p_3.2) 38 (((gI p_3.2 36 6) - 1) : Int32).toNatClampNeg)) (vg_s (lv) 3 (.int (gE (p_3.2) 37 (((gI p_3.2 36 6) - 1) : Int32).toNatClampNeg))) (by decide) (Or.inl rfl))) ?_
                  refine ev_x (i := .iload 4) (len := 2) (p' := 163) (s' := [.int (gE (p_3.2) 38 (((gI p_3.2 36 6) - 1) : Int32).toNatClampNeg), .int (gE (p_3.2) 37 (((gI p_3.2 36 6) - 1) : Int32).toNatClampNeg), .ref 21, .ref 36]) rfl rfl (ld_i (vg_s (vz_s1 (lv) 3 (.int (gE (p_3.2) 37 (((gI p_3.2 36 6) - 1) : Int32).toNatClampNeg))) 4 (.int (gE (p_3.2) 38 (((gI p_3.2 36 6) - 1) : Int32).toNatClampNeg)))) ?_
                  refine ev_x (i := .aload_n 0) (len := 1) (p' := 164) (s' := [.ref 36, .int (gE (p_3.2) 38 (((gI p_3.2 36 6) - 1) : Int32).toNatClampNeg), .int (gE (p_3.2) 37 (((gI p_3.2 36 6) - 1) : Int32).toNatClampNeg), .ref 21, .ref 36]) rfl rfl (ld_a (vg_o (i := 4) (v := .int (gE (p_3.2) 38 (((gI p_3.2 36 6) - 1) : Int32).toNatClampNeg)) (vg_o (i := 3) (v := .int (gE (p_3.2) 37 (((gI p_3.2 36 6) - 1) : Int32).toNatClampNeg)) g_0 (by decide) (Or.inl rfl)) (by decide) (Or.inl rfl))) ?_
                  refine ev_gc (p' := 167) (v := 39) rfl rfl rfl ly_36 rfl rfl ?_
                  refine ev_x (i := .aload_n 0) (len := 1) (p' := 168) (s' := [.ref 36, .ref 39, .int (gE (p_3.2) 38 (((gI p_3.2 36 6) - 1) : Int32).toNatClampNeg), .int (gE (p_3.2) 37 (((gI p_3.2 36 6) - 1) : Int32).toNatClampNeg), .ref 21, .ref 36]) rfl rfl (ld_a (vg_o (i := 4) (v := .int (gE (p_3.2) 38 (((gI p_3.2 36 6) - 1) : Int32).toNatClampNeg)) (vg_o (i := 3) (v := .int (gE (p_3.2) 37 (((gI p_3.2 36 6) - 1) : Int32).toNatClampNeg)) g_0 (by decide) (Or.inl rfl)) (by decide) (Or.inl rfl))) ?_
                  refine ev_gi (p' := 171) (v := ((gI p_3.2 36 6) - 1)) rfl rfl rfl ly_36 rfl rfl rfl ?_
                  obtain ⟨b_24, H⟩ := F_gd H
                  refine ev_ga (p' := 172) (v := (gE (p_3.2) 39 (((gI p_3.2 36 6) - 1) : Int32).toNatClampNeg)) rfl rfl ly_39 rfl (gd_in b_24) rfl ?_
                  refine ev_x (i := .aload_n 0) (len := 1) (p' := 173) (s' := [.ref 36, .int (gE (p_3.2) 39 (((gI p_3.2 36 6) - 1) : Int32).toNatClampNeg), .int (gE (p_3.2) 38 (((gI p_3.2 36 6) - 1) : Int32).toNatClampNeg), .int (gE (p_3.2) 37 (((gI p_3.2 36 6) - 1) : Int32).toNatClampNeg), .ref 21, .ref 36]) rfl rfl (ld_a (vg_o (i := 4) (v := .int (gE (p_3.2) 38 (((gI p_3.2 36 6) - 1) : Int32).toNatClampNeg)) (vg_o (i := 3) (v := .int (gE (p_3.2) 37 (((gI p_3.2 36 6) - 1) : Int32).toNatClampNeg)) g_0 (by decide) (Or.inl rfl)) (by decide) (Or.inl rfl))) ?_
                  refine ev_gi (p' := 176) (v := (gI p_3.2 36 13)) rfl rfl rfl ly_36 rfl rfl rfl ?_
                  refine ev_x (i := .iconst (-1)) (len := 1) (p' := 177) (s' := [.int (-1), .int (gI p_3.2 36 13), .int (gE (p_3.2) 39 (((gI p_3.2 36 6) - 1) : Int32).toNatClampNeg), .int (gE (p_3.2) 38 (((gI p_3.2 36 6) - 1) : Int32).toNatClampNeg), .int (gE (p_3.2) 37 (((gI p_3.2 36 6) - 1) : Int32).toNatClampNeg), .ref 21, .ref 36]) rfl rfl rfl ?_
                  obtain ⟨p_25, G_25, H⟩ := F_bd H
                  refine ev_cv (d := d + 5) (As := [.int (gE (p_3.2) 37 (((gI p_3.2 36 6) - 1) : Int32).toNatClampNeg), .int (gE (p_3.2) 38 (((gI p_3.2 36 6) - 1) : Int32).toNatClampNeg), .int (gE (p_3.2) 39 (((gI p_3.2 36 6) - 1) : Int32).toNatClampNeg), .int (gI p_3.2 36 13), .int (-1)]) (a := 21) (p' := 180) rfl rfl rfl ly_21 rfl rfl rfl rfl rfl (nb_s1 (nb_s1 hnb rfl) rfl) rfl (F_30_ok (d := d + 0) (ht := (Or.inr rfl))  G_25) ?_
                  refine ev_st (st' := [.int p_25.1, .ref 36]) rfl ?_
                  have e_25 := F_30_R G_25
                  refine ev_pi (p' := 183) rfl rfl rfl ly_36 rfl rfl rfl rfl ?_
                  refine ev_x (i := .aload_n 0) (len := 1) (p' := 184) (s' := [.ref 36]) rfl rfl (ld_a (vg_o (i := 4) (v := .int (gE (p_3.2) 38 (((gI p_3.2 36 6) - 1) : Int32).toNatClampNeg)) (vg_o (i := 3) (v := .int (gE (p_3.2) 37 (((gI p_3.2 36 6) - 1) : Int32).toNatClampNeg)) g_0 (by decide) (Or.inl rfl)) (by decide) (Or.inl rfl))) ?_
                  refine ev_gc (p' := 187) (v := 41) rfl rfl rfl ly_36 rfl rfl ?_
                  refine ev_x (i := .aload_n 0) (len := 1) (p' := 188) (s' := [.ref 36, .ref 41]) rfl rfl (ld_a (vg_o (i := 4) (v := .int (gE (p_3.2) 38 (((gI p_3.2 36 6) - 1) : Int32).toNatClampNeg)) (vg_o (i := 3) (v := .int (gE (p_3.2) 37 (((gI p_3.2 36 6) - 1) : Int32).toNatClampNeg)) g_0 (by decide) (Or.inl rfl)) (by decide) (Or.inl rfl))) ?_
                  refine ev_gi (p' := 191) (v := (gI p_25.2 36 6)) rfl rfl rfl ly_36 rfl rfl rfl ?_
                  obtain ⟨b_26, H⟩ := F_gd H
                  refine ev_ga (p' := 192) (v := (gE (p_25.2) 41 ((gI p_25.2 36 6) : Int32).toNatClampNeg)) rfl rfl ly_41 rfl (gd_in b_26) rfl ?_
                  refine F_if H (fun c_27 H => ?_) (fun c_27 H => ?_)
                  · refine ev_b0 (t := 216) (p' := 216) rfl rfl rfl (if_pos c_27) ?_
                    refine ev_x (i := .iinc 2 1) (len := 3) (p' := 219) (s' := []) (l' := vz_s1 (vz_s1 (vz_s1 (lv) 3 (.int (gE (p_3.2) 37 (((gI p_3.2 36 6) - 1) : Int32).toNatClampNeg))) 4 (.int (gE (p_3.2) 38 (((gI p_3.2 36 6) - 1) : Int32).toNatClampNeg))) 2 (.int (l_2 + 1))) rfl rfl (ld_inc (vg_o (i := 4) (v := .int (gE (p_3.2) 38 (((gI p_3.2 36 6) - 1) : Int32).toNatClampNeg)) (vg_o (i := 3) (v := .int (gE (p_3.2) 37 (((gI p_3.2 36 6) - 1) : Int32).toNatClampNeg)) g_2 (by decide) (Or.inl rfl)) (by decide) (Or.inl rfl)) rfl) ?_
                    refine ev_x (i := .goto (-217)) (len := 3) (p' := 2) (s' := []) rfl rfl rfl ?_
                    exact ih _ _ _ _ _ (vg_o (i := 2) (v := .int (l_2 + 1)) (vg_o (i := 4) (v := .int (gE (p_3.2) 38 (((gI p_3.2 36 6) - 1) : Int32).toNatClampNeg)) (vg_o (i := 3) (v := .int (gE (p_3.2) 37 (((gI p_3.2 36 6) - 1) : Int32).toNatClampNeg)) g_0 (by decide) (Or.inl rfl)) (by decide) (Or.inl rfl)) (by decide) (Or.inl rfl)) (vg_o (i := 2) (v := .int (l_2 + 1)) (vg_o (i := 4) (v := .int (gE (p_3.2) 38 (((gI p_3.2 36 6) - 1) : Int32).toNatClampNeg)) (vg_o (i := 3) (v := .int (gE (p_3.2) 37 (((gI p_3.2 36 6) - 1) : Int32).toNatClampNeg)) g_1 (by decide) (Or.inl rfl)) (by decide) (Or.inl rfl)) (by decide) (Or.inl rfl)) (vg_s (vz_s1 (vz_s1 (lv) 3 (.int (gE (p_3.2) 37 (((gI p_3.2 36 6) - 1) : Int32).toNatClampNeg))) 4 (.int (gE (p_3.2) 38 (((gI p_3.2 36 6) - 1) : Int32).toNatClampNeg))) 2 (.int (l_2 + 1))) (nb_s1 (nb_s1 (nb_s1 hnb rfl) rfl) rfl) ((congrFun (congrFun e_25 36) 7).trans ((congrFun (congrFun e_3 36) 7).trans hr_36_7)) H
                  · refine ev_b0 (t := 216) (p' := 195) rfl rfl rfl (if_neg c_27) ?_
                    refine ev_x (i := .aload_n 0) (len := 1) (p' := 196) (s' := [.ref 36]) rfl rfl (ld_a (vg_o (i := 4) (v := .int (gE (p_3.2) 38 (((gI p_3.2 36 6) - 1) : Int32).toNatClampNeg)) (vg_o (i := 3) (v := .int (gE (p_3.2) 37 (((gI p_3.2 36 6) - 1) : Int32).toNatClampNeg)) g_0 (by decide) (Or.inl rfl)) (by decide) (Or.inl rfl))) ?_
                    refine ev_gr (p' := 199) (v := 21) rfl rfl rfl ly_36 rfl rfl ((congrFun (congrFun e_25 36) 7).trans ((congrFun (congrFun e_3 36) 7).trans hr_36_7)) ?_
                    refine ev_gc (p' := 202) (v := 26) rfl rfl rfl ly_21 rfl rfl ?_
                    refine ev_x (i := .aload_n 0) (len := 1) (p' := 203) (s' := [.ref 36, .ref 26]) rfl rfl (ld_a (vg_o (i := 4) (v := .int (gE (p_3.2) 38 (((gI p_3.2 36 6) - 1) : Int32).toNatClampNeg)) (vg_o (i := 3) (v := .int (gE (p_3.2) 37 (((gI p_3.2 36 6) - 1) : Int32).toNatClampNeg)) g_0 (by decide) (Or.inl rfl)) (by decide) (Or.inl rfl))) ?_
                    refine ev_gc (p' := 206) (v := 41) rfl rfl rfl ly_36 rfl rfl ?_
                    refine ev_x (i := .aload_n 0) (len := 1) (p' := 207) (s' := [.ref 36, .ref 41, .ref 26]) rfl rfl (ld_a (vg_o (i := 4) (v := .int (gE (p_3.2) 38 (((gI p_3.2 36 6) - 1) : Int32).toNatClampNeg)) (vg_o (i := 3) (v := .int (gE (p_3.2) 37 (((gI p_3.2 36 6) - 1) : Int32).toNatClampNeg)) g_0 (by decide) (Or.inl rfl)) (by decide) (Or.inl rfl))) ?_
                    refine ev_gi (p' := 210) (v := (gI p_25.2 36 6)) rfl rfl rfl ly_36 rfl rfl rfl ?_
                    refine ev_ga (p' := 211) (v := (gE (p_25.2) 41 ((gI p_25.2 36 6) : Int32).toNatClampNeg)) rfl rfl ly_41 rfl (gd_in b_26) rfl ?_
                    refine ev_x (i := .aload_n 0) (len := 1) (p' := 212) (s' := [.ref 36, .int (gE (p_25.2) 41 ((gI p_25.2 36 6) : Int32).toNatClampNeg), .ref 26]) rfl rfl (ld_a (vg_o (i := 4) (v := .int (gE (p_3.2) 38 (((gI p_3.2 36 6) - 1) : Int32).toNatClampNeg)) (vg_o (i := 3) (v := .int (gE (p_3.2) 37 (((gI p_3.2 36 6) - 1) : Int32).toNatClampNeg)) g_0 (by decide) (Or.inl rfl)) (by decide) (Or.inl rfl))) ?_
                    refine ev_gi (p' := 215) (v := p_25.1) rfl rfl rfl ly_36 rfl rfl rfl ?_
                    obtain ⟨b_28, H⟩ := F_gd H
                    refine ev_pa (j := ((gE (p_25.2) 41 ((gI p_25.2 36 6) : Int32).toNatClampNeg) : Int32).toNatClampNeg) (p' := 216) rfl rfl ly_26 rfl (gd_in b_28) rfl ?_
                    refine ev_x (i := .iinc 2 1) (len := 3) (p' := 219) (s' := []) (l' := vz_s1 (vz_s1 (vz_s1 (lv) 3 (.int (gE (p_3.2) 37 (((gI p_3.2 36 6) - 1) : Int32).toNatClampNeg))) 4 (.int (gE (p_3.2) 38 (((gI p_3.2 36 6) - 1) : Int32).toNatClampNeg))) 2 (.int (l_2 + 1))) rfl rfl (ld_inc (vg_o (i := 4) (v := .int (gE (p_3.2) 38 (((gI p_3.2 36 6) - 1) : Int32).toNatClampNeg)) (vg_o (i := 3) (v := .int (gE (p_3.2) 37 (((gI p_3.2 36 6) - 1) : Int32).toNatClampNeg)) g_2 (by decide) (Or.inl rfl)) (by decide) (Or.inl rfl)) rfl) ?_
                    refine ev_x (i := .goto (-217)) (len := 3) (p' := 2) (s' := []) rfl rfl rfl ?_
                    exact ih _ _ _ _ _ (vg_o (i := 2) (v := .int (l_2 + 1)) (vg_o (i := 4) (v := .int (gE (p_3.2) 38 (((gI p_3.2 36 6) - 1) : Int32).toNatClampNeg)) (vg_o (i := 3) (v := .int (gE (p_3.2) 37 (((gI p_3.2 36 6) - 1) : Int32).toNatClampNeg)) g_0 (by decide) (Or.inl rfl)) (by decide) (Or.inl rfl)) (by decide) (Or.inl rfl)) (vg_o (i := 2) (v := .int (l_2 + 1)) (vg_o (i := 4) (v := .int (gE (p_3.2) 38 (((gI p_3.2 36 6) - 1) : Int32).toNatClampNeg)) (vg_o (i := 3) (v := .int (gE (p_3.2) 37 (((gI p_3.2 36 6) - 1) : Int32).toNatClampNeg)) g_1 (by decide) (Or.inl rfl)) (by decide) (Or.inl rfl)) (by decide) (Or.inl rfl)) (vg_s (vz_s1 (vz_s1 (lv) 3 (.int (gE (p_3.2) 37 (((gI p_3.2 36 6) - 1) : Int32).toNatClampNeg))) 4 (.int (gE (p_3.2) 38 (((gI p_3.2 36 6) - 1) : Int32).toNatClampNeg))) 2 (.int (l_2 + 1))) (nb_s1 (nb_s1 (nb_s1 hnb rfl) rfl) rfl) ((congrFun (congrFun e_25 36) 7).trans ((congrFun (congrFun e_3 36) 7).trans hr_36_7)) H
/-- GameText$Parser.build(I)V -/
def F_28 (N : Nat) (t : Nat) (x_1 : Int32) (σ : st_S) : Option (st_S) :=
  L_28 N t N x_1 0 (σ)
set_option maxRecDepth 100000 in
theorem F_28_R {N : Nat} {t : Nat} {x_1 : Int32} {σ : st_S} {p : st_S} (H : F_28 N t x_1 σ = some p) : gR p = gR σ := by
  unfold F_28 at H
  exact (((L_28_R _ _ _ _ _ H)).trans rfl)
set_option maxHeartbeats 4000000 in
set_option maxRecDepth 100000 in
theorem F_28_ok {N d : Nat} {t : Nat} (ht : t = 4 ∨ t = 20) {x_1 : Int32} {σ : st_S} {p : st_S} (hr_36_7 : gR σ 36 7 = (t + 1)) (H : F_28 N t x_1 σ = some p) : vz_ev P0 (d + 6) 28 0 (lv_args 0 [.ref 36, .int x_1]) [] (hp σ) (.inl none, hp p) := by
  unfold F_28 at H
  refine ev_x (i := .iconst 0) (len := 1) (p' := 1) (s' := [.int 0]) rfl rfl rfl ?_
  refine ev_x (i := .istore_n 2) (len := 1) (p' := 2) (s' := []) (l' := [(2, .int 0), (0, .ref 36), (1, .int x_1)]) rfl rfl rfl ?_
  exact (L_28_ok (d := d) ht N) _ _ _ _ _ rfl rfl rfl rfl hr_36_7 H
/-- GameText$Parser.wants(I)Z -/
def F_32 (N : Nat) (x_1 : Int32) (σ : st_S) : Option (Int32 × st_S) :=
  some (1, st_i (σ) 36 8 x_1)
set_option maxRecDepth 100000 in
theorem F_32_R {N : Nat} {x_1 : Int32} {σ : st_S} {p : Int32 × st_S} (H : F_32 N x_1 σ = some p) : gR p.2 = gR σ := by
  unfold F_32 at H
  obtain rfl := Option.some.inj H
  exact rfl
set_option maxHeartbeats 4000000 in
set_option maxRecDepth 100000 in
theorem F_32_ok {N d : Nat} {x_1 : Int32} {σ : st_S} {p : Int32 × st_S}  (H : F_32 N x_1 σ = some p) : vz_ev P0 (d + 1) 32 0 (lv_args 0 [.ref 36, .int x_1]) [] (hp σ) (.inl (some (.int p.1)), hp p.2) := by
  unfold F_32 at H
  refine ev_x (i := .aload_n 0) (len := 1) (p' := 1) (s' := [.ref 36]) rfl rfl rfl ?_
  refine ev_x (i := .iload_n 1) (len := 1) (p' := 2) (s' := [.int x_1, .ref 36]) rfl rfl rfl ?_
  refine ev_pi (p' := 5) rfl rfl rfl ly_36 rfl rfl rfl rfl ?_
  refine ev_x (i := .iconst 1) (len := 1) (p' := 6) (s' := [.int 1]) rfl rfl rfl ?_
  obtain rfl := Option.some.inj H
  exact ev_iret rfl rfl rfl rfl
/-- GameText$Parser.pushes(II)Z -/
def F_31 (N : Nat) (x_1 : Int32) (x_2 : Int32) (σ : st_S) : Option (Int32 × st_S) :=
  if (gI σ 36 6) < 256 then
    if aB (gI σ 36 6) (gN σ 37) then
    if aB (gI σ 36 6) (gN σ 38) then
    if aB (gI σ 36 6) (gN σ 39) then
    if aB (gI σ 36 6) (gN σ 40) then
    if aB (gI σ 36 6) (gN σ 41) then
    (F_32 N 14 (st_i (st_e (st_e (st_e (st_e (st_e (σ) 37 (((gI σ 36 6) : Int32).toNatClampNeg) x_1) 38 (((gI σ 36 6) : Int32).toNatClampNeg) (gI σ 2 4)) 39 (((gI σ 36 6) : Int32).toNatClampNeg) (gI σ 36 13)) 40 (((gI σ 36 6) : Int32).toNatClampNeg) (-1)) 41 (((gI σ 36 6) : Int32).toNatClampNeg) x_2) 36 6 ((gI σ 36 6) + 1))).bind fun p_7 =>
    if (p_7.1 = 0 ∨ p_7.1 = 1) then
    some (p_7.1, p_7.2)
    else none
    else none
    else none
    else none
    else none
    else none
  else
    some (0, σ)
set_option maxRecDepth 100000 in
theorem F_31_R {N : Nat} {x_1 : Int32} {x_2 : Int32} {σ : st_S} {p : Int32 × st_S} (H : F_31 N x_1 x_2 σ = some p) : gR p.2 = gR σ := by
  unfold F_31 at H
  refine F_if H (fun _ H => ?_) (fun _ H => ?_)
  · obtain ⟨_, H⟩ := F_gd H
    obtain ⟨_, H⟩ := F_gd H
    obtain ⟨_, H⟩ := F_gd H
    obtain ⟨_, H⟩ := F_gd H
    obtain ⟨_, H⟩ := F_gd H
    obtain ⟨p_7, G_7, H⟩ := F_bd H
    obtain ⟨_, H⟩ := F_gd H
    obtain rfl := Option.some.inj H
    exact ((F_32_R G_7).trans rfl)
  · obtain rfl := Option.some.inj H
    exact rfl
set_option maxHeartbeats 4000000 in
set_option maxRecDepth 100000 in
theorem F_31_ok {N d : Nat} {x_1 : Int32} {x_2 : Int32} {σ : st_S} {p : Int32 × st_S}  (H : F_31 N x_1 x_2 σ = some p) : vz_ev P0 (d + 2) 31 0 (lv_args 0 [.ref 36, .int x_1, .int x_2]) [] (hp σ) (.inl (some (.int p.1)), hp p.2) := by
  unfold F_31 at H
  refine ev_x (i := .aload_n 0) (len := 1) (p' := 1) (s' := [.ref 36]) rfl rfl rfl ?_
  refine ev_gi (p' := 4) (v := (gI σ 36 6)) rfl rfl rfl ly_36 rfl rfl rfl ?_
  refine ev_x (i := .sipush 256) (len := 3) (p' := 7) (s' := [.int 256, .int (gI σ 36 6)]) rfl rfl rfl ?_
  refine F_if H (fun c_1 H => ?_) (fun c_1 H => ?_)
  · refine ev_b2 (t := 12) (p' := 12) rfl rfl rfl (if_pos c_1) ?_
    refine ev_x (i := .aload_n 0) (len := 1) (p' := 13) (s' := [.ref 36]) rfl rfl rfl ?_
    refine ev_gc (p' := 16) (v := 37) rfl rfl rfl ly_36 rfl rfl ?_
    refine ev_x (i := .aload_n 0) (len := 1) (p' := 17) (s' := [.ref 36, .ref 37]) rfl rfl rfl ?_
    refine ev_gi (p' := 20) (v := (gI σ 36 6)) rfl rfl rfl ly_36 rfl rfl rfl ?_
    refine ev_x (i := .iload_n 1) (len := 1) (p' := 21) (s' := [.int x_1, .int (gI σ 36 6), .ref 37]) rfl rfl rfl ?_
    obtain ⟨b_2, H⟩ := F_gd H
    refine ev_pa (j := ((gI σ 36 6) : Int32).toNatClampNeg) (p' := 22) rfl rfl ly_37 rfl (gd_in b_2) rfl ?_
    refine ev_x (i := .aload_n 0) (len := 1) (p' := 23) (s' := [.ref 36]) rfl rfl rfl ?_
    refine ev_gc (p' := 26) (v := 38) rfl rfl rfl ly_36 rfl rfl ?_
    refine ev_x (i := .aload_n 0) (len := 1) (p' := 27) (s' := [.ref 36, .ref 38]) rfl rfl rfl ?_
    refine ev_gi (p' := 30) (v := (gI σ 36 6)) rfl rfl rfl ly_36 rfl rfl rfl ?_
    refine ev_x (i := .aload_n 0) (len := 1) (p' := 31) (s' := [.ref 36, .int (gI σ 36 6), .ref 38]) rfl rfl rfl ?_
    refine ev_gc (p' := 34) (v := 2) rfl rfl rfl ly_36 rfl rfl ?_
    refine ev_gi (p' := 37) (v := (gI σ 2 4)) rfl rfl rfl ly_2 rfl rfl rfl ?_
    obtain ⟨b_3, H⟩ := F_gd H
    refine ev_pa (j := ((gI σ 36 6) : Int32).toNatClampNeg) (p' := 38) rfl rfl ly_38 rfl (gd_in b_3) rfl ?_
    refine ev_x (i := .aload_n 0) (len := 1) (p' := 39) (s' := [.ref 36]) rfl rfl rfl ?_
    refine ev_gc (p' := 42) (v := 39) rfl rfl rfl ly_36 rfl rfl ?_
    refine ev_x (i := .aload_n 0) (len := 1) (p' := 43) (s' := [.ref 36, .ref 39]) rfl rfl rfl ?_
    refine ev_gi (p' := 46) (v := (gI σ 36 6)) rfl rfl rfl ly_36 rfl rfl rfl ?_
    refine ev_x (i := .aload_n 0) (len := 1) (p' := 47) (s' := [.ref 36, .int (gI σ 36 6), .ref 39]) rfl rfl rfl ?_
    refine ev_gi (p' := 50) (v := (gI σ 36 13)) rfl rfl rfl ly_36 rfl rfl rfl ?_
    obtain ⟨b_4, H⟩ := F_gd H
    refine ev_pa (j := ((gI σ 36 6) : Int32).toNatClampNeg) (p' := 51) rfl rfl ly_39 rfl (gd_in b_4) rfl ?_
    refine ev_x (i := .aload_n 0) (len := 1) (p' := 52) (s' := [.ref 36]) rfl rfl rfl ?_
    refine ev_gc (p' := 55) (v := 40) rfl rfl rfl ly_36 rfl rfl ?_
    refine ev_x (i := .aload_n 0) (len := 1) (p' := 56) (s' := [.ref 36, .ref 40]) rfl rfl rfl ?_
    refine ev_gi (p' := 59) (v := (gI σ 36 6)) rfl rfl rfl ly_36 rfl rfl rfl ?_
    refine ev_x (i := .iconst (-1)) (len := 1) (p' := 60) (s' := [.int (-1), .int (gI σ 36 6), .ref 40]) rfl rfl rfl ?_
    obtain ⟨b_5, H⟩ := F_gd H
    refine ev_pa (j := ((gI σ 36 6) : Int32).toNatClampNeg) (p' := 61) rfl rfl ly_40 rfl (gd_in b_5) rfl ?_
    refine ev_x (i := .aload_n 0) (len := 1) (p' := 62) (s' := [.ref 36]) rfl rfl rfl ?_
    refine ev_gc (p' := 65) (v := 41) rfl rfl rfl ly_36 rfl rfl ?_
    refine ev_x (i := .aload_n 0) (len := 1) (p' := 66) (s' := [.ref 36, .ref 41]) rfl rfl rfl ?_
    refine ev_gi (p' := 69) (v := (gI σ 36 6)) rfl rfl rfl ly_36 rfl rfl rfl ?_
    refine ev_x (i := .iload_n 2) (len := 1) (p' := 70) (s' := [.int x_2, .int (gI σ 36 6), .ref 41]) rfl rfl rfl ?_
    obtain ⟨b_6, H⟩ := F_gd H
    refine ev_pa (j := ((gI σ 36 6) : Int32).toNatClampNeg) (p' := 71) rfl rfl ly_41 rfl (gd_in b_6) rfl ?_
    refine ev_x (i := .aload_n 0) (len := 1) (p' := 72) (s' := [.ref 36]) rfl rfl rfl ?_
    refine ev_x (i := .dup) (len := 1) (p' := 73) (s' := [.ref 36, .ref 36]) rfl rfl rfl ?_
    refine ev_gi (p' := 76) (v := (gI σ 36 6)) rfl rfl rfl ly_36 rfl rfl rfl ?_
    refine ev_x (i := .iconst 1) (len := 1) (p' := 77) (s' := [.int 1, .int (gI σ 36 6), .ref 36]) rfl rfl rfl ?_
    refine ev_x (i := .iadd) (len := 1) (p' := 78) (s' := [.int ((gI σ 36 6) + 1), .ref 36]) rfl rfl rfl ?_
    refine ev_pi (p' := 81) rfl rfl rfl ly_36 rfl rfl rfl rfl ?_
    refine ev_x (i := .aload_n 0) (len := 1) (p' := 82) (s' := [.ref 36]) rfl rfl rfl ?_
    refine ev_x (i := .bipush 14) (len := 2) (p' := 84) (s' := [.int 14, .ref 36]) rfl rfl rfl ?_
    obtain ⟨p_7, G_7, H⟩ := F_bd H
    refine ev_cv (d := d + 1) (As := [.int 14]) (a := 36) (p' := 87) rfl rfl rfl ly_36 rfl rfl rfl rfl rfl rfl rfl (F_32_ok (d := d + 0)   G_7) ?_
    refine ev_st (st' := [.int p_7.1]) rfl ?_
    have e_7 := F_32_R G_7
    obtain ⟨b_8, H⟩ := F_gd H
    obtain rfl := Option.some.inj H
    exact ev_iret rfl rfl rfl (fit_b b_8)
  · refine ev_b2 (t := 12) (p' := 10) rfl rfl rfl (if_neg c_1) ?_
    refine ev_x (i := .iconst 0) (len := 1) (p' := 11) (s' := [.int 0]) rfl rfl rfl ?_
    obtain rfl := Option.some.inj H
    exact ev_iret rfl rfl rfl rfl
/-- GameText$Parser.takesBinary(II)Z -/
def F_27 (N : Nat) (t : Nat) (x_1 : Int32) (x_2 : Int32) (σ : st_S) : Option (Int32 × st_S) :=
  (F_28 N t x_2 (σ)).bind fun p_1 =>
  (F_31 N x_1 (-1) (p_1)).bind fun p_2 =>
  if (p_2.1 = 0 ∨ p_2.1 = 1) then
  some (p_2.1, p_2.2)
  else none
set_option maxRecDepth 100000 in
theorem F_27_R {N : Nat} {t : Nat} {x_1 : Int32} {x_2 : Int32} {σ : st_S} {p : Int32 × st_S} (H : F_27 N t x_1 x_2 σ = some p) : gR p.2 = gR σ := by
  unfold F_27 at H
  obtain ⟨p_1, G_1, H⟩ := F_bd H
  obtain ⟨p_2, G_2, H⟩ := F_bd H
  obtain ⟨_, H⟩ := F_gd H
  obtain rfl := Option.some.inj H
  exact ((F_31_R G_2).trans ((F_28_R G_1).trans rfl))
set_option maxHeartbeats 4000000 in
set_option maxRecDepth 100000 in
theorem F_27_ok {N d : Nat} {t : Nat} (ht : t = 4 ∨ t = 20) {x_1 : Int32} {x_2 : Int32} {σ : st_S} {p : Int32 × st_S} (hr_36_7 : gR σ 36 7 = (t + 1)) (H : F_27 N t x_1 x_2 σ = some p) : vz_ev P0 (d + 7) 27 0 (lv_args 0 [.ref 36, .int x_1, .int x_2]) [] (hp σ) (.inl (some (.int p.1)), hp p.2) := by
  unfold F_27 at H
  refine ev_x (i := .aload_n 0) (len := 1) (p' := 1) (s' := [.ref 36]) rfl rfl rfl ?_
  refine ev_x (i := .iload_n 2) (len := 1) (p' := 2) (s' := [.int x_2, .ref 36]) rfl rfl rfl ?_
  obtain ⟨p_1, G_1, H⟩ := F_bd H
  refine ev_cv (d := d + 6) (As := [.int x_2]) (a := 36) (p' := 5) rfl rfl rfl ly_36 rfl rfl rfl rfl rfl rfl rfl (F_28_ok (d := d + 0) (ht := ht) (hr_36_7 := hr_36_7) G_1) ?_
  refine ev_st (st' := []) rfl ?_
  have e_1 := F_28_R G_1
  refine ev_x (i := .aload_n 0) (len := 1) (p' := 6) (s' := [.ref 36]) rfl rfl rfl ?_
  refine ev_x (i := .iload_n 1) (len := 1) (p' := 7) (s' := [.int x_1, .ref 36]) rfl rfl rfl ?_
  refine ev_x (i := .iconst (-1)) (len := 1) (p' := 8) (s' := [.int (-1), .int x_1, .ref 36]) rfl rfl rfl ?_
  obtain ⟨p_2, G_2, H⟩ := F_bd H
  refine ev_cv (d := d + 6) (As := [.int x_1, .int (-1)]) (a := 36) (p' := 11) rfl rfl rfl ly_36 rfl rfl rfl rfl rfl rfl rfl (F_31_ok (d := d + 4)   G_2) ?_
  refine ev_st (st' := [.int p_2.1]) rfl ?_
  have e_2 := F_31_R G_2
  obtain ⟨b_3, H⟩ := F_gd H
  obtain rfl := Option.some.inj H
  exact ev_iret rfl rfl rfl (fit_b b_3)
/-- GameText$Parser.takesCompare(I)Z -/
def F_33 (N : Nat) (t : Nat) (x_1 : Int32) (σ : st_S) : Option (Int32 × st_S) :=
  (F_28 N t 6 (σ)).bind fun p_1 =>
  (F_29 N (p_1)).bind fun p_2 =>
  if p_2.1 = 5 then
    some (0, p_2.2)
  else
    (F_31 N x_1 (-1) (p_2.2)).bind fun p_4 =>
    some ((if p_4.1 = 0 then 0 else 1 : Int32), p_4.2)
set_option maxRecDepth 100000 in
theorem F_33_R {N : Nat} {t : Nat} {x_1 : Int32} {σ : st_S} {p : Int32 × st_S} (H : F_33 N t x_1 σ = some p) : gR p.2 = gR σ := by
  unfold F_33 at H
  obtain ⟨p_1, G_1, H⟩ := F_bd H
  obtain ⟨p_2, G_2, H⟩ := F_bd H
  refine F_if H (fun _ H => ?_) (fun _ H => ?_)
  · obtain rfl := Option.some.inj H
    exact ((F_29_R G_2).trans ((F_28_R G_1).trans rfl))
  · obtain ⟨p_4, G_4, H⟩ := F_bd H
    obtain rfl := Option.some.inj H
    exact ((F_31_R G_4).trans ((F_29_R G_2).trans ((F_28_R G_1).trans rfl)))
set_option maxHeartbeats 4000000 in
set_option maxRecDepth 100000 in
theorem F_33_ok {N d : Nat} {t : Nat} (ht : t = 4 ∨ t = 20) {x_1 : Int32} {σ : st_S} {p : Int32 × st_S} (hr_36_7 : gR σ 36 7 = (t + 1)) (H : F_33 N t x_1 σ = some p) : vz_ev P0 (d + 7) 33 0 (lv_args 0 [.ref 36, .int x_1]) [] (hp σ) (.inl (some (.int p.1)), hp p.2) := by
  unfold F_33 at H
  refine ev_x (i := .aload_n 0) (len := 1) (p' := 1) (s' := [.ref 36]) rfl rfl rfl ?_
  refine ev_x (i := .bipush 6) (len := 2) (p' := 3) (s' := [.int 6, .ref 36]) rfl rfl rfl ?_
  obtain ⟨p_1, G_1, H⟩ := F_bd H
  refine ev_cv (d := d + 6) (As := [.int 6]) (a := 36) (p' := 6) rfl rfl rfl ly_36 rfl rfl rfl rfl rfl rfl rfl (F_28_ok (d := d + 0) (ht := ht) (hr_36_7 := hr_36_7) G_1) ?_
  refine ev_st (st' := []) rfl ?_
  have e_1 := F_28_R G_1
  refine ev_x (i := .aload_n 0) (len := 1) (p' := 7) (s' := [.ref 36]) rfl rfl rfl ?_
  obtain ⟨p_2, G_2, H⟩ := F_bd H
  refine ev_cv (d := d + 6) (As := []) (a := 36) (p' := 10) rfl rfl rfl ly_36 rfl rfl rfl rfl rfl rfl rfl (F_29_ok (d := d + 5)   G_2) ?_
  refine ev_st (st' := [.int p_2.1]) rfl ?_
  have e_2 := F_29_R G_2
  refine ev_x (i := .iconst 5) (len := 1) (p' := 11) (s' := [.int 5, .int p_2.1]) rfl rfl rfl ?_
  refine F_if H (fun c_3 H => ?_) (fun c_3 H => ?_)
  · refine ev_b2 (t := 27) (p' := 27) rfl rfl rfl (if_pos c_3) ?_
    refine ev_x (i := .iconst 0) (len := 1) (p' := 28) (s' := [.int 0]) rfl rfl rfl ?_
    obtain rfl := Option.some.inj H
    exact ev_iret rfl rfl rfl rfl
  · refine ev_b2 (t := 27) (p' := 14) rfl rfl rfl (if_neg c_3) ?_
    refine ev_x (i := .aload_n 0) (len := 1) (p' := 15) (s' := [.ref 36]) rfl rfl rfl ?_
    refine ev_x (i := .iload_n 1) (len := 1) (p' := 16) (s' := [.int x_1, .ref 36]) rfl rfl rfl ?_
    refine ev_x (i := .iconst (-1)) (len := 1) (p' := 17) (s' := [.int (-1), .int x_1, .ref 36]) rfl rfl rfl ?_
    obtain ⟨p_4, G_4, H⟩ := F_bd H
    refine ev_cv (d := d + 6) (As := [.int x_1, .int (-1)]) (a := 36) (p' := 20) rfl rfl rfl ly_36 rfl rfl rfl rfl rfl rfl rfl (F_31_ok (d := d + 4)   G_4) ?_
    refine ev_st (st' := [.int p_4.1]) rfl ?_
    have e_4 := F_31_R G_4
    refine F_jn (A := vz_ev P0 (d + 7) 33 28 [(0, .ref 36), (1, .int x_1)] [.int (if p_4.1 = 0 then 0 else 1 : Int32)] (hp (p_4.2)) (.inl (some (.int p.1)), hp p.2)) ?_ (fun J => ?_)
    · obtain rfl := Option.some.inj H
      exact ev_iret rfl rfl rfl (fit_b (by (repeat' split) <;> decide))
    · by_cases c_5 : p_4.1 = 0
      · refine ev_b0 (t := 27) (p' := 27) rfl rfl rfl (if_pos c_5) ?_
        refine ev_x (i := .iconst 0) (len := 1) (p' := 28) (s' := [.int 0]) rfl rfl rfl ?_
        exact ev_st (congrArg (fun z => Value.int z :: []) (by rw [if_pos c_5])) J
      · refine ev_b0 (t := 27) (p' := 23) rfl rfl rfl (if_neg c_5) ?_
        refine ev_x (i := .iconst 1) (len := 1) (p' := 24) (s' := [.int 1]) rfl rfl rfl ?_
        refine ev_x (i := .goto 4) (len := 3) (p' := 28) (s' := [.int 1]) rfl rfl rfl ?_
        exact ev_st (congrArg (fun z => Value.int z :: []) (by rw [if_neg c_5])) J
/-- GameText$Parser.takesLogic(III)Z -/
def F_34 (N : Nat) (t : Nat) (x_1 : Int32) (x_2 : Int32) (x_3 : Int32) (σ : st_S) : Option (Int32 × st_S) :=
  (F_28 N t x_2 (σ)).bind fun p_1 =>
  (F_30 N t x_3 (gI p_1 2 4) (gI p_1 36 13) (-1) (-1) (p_1)).bind fun p_2 =>
  (F_31 N x_1 p_2.1 (p_2.2)).bind fun p_3 =>
  if (p_3.1 = 0 ∨ p_3.1 = 1) then
  some (p_3.1, p_3.2)
  else none
set_option maxRecDepth 100000 in
theorem F_34_R {N : Nat} {t : Nat} {x_1 : Int32} {x_2 : Int32} {x_3 : Int32} {σ : st_S} {p : Int32 × st_S} (H : F_34 N t x_1 x_2 x_3 σ = some p) : gR p.2 = gR σ := by
  unfold F_34 at H
  obtain ⟨p_1, G_1, H⟩ := F_bd H
  obtain ⟨p_2, G_2, H⟩ := F_bd H
  obtain ⟨p_3, G_3, H⟩ := F_bd H
  obtain ⟨_, H⟩ := F_gd H
  obtain rfl := Option.some.inj H
  exact ((F_31_R G_3).trans ((F_30_R G_2).trans ((F_28_R G_1).trans rfl)))
set_option maxHeartbeats 4000000 in
set_option maxRecDepth 100000 in
theorem F_34_ok {N d : Nat} {t : Nat} (ht : t = 4 ∨ t = 20) {x_1 : Int32} {x_2 : Int32} {x_3 : Int32} {σ : st_S} {p : Int32 × st_S} (hr_36_7 : gR σ 36 7 = (t + 1)) (H : F_34 N t x_1 x_2 x_3 σ = some p) : vz_ev P0 (d + 7) 34 0 (lv_args 0 [.ref 36, .int x_1, .int x_2, .int x_3]) [] (hp σ) (.inl (some (.int p.1)), hp p.2) := by
  unfold F_34 at H
  rcases ht with rfl | rfl
  · refine ev_x (i := .aload_n 0) (len := 1) (p' := 1) (s' := [.ref 36]) rfl rfl rfl ?_
    refine ev_x (i := .iload_n 2) (len := 1) (p' := 2) (s' := [.int x_2, .ref 36]) rfl rfl rfl ?_
    obtain ⟨p_1, G_1, H⟩ := F_bd H
    refine ev_cv (d := d + 6) (As := [.int x_2]) (a := 36) (p' := 5) rfl rfl rfl ly_36 rfl rfl rfl rfl rfl rfl rfl (F_28_ok (d := d + 0) (ht := (Or.inl rfl)) (hr_36_7 := hr_36_7) G_1) ?_
    refine ev_st (st' := []) rfl ?_
    have e_1 := F_28_R G_1
    refine ev_x (i := .aload_n 0) (len := 1) (p' := 6) (s' := [.ref 36]) rfl rfl rfl ?_
    refine ev_x (i := .iload_n 1) (len := 1) (p' := 7) (s' := [.int x_1, .ref 36]) rfl rfl rfl ?_
    refine ev_x (i := .aload_n 0) (len := 1) (p' := 8) (s' := [.ref 36, .int x_1, .ref 36]) rfl rfl rfl ?_
    refine ev_gr (p' := 11) (v := 5) rfl rfl rfl ly_36 rfl rfl ((congrFun (congrFun e_1 36) 7).trans hr_36_7) ?_
    refine ev_x (i := .iload_n 3) (len := 1) (p' := 12) (s' := [.int x_3, .ref 5, .int x_1, .ref 36]) rfl rfl rfl ?_
    refine ev_x (i := .aload_n 0) (len := 1) (p' := 13) (s' := [.ref 36, .int x_3, .ref 5, .int x_1, .ref 36]) rfl rfl rfl ?_
    refine ev_gc (p' := 16) (v := 2) rfl rfl rfl ly_36 rfl rfl ?_
    refine ev_gi (p' := 19) (v := (gI p_1 2 4)) rfl rfl rfl ly_2 rfl rfl rfl ?_
    refine ev_x (i := .aload_n 0) (len := 1) (p' := 20) (s' := [.ref 36, .int (gI p_1 2 4), .int x_3, .ref 5, .int x_1, .ref 36]) rfl rfl rfl ?_
    refine ev_gi (p' := 23) (v := (gI p_1 36 13)) rfl rfl rfl ly_36 rfl rfl rfl ?_
    refine ev_x (i := .iconst (-1)) (len := 1) (p' := 24) (s' := [.int (-1), .int (gI p_1 36 13), .int (gI p_1 2 4), .int x_3, .ref 5, .int x_1, .ref 36]) rfl rfl rfl ?_
    refine ev_x (i := .iconst (-1)) (len := 1) (p' := 25) (s' := [.int (-1), .int (-1), .int (gI p_1 36 13), .int (gI p_1 2 4), .int x_3, .ref 5, .int x_1, .ref 36]) rfl rfl rfl ?_
    obtain ⟨p_2, G_2, H⟩ := F_bd H
    refine ev_cv (d := d + 6) (As := [.int x_3, .int (gI p_1 2 4), .int (gI p_1 36 13), .int (-1), .int (-1)]) (a := 5) (p' := 28) rfl rfl rfl ly_5 rfl rfl rfl rfl rfl rfl rfl (F_30_ok (d := d + 1) (ht := (Or.inl rfl))  G_2) ?_
    refine ev_st (st' := [.int p_2.1, .int x_1, .ref 36]) rfl ?_
    have e_2 := F_30_R G_2
    obtain ⟨p_3, G_3, H⟩ := F_bd H
    refine ev_cv (d := d + 6) (As := [.int x_1, .int p_2.1]) (a := 36) (p' := 31) rfl rfl rfl ly_36 rfl rfl rfl rfl rfl rfl rfl (F_31_ok (d := d + 4)   G_3) ?_
    refine ev_st (st' := [.int p_3.1]) rfl ?_
    have e_3 := F_31_R G_3
    obtain ⟨b_4, H⟩ := F_gd H
    obtain rfl := Option.some.inj H
    exact ev_iret rfl rfl rfl (fit_b b_4)
  · refine ev_x (i := .aload_n 0) (len := 1) (p' := 1) (s' := [.ref 36]) rfl rfl rfl ?_
    refine ev_x (i := .iload_n 2) (len := 1) (p' := 2) (s' := [.int x_2, .ref 36]) rfl rfl rfl ?_
    obtain ⟨p_1, G_1, H⟩ := F_bd H
    refine ev_cv (d := d + 6) (As := [.int x_2]) (a := 36) (p' := 5) rfl rfl rfl ly_36 rfl rfl rfl rfl rfl rfl rfl (F_28_ok (d := d + 0) (ht := (Or.inr rfl)) (hr_36_7 := hr_36_7) G_1) ?_
    refine ev_st (st' := []) rfl ?_
    have e_1 := F_28_R G_1
    refine ev_x (i := .aload_n 0) (len := 1) (p' := 6) (s' := [.ref 36]) rfl rfl rfl ?_
    refine ev_x (i := .iload_n 1) (len := 1) (p' := 7) (s' := [.int x_1, .ref 36]) rfl rfl rfl ?_
    refine ev_x (i := .aload_n 0) (len := 1) (p' := 8) (s' := [.ref 36, .int x_1, .ref 36]) rfl rfl rfl ?_
    refine ev_gr (p' := 11) (v := 21) rfl rfl rfl ly_36 rfl rfl ((congrFun (congrFun e_1 36) 7).trans hr_36_7) ?_
    refine ev_x (i := .iload_n 3) (len := 1) (p' := 12) (s' := [.int x_3, .ref 21, .int x_1, .ref 36]) rfl rfl rfl ?_
    refine ev_x (i := .aload_n 0) (len := 1) (p' := 13) (s' := [.ref 36, .int x_3, .ref 21, .int x_1, .ref 36]) rfl rfl rfl ?_
    refine ev_gc (p' := 16) (v := 2) rfl rfl rfl ly_36 rfl rfl ?_
    refine ev_gi (p' := 19) (v := (gI p_1 2 4)) rfl rfl rfl ly_2 rfl rfl rfl ?_
    refine ev_x (i := .aload_n 0) (len := 1) (p' := 20) (s' := [.ref 36, .int (gI p_1 2 4), .int x_3, .ref 21, .int x_1, .ref 36]) rfl rfl rfl ?_
    refine ev_gi (p' := 23) (v := (gI p_1 36 13)) rfl rfl rfl ly_36 rfl rfl rfl ?_
    refine ev_x (i := .iconst (-1)) (len := 1) (p' := 24) (s' := [.int (-1), .int (gI p_1 36 13), .int (gI p_1 2 4), .int x_3, .ref 21, .int x_1, .ref 36]) rfl rfl rfl ?_
    refine ev_x (i := .iconst (-1)) (len := 1) (p' := 25) (s' := [.int (-1), .int (-1), .int (gI p_1 36 13), .int (gI p_1 2 4), .int x_3, .ref 21, .int x_1, .ref 36]) rfl rfl rfl ?_
    obtain ⟨p_2, G_2, H⟩ := F_bd H
    refine ev_cv (d := d + 6) (As := [.int x_3, .int (gI p_1 2 4), .int (gI p_1 36 13), .int (-1), .int (-1)]) (a := 21) (p' := 28) rfl rfl rfl ly_21 rfl rfl rfl rfl rfl rfl rfl (F_30_ok (d := d + 1) (ht := (Or.inr rfl))  G_2) ?_
    refine ev_st (st' := [.int p_2.1, .int x_1, .ref 36]) rfl ?_
    have e_2 := F_30_R G_2
    obtain ⟨p_3, G_3, H⟩ := F_bd H
    refine ev_cv (d := d + 6) (As := [.int x_1, .int p_2.1]) (a := 36) (p' := 31) rfl rfl rfl ly_36 rfl rfl rfl rfl rfl rfl rfl (F_31_ok (d := d + 4)   G_3) ?_
    refine ev_st (st' := [.int p_3.1]) rfl ?_
    have e_3 := F_31_R G_3
    obtain ⟨b_4, H⟩ := F_gd H
    obtain rfl := Option.some.inj H
    exact ev_iret rfl rfl rfl (fit_b b_4)
/-- GameText$Parser.deepens()Z -/
def F_36 (N : Nat) (σ : st_S) : Option (Int32 × st_S) :=
  if (gI σ 36 12) < 40 then
    some (1, st_i (σ) 36 12 ((gI σ 36 12) + 1))
  else
    some (0, σ)
set_option maxRecDepth 100000 in
theorem F_36_R {N : Nat} {σ : st_S} {p : Int32 × st_S} (H : F_36 N σ = some p) : gR p.2 = gR σ := by
  unfold F_36 at H
  refine F_if H (fun _ H => ?_) (fun _ H => ?_)
  · obtain rfl := Option.some.inj H
    exact rfl
  · obtain rfl := Option.some.inj H
    exact rfl
set_option maxHeartbeats 4000000 in
set_option maxRecDepth 100000 in
theorem F_36_ok {N d : Nat} {σ : st_S} {p : Int32 × st_S}  (H : F_36 N σ = some p) : vz_ev P0 (d + 1) 36 0 (lv_args 0 [.ref 36]) [] (hp σ) (.inl (some (.int p.1)), hp p.2) := by
  unfold F_36 at H
  refine ev_x (i := .aload_n 0) (len := 1) (p' := 1) (s' := [.ref 36]) rfl rfl rfl ?_
  refine ev_gi (p' := 4) (v := (gI σ 36 12)) rfl rfl rfl ly_36 rfl rfl rfl ?_
  refine ev_x (i := .bipush 40) (len := 2) (p' := 6) (s' := [.int 40, .int (gI σ 36 12)]) rfl rfl rfl ?_
  refine F_if H (fun c_1 H => ?_) (fun c_1 H => ?_)
  · refine ev_b2 (t := 11) (p' := 11) rfl rfl rfl (if_pos c_1) ?_
    refine ev_x (i := .aload_n 0) (len := 1) (p' := 12) (s' := [.ref 36]) rfl rfl rfl ?_
    refine ev_x (i := .dup) (len := 1) (p' := 13) (s' := [.ref 36, .ref 36]) rfl rfl rfl ?_
    refine ev_gi (p' := 16) (v := (gI σ 36 12)) rfl rfl rfl ly_36 rfl rfl rfl ?_
    refine ev_x (i := .iconst 1) (len := 1) (p' := 17) (s' := [.int 1, .int (gI σ 36 12), .ref 36]) rfl rfl rfl ?_
    refine ev_x (i := .iadd) (len := 1) (p' := 18) (s' := [.int ((gI σ 36 12) + 1), .ref 36]) rfl rfl rfl ?_
    refine ev_pi (p' := 21) rfl rfl rfl ly_36 rfl rfl rfl rfl ?_
    refine ev_x (i := .iconst 1) (len := 1) (p' := 22) (s' := [.int 1]) rfl rfl rfl ?_
    obtain rfl := Option.some.inj H
    exact ev_iret rfl rfl rfl rfl
  · refine ev_b2 (t := 11) (p' := 9) rfl rfl rfl (if_neg c_1) ?_
    refine ev_x (i := .iconst 0) (len := 1) (p' := 10) (s' := [.int 0]) rfl rfl rfl ?_
    obtain rfl := Option.some.inj H
    exact ev_iret rfl rfl rfl rfl
/-- GameText$Parser.takesQuestion()Z, from 23 -/
def J_35_23 (N : Nat) (t : Nat) (σ : st_S) : Option (Int32 × st_S) :=
  (F_36 N (σ)).bind fun p_4 =>
  if p_4.1 = 0 then
    some (0, p_4.2)
  else
    (F_30 N t 23 (gI p_4.2 2 4) (gI p_4.2 36 13) (-1) (-1) (p_4.2)).bind fun p_6 =>
    (F_31 N 36 p_6.1 (p_6.2)).bind fun p_7 =>
    some ((if p_7.1 = 0 then 0 else 1 : Int32), p_7.2)
set_option maxRecDepth 100000 in
theorem J_35_23_R {N : Nat} {t : Nat} {σ : st_S} {p : Int32 × st_S} (H : J_35_23 N t σ = some p) : gR p.2 = gR σ := by
  unfold J_35_23 at H
  obtain ⟨p_4, G_4, H⟩ := F_bd H
  refine F_if H (fun _ H => ?_) (fun _ H => ?_)
  · obtain rfl := Option.some.inj H
    exact ((F_36_R G_4).trans rfl)
  · obtain ⟨p_6, G_6, H⟩ := F_bd H
    obtain ⟨p_7, G_7, H⟩ := F_bd H
    obtain rfl := Option.some.inj H
    exact ((F_31_R G_7).trans ((F_30_R G_6).trans ((F_36_R G_4).trans rfl)))
set_option maxHeartbeats 4000000 in
set_option maxRecDepth 100000 in
theorem J_35_23_ok {N d : Nat} {t : Nat} (ht : t = 4 ∨ t = 20) {σ : st_S} {lv : vz_L} {p : Int32 × st_S} (g_0 : vz_g lv 0 = some (.ref 36)) (hnb : vz_nbL (vz_gr P0) lv = true) (hr_36_7 : gR σ 36 7 = (t + 1)) (H : J_35_23 N t σ = some p) : vz_ev P0 (d + 7) 35 23 lv [] (hp σ) (.inl (some (.int p.1)), hp p.2) := by
  unfold J_35_23 at H
  rcases ht with rfl | rfl
  · refine ev_x (i := .aload_n 0) (len := 1) (p' := 24) (s' := [.ref 36]) rfl rfl (ld_a g_0) ?_
    obtain ⟨p_4, G_4, H⟩ := F_bd H
    refine ev_cv (d := d + 6) (As := []) (a := 36) (p' := 27) rfl rfl rfl ly_36 rfl rfl rfl rfl rfl hnb rfl (F_36_ok (d := d + 5)   G_4) ?_
    refine ev_st (st' := [.int p_4.1]) rfl ?_
    have e_4 := F_36_R G_4
    refine F_if H (fun c_5 H => ?_) (fun c_5 H => ?_)
    · refine ev_b0 (t := 65) (p' := 65) rfl rfl rfl (if_pos c_5) ?_
      refine ev_x (i := .iconst 0) (len := 1) (p' := 66) (s' := [.int 0]) rfl rfl rfl ?_
      obtain rfl := Option.some.inj H
      exact ev_iret rfl rfl rfl rfl
    · refine ev_b0 (t := 65) (p' := 30) rfl rfl rfl (if_neg c_5) ?_
      refine ev_x (i := .aload_n 0) (len := 1) (p' := 31) (s' := [.ref 36]) rfl rfl (ld_a g_0) ?_
      refine ev_x (i := .bipush 36) (len := 2) (p' := 33) (s' := [.int 36, .ref 36]) rfl rfl rfl ?_
      refine ev_x (i := .aload_n 0) (len := 1) (p' := 34) (s' := [.ref 36, .int 36, .ref 36]) rfl rfl (ld_a g_0) ?_
      refine ev_gr (p' := 37) (v := 5) rfl rfl rfl ly_36 rfl rfl ((congrFun (congrFun e_4 36) 7).trans hr_36_7) ?_
      refine ev_x (i := .bipush 23) (len := 2) (p' := 39) (s' := [.int 23, .ref 5, .int 36, .ref 36]) rfl rfl rfl ?_
      refine ev_x (i := .aload_n 0) (len := 1) (p' := 40) (s' := [.ref 36, .int 23, .ref 5, .int 36, .ref 36]) rfl rfl (ld_a g_0) ?_
      refine ev_gc (p' := 43) (v := 2) rfl rfl rfl ly_36 rfl rfl ?_
      refine ev_gi (p' := 46) (v := (gI p_4.2 2 4)) rfl rfl rfl ly_2 rfl rfl rfl ?_
      refine ev_x (i := .aload_n 0) (len := 1) (p' := 47) (s' := [.ref 36, .int (gI p_4.2 2 4), .int 23, .ref 5, .int 36, .ref 36]) rfl rfl (ld_a g_0) ?_
      refine ev_gi (p' := 50) (v := (gI p_4.2 36 13)) rfl rfl rfl ly_36 rfl rfl rfl ?_
      refine ev_x (i := .iconst (-1)) (len := 1) (p' := 51) (s' := [.int (-1), .int (gI p_4.2 36 13), .int (gI p_4.2 2 4), .int 23, .ref 5, .int 36, .ref 36]) rfl rfl rfl ?_
      refine ev_x (i := .iconst (-1)) (len := 1) (p' := 52) (s' := [.int (-1), .int (-1), .int (gI p_4.2 36 13), .int (gI p_4.2 2 4), .int 23, .ref 5, .int 36, .ref 36]) rfl rfl rfl ?_
      obtain ⟨p_6, G_6, H⟩ := F_bd H
      refine ev_cv (d := d + 6) (As := [.int 23, .int (gI p_4.2 2 4), .int (gI p_4.2 36 13), .int (-1), .int (-1)]) (a := 5) (p' := 55) rfl rfl rfl ly_5 rfl rfl rfl rfl rfl hnb rfl (F_30_ok (d := d + 1) (ht := (Or.inl rfl))  G_6) ?_
      refine ev_st (st' := [.int p_6.1, .int 36, .ref 36]) rfl ?_
      have e_6 := F_30_R G_6
      obtain ⟨p_7, G_7, H⟩ := F_bd H
      refine ev_cv (d := d + 6) (As := [.int 36, .int p_6.1]) (a := 36) (p' := 58) rfl rfl rfl ly_36 rfl rfl rfl rfl rfl hnb rfl (F_31_ok (d := d + 4)   G_7) ?_
      refine ev_st (st' := [.int p_7.1]) rfl ?_
      have e_7 := F_31_R G_7
      refine F_jn (A := vz_ev P0 (d + 7) 35 66 (lv) [.int (if p_7.1 = 0 then 0 else 1 : Int32)] (hp (p_7.2)) (.inl (some (.int p.1)), hp p.2)) ?_ (fun J => ?_)
      · obtain rfl := Option.some.inj H
        exact ev_iret rfl rfl rfl (fit_b (by (repeat' split) <;> decide))
      · by_cases c_8 : p_7.1 = 0
        · refine ev_b0 (t := 65) (p' := 65) rfl rfl rfl (if_pos c_8) ?_
          refine ev_x (i := .iconst 0) (len := 1) (p' := 66) (s' := [.int 0]) rfl rfl rfl ?_
          exact ev_st (congrArg (fun z => Value.int z :: []) (by rw [if_pos c_8])) J
        · refine ev_b0 (t := 65) (p' := 61) rfl rfl rfl (if_neg c_8) ?_
          refine ev_x (i := .iconst 1) (len := 1) (p' := 62) (s' := [.int 1]) rfl rfl rfl ?_
          refine ev_x (i := .goto 4) (len := 3) (p' := 66) (s' := [.int 1]) rfl rfl rfl ?_
          exact ev_st (congrArg (fun z => Value.int z :: []) (by rw [if_neg c_8])) J
  · refine ev_x (i := .aload_n 0) (len := 1) (p' := 24) (s' := [.ref 36]) rfl rfl (ld_a g_0) ?_
    obtain ⟨p_4, G_4, H⟩ := F_bd H
    refine ev_cv (d := d + 6) (As := []) (a := 36) (p' := 27) rfl rfl rfl ly_36 rfl rfl rfl rfl rfl hnb rfl (F_36_ok (d := d + 5)   G_4) ?_
    refine ev_st (st' := [.int p_4.1]) rfl ?_
    have e_4 := F_36_R G_4
    refine F_if H (fun c_5 H => ?_) (fun c_5 H => ?_)
    · refine ev_b0 (t := 65) (p' := 65) rfl rfl rfl (if_pos c_5) ?_
      refine ev_x (i := .iconst 0) (len := 1) (p' := 66) (s' := [.int 0]) rfl rfl rfl ?_
      obtain rfl := Option.some.inj H
      exact ev_iret rfl rfl rfl rfl
    · refine ev_b0 (t := 65) (p' := 30) rfl rfl rfl (if_neg c_5) ?_
      refine ev_x (i := .aload_n 0) (len := 1) (p' := 31) (s' := [.ref 36]) rfl rfl (ld_a g_0) ?_
      refine ev_x (i := .bipush 36) (len := 2) (p' := 33) (s' := [.int 36, .ref 36]) rfl rfl rfl ?_
      refine ev_x (i := .aload_n 0) (len := 1) (p' := 34) (s' := [.ref 36, .int 36, .ref 36]) rfl rfl (ld_a g_0) ?_
      refine ev_gr (p' := 37) (v := 21) rfl rfl rfl ly_36 rfl rfl ((congrFun (congrFun e_4 36) 7).trans hr_36_7) ?_
      refine ev_x (i := .bipush 23) (len := 2) (p' := 39) (s' := [.int 23, .ref 21, .int 36, .ref 36]) rfl rfl rfl ?_
      refine ev_x (i := .aload_n 0) (len := 1) (p' := 40) (s' := [.ref 36, .int 23, .ref 21, .int 36, .ref 36]) rfl rfl (ld_a g_0) ?_
      refine ev_gc (p' := 43) (v := 2) rfl rfl rfl ly_36 rfl rfl ?_
      refine ev_gi (p' := 46) (v := (gI p_4.2 2 4)) rfl rfl rfl ly_2 rfl rfl rfl ?_
      refine ev_x (i := .aload_n 0) (len := 1) (p' := 47) (s' := [.ref 36, .int (gI p_4.2 2 4), .int 23, .ref 21, .int 36, .ref 36]) rfl rfl (ld_a g_0) ?_
      refine ev_gi (p' := 50) (v := (gI p_4.2 36 13)) rfl rfl rfl ly_36 rfl rfl rfl ?_
      refine ev_x (i := .iconst (-1)) (len := 1) (p' := 51) (s' := [.int (-1), .int (gI p_4.2 36 13), .int (gI p_4.2 2 4), .int 23, .ref 21, .int 36, .ref 36]) rfl rfl rfl ?_
      refine ev_x (i := .iconst (-1)) (len := 1) (p' := 52) (s' := [.int (-1), .int (-1), .int (gI p_4.2 36 13), .int (gI p_4.2 2 4), .int 23, .ref 21, .int 36, .ref 36]) rfl rfl rfl ?_
      obtain ⟨p_6, G_6, H⟩ := F_bd H
      refine ev_cv (d := d + 6) (As := [.int 23, .int (gI p_4.2 2 4), .int (gI p_4.2 36 13), .int (-1), .int (-1)]) (a := 21) (p' := 55) rfl rfl rfl ly_21 rfl rfl rfl rfl rfl hnb rfl (F_30_ok (d := d + 1) (ht := (Or.inr rfl))  G_6) ?_
      refine ev_st (st' := [.int p_6.1, .int 36, .ref 36]) rfl ?_
      have e_6 := F_30_R G_6
      obtain ⟨p_7, G_7, H⟩ := F_bd H
      refine ev_cv (d := d + 6) (As := [.int 36, .int p_6.1]) (a := 36) (p' := 58) rfl rfl rfl ly_36 rfl rfl rfl rfl rfl hnb rfl (F_31_ok (d := d + 4)   G_7) ?_
      refine ev_st (st' := [.int p_7.1]) rfl ?_
      have e_7 := F_31_R G_7
      refine F_jn (A := vz_ev P0 (d + 7) 35 66 (lv) [.int (if p_7.1 = 0 then 0 else 1 : Int32)] (hp (p_7.2)) (.inl (some (.int p.1)), hp p.2)) ?_ (fun J => ?_)
      · obtain rfl := Option.some.inj H
        exact ev_iret rfl rfl rfl (fit_b (by (repeat' split) <;> decide))
      · by_cases c_8 : p_7.1 = 0
        · refine ev_b0 (t := 65) (p' := 65) rfl rfl rfl (if_pos c_8) ?_
          refine ev_x (i := .iconst 0) (len := 1) (p' := 66) (s' := [.int 0]) rfl rfl rfl ?_
          exact ev_st (congrArg (fun z => Value.int z :: []) (by rw [if_pos c_8])) J
        · refine ev_b0 (t := 65) (p' := 61) rfl rfl rfl (if_neg c_8) ?_
          refine ev_x (i := .iconst 1) (len := 1) (p' := 62) (s' := [.int 1]) rfl rfl rfl ?_
          refine ev_x (i := .goto 4) (len := 3) (p' := 66) (s' := [.int 1]) rfl rfl rfl ?_
          exact ev_st (congrArg (fun z => Value.int z :: []) (by rw [if_neg c_8])) J
/-- GameText$Parser.takesQuestion()Z -/
def F_35 (N : Nat) (t : Nat) (σ : st_S) : Option (Int32 × st_S) :=
  (F_28 N t 2 (σ)).bind fun p_1 =>
  if (gI p_1 36 6) = 0 then
    if (gI p_1 36 9) = 6 then
      some (0, p_1)
    else
      J_35_23 N t (p_1)
  else
    J_35_23 N t (p_1)
set_option maxRecDepth 100000 in
theorem F_35_R {N : Nat} {t : Nat} {σ : st_S} {p : Int32 × st_S} (H : F_35 N t σ = some p) : gR p.2 = gR σ := by
  unfold F_35 at H
  obtain ⟨p_1, G_1, H⟩ := F_bd H
  refine F_if H (fun _ H => ?_) (fun _ H => ?_)
  · refine F_if H (fun _ H => ?_) (fun _ H => ?_)
    · obtain rfl := Option.some.inj H
      exact ((F_28_R G_1).trans rfl)
    · exact (((J_35_23_R H)).trans ((F_28_R G_1).trans rfl))
  · exact (((J_35_23_R H)).trans ((F_28_R G_1).trans rfl))
set_option maxHeartbeats 4000000 in
set_option maxRecDepth 100000 in
theorem F_35_ok {N d : Nat} {t : Nat} (ht : t = 4 ∨ t = 20) {σ : st_S} {p : Int32 × st_S} (hr_36_7 : gR σ 36 7 = (t + 1)) (H : F_35 N t σ = some p) : vz_ev P0 (d + 7) 35 0 (lv_args 0 [.ref 36]) [] (hp σ) (.inl (some (.int p.1)), hp p.2) := by
  unfold F_35 at H
  refine ev_x (i := .aload_n 0) (len := 1) (p' := 1) (s' := [.ref 36]) rfl rfl rfl ?_
  refine ev_x (i := .iconst 2) (len := 1) (p' := 2) (s' := [.int 2, .ref 36]) rfl rfl rfl ?_
  obtain ⟨p_1, G_1, H⟩ := F_bd H
  refine ev_cv (d := d + 6) (As := [.int 2]) (a := 36) (p' := 5) rfl rfl rfl ly_36 rfl rfl rfl rfl rfl rfl rfl (F_28_ok (d := d + 0) (ht := ht) (hr_36_7 := hr_36_7) G_1) ?_
  refine ev_st (st' := []) rfl ?_
  have e_1 := F_28_R G_1
  refine ev_x (i := .aload_n 0) (len := 1) (p' := 6) (s' := [.ref 36]) rfl rfl rfl ?_
  refine ev_gi (p' := 9) (v := (gI p_1 36 6)) rfl rfl rfl ly_36 rfl rfl rfl ?_
  refine F_if H (fun c_2 H => ?_) (fun c_2 H => ?_)
  · refine ev_b0 (t := 23) (p' := 12) rfl rfl rfl (if_neg (fun q => q c_2)) ?_
    refine ev_x (i := .aload_n 0) (len := 1) (p' := 13) (s' := [.ref 36]) rfl rfl rfl ?_
    refine ev_gi (p' := 16) (v := (gI p_1 36 9)) rfl rfl rfl ly_36 rfl rfl rfl ?_
    refine ev_x (i := .bipush 6) (len := 2) (p' := 18) (s' := [.int 6, .int (gI p_1 36 9)]) rfl rfl rfl ?_
    refine F_if H (fun c_3 H => ?_) (fun c_3 H => ?_)
    · refine ev_b2 (t := 23) (p' := 21) rfl rfl rfl (if_neg (fun q => q c_3)) ?_
      refine ev_x (i := .iconst 0) (len := 1) (p' := 22) (s' := [.int 0]) rfl rfl rfl ?_
      obtain rfl := Option.some.inj H
      exact ev_iret rfl rfl rfl rfl
    · refine ev_b2 (t := 23) (p' := 23) rfl rfl rfl (if_pos c_3) ?_
      exact J_35_23_ok (d := d) ht rfl rfl ((congrFun (congrFun e_1 36) 7).trans hr_36_7) H
  · refine ev_b0 (t := 23) (p' := 23) rfl rfl rfl (if_pos c_2) ?_
    exact J_35_23_ok (d := d) ht rfl rfl ((congrFun (congrFun e_1 36) 7).trans hr_36_7) H
/-- GameText$Parser.opensRule(I)Z -/
def F_39 (N : Nat) (t : Nat) (x_1 : Int32) (σ : st_S) : Option (Int32 × st_S) :=
  some (1, st_i (st_i (st_i (st_i (st_i (st_i (σ) 36 9 x_1) 36 10 (-1)) 36 11 (gI σ (t + 1) 8)) 36 6 0) 36 12 (if x_1 = 7 then 1 else 0 : Int32)) 36 8 14)
set_option maxRecDepth 100000 in
theorem F_39_R {N : Nat} {t : Nat} {x_1 : Int32} {σ : st_S} {p : Int32 × st_S} (H : F_39 N t x_1 σ = some p) : gR p.2 = gR σ := by
  unfold F_39 at H
  obtain rfl := Option.some.inj H
  exact rfl
set_option maxHeartbeats 4000000 in
set_option maxRecDepth 100000 in
theorem F_39_ok {N d : Nat} {t : Nat} (ht : t = 4 ∨ t = 20) {x_1 : Int32} {σ : st_S} {p : Int32 × st_S} (hr_36_7 : gR σ 36 7 = (t + 1)) (H : F_39 N t x_1 σ = some p) : vz_ev P0 (d + 1) 39 0 (lv_args 0 [.ref 36, .int x_1]) [] (hp σ) (.inl (some (.int p.1)), hp p.2) := by
  unfold F_39 at H
  rcases ht with rfl | rfl
  · refine ev_x (i := .aload_n 0) (len := 1) (p' := 1) (s' := [.ref 36]) rfl rfl rfl ?_
    refine ev_x (i := .iload_n 1) (len := 1) (p' := 2) (s' := [.int x_1, .ref 36]) rfl rfl rfl ?_
    refine ev_pi (p' := 5) rfl rfl rfl ly_36 rfl rfl rfl rfl ?_
    refine ev_x (i := .aload_n 0) (len := 1) (p' := 6) (s' := [.ref 36]) rfl rfl rfl ?_
    refine ev_x (i := .iconst (-1)) (len := 1) (p' := 7) (s' := [.int (-1), .ref 36]) rfl rfl rfl ?_
    refine ev_pi (p' := 10) rfl rfl rfl ly_36 rfl rfl rfl rfl ?_
    refine ev_x (i := .aload_n 0) (len := 1) (p' := 11) (s' := [.ref 36]) rfl rfl rfl ?_
    refine ev_x (i := .aload_n 0) (len := 1) (p' := 12) (s' := [.ref 36, .ref 36]) rfl rfl rfl ?_
    refine ev_gr (p' := 15) (v := 5) rfl rfl rfl ly_36 rfl rfl hr_36_7 ?_
    refine ev_gi (p' := 18) (v := (gI σ 5 8)) rfl rfl rfl ly_5 rfl rfl rfl ?_
    refine ev_pi (p' := 21) rfl rfl rfl ly_36 rfl rfl rfl rfl ?_
    refine ev_x (i := .aload_n 0) (len := 1) (p' := 22) (s' := [.ref 36]) rfl rfl rfl ?_
    refine ev_x (i := .iconst 0) (len := 1) (p' := 23) (s' := [.int 0, .ref 36]) rfl rfl rfl ?_
    refine ev_pi (p' := 26) rfl rfl rfl ly_36 rfl rfl rfl rfl ?_
    refine ev_x (i := .aload_n 0) (len := 1) (p' := 27) (s' := [.ref 36]) rfl rfl rfl ?_
    refine ev_x (i := .iload_n 1) (len := 1) (p' := 28) (s' := [.int x_1, .ref 36]) rfl rfl rfl ?_
    refine ev_x (i := .bipush 7) (len := 2) (p' := 30) (s' := [.int 7, .int x_1, .ref 36]) rfl rfl rfl ?_
    refine F_jn (A := vz_ev P0 (d + 1) 39 38 [(0, .ref 36), (1, .int x_1)] [.int (if x_1 = 7 then 1 else 0 : Int32), .ref 36] (hp (st_i (st_i (st_i (st_i (σ) 36 9 x_1) 36 10 (-1)) 36 11 (gI σ 5 8)) 36 6 0)) (.inl (some (.int p.1)), hp p.2)) ?_ (fun J => ?_)
    · refine ev_pi (p' := 41) rfl rfl rfl ly_36 rfl rfl rfl rfl ?_
      refine ev_x (i := .aload_n 0) (len := 1) (p' := 42) (s' := [.ref 36]) rfl rfl rfl ?_
      refine ev_x (i := .bipush 14) (len := 2) (p' := 44) (s' := [.int 14, .ref 36]) rfl rfl rfl ?_
      refine ev_pi (p' := 47) rfl rfl rfl ly_36 rfl rfl rfl rfl ?_
      refine ev_x (i := .iconst 1) (len := 1) (p' := 48) (s' := [.int 1]) rfl rfl rfl ?_
      obtain rfl := Option.some.inj H
      exact ev_iret rfl rfl rfl rfl
    · by_cases c_1 : x_1 = 7
      · refine ev_b2 (t := 37) (p' := 33) rfl rfl rfl (if_neg (fun q => q c_1)) ?_
        refine ev_x (i := .iconst 1) (len := 1) (p' := 34) (s' := [.int 1, .ref 36]) rfl rfl rfl ?_
        refine ev_x (i := .goto 4) (len := 3) (p' := 38) (s' := [.int 1, .ref 36]) rfl rfl rfl ?_
        exact ev_st (congrArg (fun z => Value.int z :: [.ref 36]) (by rw [if_pos c_1])) J
      · refine ev_b2 (t := 37) (p' := 37) rfl rfl rfl (if_pos c_1) ?_
        refine ev_x (i := .iconst 0) (len := 1) (p' := 38) (s' := [.int 0, .ref 36]) rfl rfl rfl ?_
        exact ev_st (congrArg (fun z => Value.int z :: [.ref 36]) (by rw [if_neg c_1])) J
  · refine ev_x (i := .aload_n 0) (len := 1) (p' := 1) (s' := [.ref 36]) rfl rfl rfl ?_
    refine ev_x (i := .iload_n 1) (len := 1) (p' := 2) (s' := [.int x_1, .ref 36]) rfl rfl rfl ?_
    refine ev_pi (p' := 5) rfl rfl rfl ly_36 rfl rfl rfl rfl ?_
    refine ev_x (i := .aload_n 0) (len := 1) (p' := 6) (s' := [.ref 36]) rfl rfl rfl ?_
    refine ev_x (i := .iconst (-1)) (len := 1) (p' := 7) (s' := [.int (-1), .ref 36]) rfl rfl rfl ?_
    refine ev_pi (p' := 10) rfl rfl rfl ly_36 rfl rfl rfl rfl ?_
    refine ev_x (i := .aload_n 0) (len := 1) (p' := 11) (s' := [.ref 36]) rfl rfl rfl ?_
    refine ev_x (i := .aload_n 0) (len := 1) (p' := 12) (s' := [.ref 36, .ref 36]) rfl rfl rfl ?_
    refine ev_gr (p' := 15) (v := 21) rfl rfl rfl ly_36 rfl rfl hr_36_7 ?_
    refine ev_gi (p' := 18) (v := (gI σ 21 8)) rfl rfl rfl ly_21 rfl rfl rfl ?_
    refine ev_pi (p' := 21) rfl rfl rfl ly_36 rfl rfl rfl rfl ?_
    refine ev_x (i := .aload_n 0) (len := 1) (p' := 22) (s' := [.ref 36]) rfl rfl rfl ?_
    refine ev_x (i := .iconst 0) (len := 1) (p' := 23) (s' := [.int 0, .ref 36]) rfl rfl rfl ?_
    refine ev_pi (p' := 26) rfl rfl rfl ly_36 rfl rfl rfl rfl ?_
    refine ev_x (i := .aload_n 0) (len := 1) (p' := 27) (s' := [.ref 36]) rfl rfl rfl ?_
    refine ev_x (i := .iload_n 1) (len := 1) (p' := 28) (s' := [.int x_1, .ref 36]) rfl rfl rfl ?_
    refine ev_x (i := .bipush 7) (len := 2) (p' := 30) (s' := [.int 7, .int x_1, .ref 36]) rfl rfl rfl ?_
    refine F_jn (A := vz_ev P0 (d + 1) 39 38 [(0, .ref 36), (1, .int x_1)] [.int (if x_1 = 7 then 1 else 0 : Int32), .ref 36] (hp (st_i (st_i (st_i (st_i (σ) 36 9 x_1) 36 10 (-1)) 36 11 (gI σ 21 8)) 36 6 0)) (.inl (some (.int p.1)), hp p.2)) ?_ (fun J => ?_)
    · refine ev_pi (p' := 41) rfl rfl rfl ly_36 rfl rfl rfl rfl ?_
      refine ev_x (i := .aload_n 0) (len := 1) (p' := 42) (s' := [.ref 36]) rfl rfl rfl ?_
      refine ev_x (i := .bipush 14) (len := 2) (p' := 44) (s' := [.int 14, .ref 36]) rfl rfl rfl ?_
      refine ev_pi (p' := 47) rfl rfl rfl ly_36 rfl rfl rfl rfl ?_
      refine ev_x (i := .iconst 1) (len := 1) (p' := 48) (s' := [.int 1]) rfl rfl rfl ?_
      obtain rfl := Option.some.inj H
      exact ev_iret rfl rfl rfl rfl
    · by_cases c_1 : x_1 = 7
      · refine ev_b2 (t := 37) (p' := 33) rfl rfl rfl (if_neg (fun q => q c_1)) ?_
        refine ev_x (i := .iconst 1) (len := 1) (p' := 34) (s' := [.int 1, .ref 36]) rfl rfl rfl ?_
        refine ev_x (i := .goto 4) (len := 3) (p' := 38) (s' := [.int 1, .ref 36]) rfl rfl rfl ?_
        exact ev_st (congrArg (fun z => Value.int z :: [.ref 36]) (by rw [if_pos c_1])) J
      · refine ev_b2 (t := 37) (p' := 37) rfl rfl rfl (if_pos c_1) ?_
        refine ev_x (i := .iconst 0) (len := 1) (p' := 38) (s' := [.int 0, .ref 36]) rfl rfl rfl ?_
        exact ev_st (congrArg (fun z => Value.int z :: [.ref 36]) (by rw [if_neg c_1])) J
/-- GameText$Parser.finishes()Z -/
def F_40 (N : Nat) (t : Nat) (σ : st_S) : Option (Int32 × st_S) :=
  (F_30 N t 34 (gI σ 2 4) (-1) (-1) (-1) (σ)).bind fun p_1 =>
  (F_32 N 0 (p_1.2)).bind fun p_2 =>
  if (p_2.1 = 0 ∨ p_2.1 = 1) then
  some (p_2.1, p_2.2)
  else none
set_option maxRecDepth 100000 in
theorem F_40_R {N : Nat} {t : Nat} {σ : st_S} {p : Int32 × st_S} (H : F_40 N t σ = some p) : gR p.2 = gR σ := by
  unfold F_40 at H
  obtain ⟨p_1, G_1, H⟩ := F_bd H
  obtain ⟨p_2, G_2, H⟩ := F_bd H
  obtain ⟨_, H⟩ := F_gd H
  obtain rfl := Option.some.inj H
  exact ((F_32_R G_2).trans ((F_30_R G_1).trans rfl))
set_option maxHeartbeats 4000000 in
set_option maxRecDepth 100000 in
theorem F_40_ok {N d : Nat} {t : Nat} (ht : t = 4 ∨ t = 20) {σ : st_S} {p : Int32 × st_S} (hr_36_7 : gR σ 36 7 = (t + 1)) (H : F_40 N t σ = some p) : vz_ev P0 (d + 6) 40 0 (lv_args 0 [.ref 36]) [] (hp σ) (.inl (some (.int p.1)), hp p.2) := by
  unfold F_40 at H
  rcases ht with rfl | rfl
  · refine ev_x (i := .aload_n 0) (len := 1) (p' := 1) (s' := [.ref 36]) rfl rfl rfl ?_
    refine ev_gr (p' := 4) (v := 5) rfl rfl rfl ly_36 rfl rfl hr_36_7 ?_
    refine ev_x (i := .bipush 34) (len := 2) (p' := 6) (s' := [.int 34, .ref 5]) rfl rfl rfl ?_
    refine ev_x (i := .aload_n 0) (len := 1) (p' := 7) (s' := [.ref 36, .int 34, .ref 5]) rfl rfl rfl ?_
    refine ev_gc (p' := 10) (v := 2) rfl rfl rfl ly_36 rfl rfl ?_
    refine ev_gi (p' := 13) (v := (gI σ 2 4)) rfl rfl rfl ly_2 rfl rfl rfl ?_
    refine ev_x (i := .iconst (-1)) (len := 1) (p' := 14) (s' := [.int (-1), .int (gI σ 2 4), .int 34, .ref 5]) rfl rfl rfl ?_
    refine ev_x (i := .iconst (-1)) (len := 1) (p' := 15) (s' := [.int (-1), .int (-1), .int (gI σ 2 4), .int 34, .ref 5]) rfl rfl rfl ?_
    refine ev_x (i := .iconst (-1)) (len := 1) (p' := 16) (s' := [.int (-1), .int (-1), .int (-1), .int (gI σ 2 4), .int 34, .ref 5]) rfl rfl rfl ?_
    obtain ⟨p_1, G_1, H⟩ := F_bd H
    refine ev_cv (d := d + 5) (As := [.int 34, .int (gI σ 2 4), .int (-1), .int (-1), .int (-1)]) (a := 5) (p' := 19) rfl rfl rfl ly_5 rfl rfl rfl rfl rfl rfl rfl (F_30_ok (d := d + 0) (ht := (Or.inl rfl))  G_1) ?_
    refine ev_st (st' := [.int p_1.1]) rfl ?_
    have e_1 := F_30_R G_1
    refine ev_x (i := .pop) (len := 1) (p' := 20) (s' := []) rfl rfl rfl ?_
    refine ev_x (i := .aload_n 0) (len := 1) (p' := 21) (s' := [.ref 36]) rfl rfl rfl ?_
    refine ev_x (i := .iconst 0) (len := 1) (p' := 22) (s' := [.int 0, .ref 36]) rfl rfl rfl ?_
    obtain ⟨p_2, G_2, H⟩ := F_bd H
    refine ev_cv (d := d + 5) (As := [.int 0]) (a := 36) (p' := 25) rfl rfl rfl ly_36 rfl rfl rfl rfl rfl rfl rfl (F_32_ok (d := d + 4)   G_2) ?_
    refine ev_st (st' := [.int p_2.1]) rfl ?_
    have e_2 := F_32_R G_2
    obtain ⟨b_3, H⟩ := F_gd H
    obtain rfl := Option.some.inj H
    exact ev_iret rfl rfl rfl (fit_b b_3)
  · refine ev_x (i := .aload_n 0) (len := 1) (p' := 1) (s' := [.ref 36]) rfl rfl rfl ?_
    refine ev_gr (p' := 4) (v := 21) rfl rfl rfl ly_36 rfl rfl hr_36_7 ?_
    refine ev_x (i := .bipush 34) (len := 2) (p' := 6) (s' := [.int 34, .ref 21]) rfl rfl rfl ?_
    refine ev_x (i := .aload_n 0) (len := 1) (p' := 7) (s' := [.ref 36, .int 34, .ref 21]) rfl rfl rfl ?_
    refine ev_gc (p' := 10) (v := 2) rfl rfl rfl ly_36 rfl rfl ?_
    refine ev_gi (p' := 13) (v := (gI σ 2 4)) rfl rfl rfl ly_2 rfl rfl rfl ?_
    refine ev_x (i := .iconst (-1)) (len := 1) (p' := 14) (s' := [.int (-1), .int (gI σ 2 4), .int 34, .ref 21]) rfl rfl rfl ?_
    refine ev_x (i := .iconst (-1)) (len := 1) (p' := 15) (s' := [.int (-1), .int (-1), .int (gI σ 2 4), .int 34, .ref 21]) rfl rfl rfl ?_
    refine ev_x (i := .iconst (-1)) (len := 1) (p' := 16) (s' := [.int (-1), .int (-1), .int (-1), .int (gI σ 2 4), .int 34, .ref 21]) rfl rfl rfl ?_
    obtain ⟨p_1, G_1, H⟩ := F_bd H
    refine ev_cv (d := d + 5) (As := [.int 34, .int (gI σ 2 4), .int (-1), .int (-1), .int (-1)]) (a := 21) (p' := 19) rfl rfl rfl ly_21 rfl rfl rfl rfl rfl rfl rfl (F_30_ok (d := d + 0) (ht := (Or.inr rfl))  G_1) ?_
    refine ev_st (st' := [.int p_1.1]) rfl ?_
    have e_1 := F_30_R G_1
    refine ev_x (i := .pop) (len := 1) (p' := 20) (s' := []) rfl rfl rfl ?_
    refine ev_x (i := .aload_n 0) (len := 1) (p' := 21) (s' := [.ref 36]) rfl rfl rfl ?_
    refine ev_x (i := .iconst 0) (len := 1) (p' := 22) (s' := [.int 0, .ref 36]) rfl rfl rfl ?_
    obtain ⟨p_2, G_2, H⟩ := F_bd H
    refine ev_cv (d := d + 5) (As := [.int 0]) (a := 36) (p' := 25) rfl rfl rfl ly_36 rfl rfl rfl rfl rfl rfl rfl (F_32_ok (d := d + 4)   G_2) ?_
    refine ev_st (st' := [.int p_2.1]) rfl ?_
    have e_2 := F_32_R G_2
    obtain ⟨b_3, H⟩ := F_gd H
    obtain rfl := Option.some.inj H
    exact ev_iret rfl rfl rfl (fit_b b_3)
/-- GameText$Parser.opensBranch()Z -/
def F_41 (N : Nat) (t : Nat) (σ : st_S) : Option (Int32 × st_S) :=
  (F_30 N t 32 (-1) (-1) (-1) (-1) (σ)).bind fun p_1 =>
  (F_39 N t 6 (st_i (p_1.2) 36 15 p_1.1)).bind fun p_2 =>
  if (p_2.1 = 0 ∨ p_2.1 = 1) then
  some (p_2.1, p_2.2)
  else none
set_option maxRecDepth 100000 in
theorem F_41_R {N : Nat} {t : Nat} {σ : st_S} {p : Int32 × st_S} (H : F_41 N t σ = some p) : gR p.2 = gR σ := by
  unfold F_41 at H
  obtain ⟨p_1, G_1, H⟩ := F_bd H
  obtain ⟨p_2, G_2, H⟩ := F_bd H
  obtain ⟨_, H⟩ := F_gd H
  obtain rfl := Option.some.inj H
  exact ((F_39_R G_2).trans ((F_30_R G_1).trans rfl))
set_option maxHeartbeats 4000000 in
set_option maxRecDepth 100000 in
theorem F_41_ok {N d : Nat} {t : Nat} (ht : t = 4 ∨ t = 20) {σ : st_S} {p : Int32 × st_S} (hr_36_7 : gR σ 36 7 = (t + 1)) (H : F_41 N t σ = some p) : vz_ev P0 (d + 6) 41 0 (lv_args 0 [.ref 36]) [] (hp σ) (.inl (some (.int p.1)), hp p.2) := by
  unfold F_41 at H
  rcases ht with rfl | rfl
  · refine ev_x (i := .aload_n 0) (len := 1) (p' := 1) (s' := [.ref 36]) rfl rfl rfl ?_
    refine ev_x (i := .aload_n 0) (len := 1) (p' := 2) (s' := [.ref 36, .ref 36]) rfl rfl rfl ?_
    refine ev_gr (p' := 5) (v := 5) rfl rfl rfl ly_36 rfl rfl hr_36_7 ?_
    refine ev_x (i := .bipush 32) (len := 2) (p' := 7) (s' := [.int 32, .ref 5, .ref 36]) rfl rfl rfl ?_
    refine ev_x (i := .iconst (-1)) (len := 1) (p' := 8) (s' := [.int (-1), .int 32, .ref 5, .ref 36]) rfl rfl rfl ?_
    refine ev_x (i := .iconst (-1)) (len := 1) (p' := 9) (s' := [.int (-1), .int (-1), .int 32, .ref 5, .ref 36]) rfl rfl rfl ?_
    refine ev_x (i := .iconst (-1)) (len := 1) (p' := 10) (s' := [.int (-1), .int (-1), .int (-1), .int 32, .ref 5, .ref 36]) rfl rfl rfl ?_
    refine ev_x (i := .iconst (-1)) (len := 1) (p' := 11) (s' := [.int (-1), .int (-1), .int (-1), .int (-1), .int 32, .ref 5, .ref 36]) rfl rfl rfl ?_
    obtain ⟨p_1, G_1, H⟩ := F_bd H
    refine ev_cv (d := d + 5) (As := [.int 32, .int (-1), .int (-1), .int (-1), .int (-1)]) (a := 5) (p' := 14) rfl rfl rfl ly_5 rfl rfl rfl rfl rfl rfl rfl (F_30_ok (d := d + 0) (ht := (Or.inl rfl))  G_1) ?_
    refine ev_st (st' := [.int p_1.1, .ref 36]) rfl ?_
    have e_1 := F_30_R G_1
    refine ev_pi (p' := 17) rfl rfl rfl ly_36 rfl rfl rfl rfl ?_
    refine ev_x (i := .aload_n 0) (len := 1) (p' := 18) (s' := [.ref 36]) rfl rfl rfl ?_
    refine ev_x (i := .bipush 6) (len := 2) (p' := 20) (s' := [.int 6, .ref 36]) rfl rfl rfl ?_
    obtain ⟨p_2, G_2, H⟩ := F_bd H
    refine ev_cv (d := d + 5) (As := [.int 6]) (a := 36) (p' := 23) rfl rfl rfl ly_36 rfl rfl rfl rfl rfl rfl rfl (F_39_ok (d := d + 4) (ht := (Or.inl rfl)) (hr_36_7 := ((congrFun (congrFun e_1 36) 7).trans hr_36_7)) G_2) ?_
    refine ev_st (st' := [.int p_2.1]) rfl ?_
    have e_2 := F_39_R G_2
    obtain ⟨b_3, H⟩ := F_gd H
    obtain rfl := Option.some.inj H
    exact ev_iret rfl rfl rfl (fit_b b_3)
  · refine ev_x (i := .aload_n 0) (len := 1) (p' := 1) (s' := [.ref 36]) rfl rfl rfl ?_
    refine ev_x (i := .aload_n 0) (len := 1) (p' := 2) (s' := [.ref 36, .ref 36]) rfl rfl rfl ?_
    refine ev_gr (p' := 5) (v := 21) rfl rfl rfl ly_36 rfl rfl hr_36_7 ?_
    refine ev_x (i := .bipush 32) (len := 2) (p' := 7) (s' := [.int 32, .ref 21, .ref 36]) rfl rfl rfl ?_
    refine ev_x (i := .iconst (-1)) (len := 1) (p' := 8) (s' := [.int (-1), .int 32, .ref 21, .ref 36]) rfl rfl rfl ?_
    refine ev_x (i := .iconst (-1)) (len := 1) (p' := 9) (s' := [.int (-1), .int (-1), .int 32, .ref 21, .ref 36]) rfl rfl rfl ?_
    refine ev_x (i := .iconst (-1)) (len := 1) (p' := 10) (s' := [.int (-1), .int (-1), .int (-1), .int 32, .ref 21, .ref 36]) rfl rfl rfl ?_
    refine ev_x (i := .iconst (-1)) (len := 1) (p' := 11) (s' := [.int (-1), .int (-1), .int (-1), .int (-1), .int 32, .ref 21, .ref 36]) rfl rfl rfl ?_
    obtain ⟨p_1, G_1, H⟩ := F_bd H
    refine ev_cv (d := d + 5) (As := [.int 32, .int (-1), .int (-1), .int (-1), .int (-1)]) (a := 21) (p' := 14) rfl rfl rfl ly_21 rfl rfl rfl rfl rfl rfl rfl (F_30_ok (d := d + 0) (ht := (Or.inr rfl))  G_1) ?_
    refine ev_st (st' := [.int p_1.1, .ref 36]) rfl ?_
    have e_1 := F_30_R G_1
    refine ev_pi (p' := 17) rfl rfl rfl ly_36 rfl rfl rfl rfl ?_
    refine ev_x (i := .aload_n 0) (len := 1) (p' := 18) (s' := [.ref 36]) rfl rfl rfl ?_
    refine ev_x (i := .bipush 6) (len := 2) (p' := 20) (s' := [.int 6, .ref 36]) rfl rfl rfl ?_
    obtain ⟨p_2, G_2, H⟩ := F_bd H
    refine ev_cv (d := d + 5) (As := [.int 6]) (a := 36) (p' := 23) rfl rfl rfl ly_36 rfl rfl rfl rfl rfl rfl rfl (F_39_ok (d := d + 4) (ht := (Or.inr rfl)) (hr_36_7 := ((congrFun (congrFun e_1 36) 7).trans hr_36_7)) G_2) ?_
    refine ev_st (st' := [.int p_2.1]) rfl ?_
    have e_2 := F_39_R G_2
    obtain ⟨b_3, H⟩ := F_gd H
    obtain rfl := Option.some.inj H
    exact ev_iret rfl rfl rfl (fit_b b_3)
/-- GameText$Parser.closesRule(I)Z -/
def F_38 (N : Nat) (t : Nat) (x_1 : Int32) (σ : st_S) : Option (Int32 × st_S) :=
  (F_30 N t 26 (gI σ 36 10) (gI σ 36 13) (gI σ 36 9) (gI σ 36 11) (σ)).bind fun p_1 =>
  if (gI p_1.2 36 9) = 1 then
    if x_1 = 256 then
      (F_39 N t 2 (p_1.2)).bind fun p_4 =>
      some ((if p_4.1 = 0 then 0 else 1 : Int32), p_4.2)
    else
      some (0, p_1.2)
  else
  if (gI p_1.2 36 9) = 2 then
    if x_1 = 306 then
      (F_39 N t 3 (p_1.2)).bind fun p_8 =>
      if (p_8.1 = 0 ∨ p_8.1 = 1) then
      some (p_8.1, p_8.2)
      else none
    else
      if x_1 = 59 then
        (F_40 N t (p_1.2)).bind fun p_11 =>
        some ((if p_11.1 = 0 then 0 else 1 : Int32), p_11.2)
      else
        some (0, p_1.2)
  else
  if (gI p_1.2 36 9) = 5 then
    if x_1 = 257 then
      (F_41 N t (p_1.2)).bind fun p_15 =>
      some ((if p_15.1 = 0 then 0 else 1 : Int32), p_15.2)
    else
      some (0, p_1.2)
  else
  if (gI p_1.2 36 9) = 6 then
    if aB (gI p_1.2 36 15) (gN p_1.2 (t + 3)) then
    if x_1 = 58 then
      (F_32 N 6 (st_e (p_1.2) (t + 3) (((gI p_1.2 36 15) : Int32).toNatClampNeg) (gI p_1.2 36 10))).bind fun p_20 =>
      some ((if p_20.1 = 0 then 0 else 1 : Int32), p_20.2)
    else
      some (0, st_e (p_1.2) (t + 3) (((gI p_1.2 36 15) : Int32).toNatClampNeg) (gI p_1.2 36 10))
    else none
  else
  if (gI p_1.2 36 9) = 7 then
    if x_1 = 41 then
      (F_32 N 12 (p_1.2)).bind fun p_24 =>
      some ((if p_24.1 = 0 then 0 else 1 : Int32), p_24.2)
    else
      some (0, p_1.2)
  else
    if x_1 = 59 then
      (F_40 N t (p_1.2)).bind fun p_27 =>
      some ((if p_27.1 = 0 then 0 else 1 : Int32), p_27.2)
    else
      some (0, p_1.2)
set_option maxRecDepth 100000 in
theorem F_38_R {N : Nat} {t : Nat} {x_1 : Int32} {σ : st_S} {p : Int32 × st_S} (H : F_38 N t x_1 σ = some p) : gR p.2 = gR σ := by
  unfold F_38 at H
  obtain ⟨p_1, G_1, H⟩ := F_bd H
  refine F_if H (fun _ H => ?_) (fun _ H => ?_)
  · refine F_if H (fun _ H => ?_) (fun _ H => ?_)
    · obtain ⟨p_4, G_4, H⟩ := F_bd H
      obtain rfl := Option.some.inj H
      exact ((F_39_R G_4).trans ((F_30_R G_1).trans rfl))
    · obtain rfl := Option.some.inj H
      exact ((F_30_R G_1).trans rfl)
  · refine F_if H (fun _ H => ?_) (fun _ H => ?_)
    · refine F_if H (fun _ H => ?_) (fun _ H => ?_)
      · obtain ⟨p_8, G_8, H⟩ := F_bd H
        obtain ⟨_, H⟩ := F_gd H
        obtain rfl := Option.some.inj H
        exact ((F_39_R G_8).trans ((F_30_R G_1).trans rfl))
      · refine F_if H (fun _ H => ?_) (fun _ H => ?_)
        · obtain ⟨p_11, G_11, H⟩ := F_bd H
          obtain rfl := Option.some.inj H
          exact ((F_40_R G_11).trans ((F_30_R G_1).trans rfl))
        · obtain rfl := Option.some.inj H
          exact ((F_30_R G_1).trans rfl)
    · refine F_if H (fun _ H => ?_) (fun _ H => ?_)
      · refine F_if H (fun _ H => ?_) (fun _ H => ?_)
        · obtain ⟨p_15, G_15, H⟩ := F_bd H
          obtain rfl := Option.some.inj H
          exact ((F_41_R G_15).trans ((F_30_R G_1).trans rfl))
        · obtain rfl := Option.some.inj H
          exact ((F_30_R G_1).trans rfl)
      · refine F_if H (fun _ H => ?_) (fun _ H => ?_)
        · obtain ⟨_, H⟩ := F_gd H
          refine F_if H (fun _ H => ?_) (fun _ H => ?_)
          · obtain ⟨p_20, G_20, H⟩ := F_bd H
            obtain rfl := Option.some.inj H
            exact ((F_32_R G_20).trans ((F_30_R G_1).trans rfl))
          · obtain rfl := Option.some.inj H
            exact ((F_30_R G_1).trans rfl)
        · refine F_if H (fun _ H => ?_) (fun _ H => ?_)
          · refine F_if H (fun _ H => ?_) (fun _ H => ?_)
            · obtain ⟨p_24, G_24, H⟩ := F_bd H
              obtain rfl := Option.some.inj H
              exact ((F_32_R G_24).trans ((F_30_R G_1).trans rfl))
            · obtain rfl := Option.some.inj H
              exact ((F_30_R G_1).trans rfl)
          · refine F_if H (fun _ H => ?_) (fun _ H => ?_)
            · obtain ⟨p_27, G_27, H⟩ := F_bd H
              obtain rfl := Option.some.inj H
              exact ((F_40_R G_27).trans ((F_30_R G_1).trans rfl))
            · obtain rfl := Option.some.inj H
              exact ((F_30_R G_1).trans rfl)
set_option maxHeartbeats 4000000 in
set_option maxRecDepth 100000 in
theorem F_38_ok {N d : Nat} {t : Nat} (ht : t = 4 ∨ t = 20) {x_1 : Int32} {σ : st_S} {p : Int32 × st_S} (hr_36_7 : gR σ 36 7 = (t + 1)) (H : F_38 N t x_1 σ = some p) : vz_ev P0 (d + 7) 38 0 (lv_args 0 [.ref 36, .int x_1]) [] (hp σ) (.inl (some (.int p.1)), hp p.2) := by
  unfold F_38 at H
  rcases ht with rfl | rfl
  · refine ev_x (i := .aload_n 0) (len := 1) (p' := 1) (s' := [.ref 36]) rfl rfl rfl ?_
    refine ev_gr (p' := 4) (v := 5) rfl rfl rfl ly_36 rfl rfl hr_36_7 ?_
    refine ev_x (i := .bipush 26) (len := 2) (p' := 6) (s' := [.int 26, .ref 5]) rfl rfl rfl ?_
    refine ev_x (i := .aload_n 0) (len := 1) (p' := 7) (s' := [.ref 36, .int 26, .ref 5]) rfl rfl rfl ?_
    refine ev_gi (p' := 10) (v := (gI σ 36 10)) rfl rfl rfl ly_36 rfl rfl rfl ?_
    refine ev_x (i := .aload_n 0) (len := 1) (p' := 11) (s' := [.ref 36, .int (gI σ 36 10), .int 26, .ref 5]) rfl rfl rfl ?_
    refine ev_gi (p' := 14) (v := (gI σ 36 13)) rfl rfl rfl ly_36 rfl rfl rfl ?_
    refine ev_x (i := .aload_n 0) (len := 1) (p' := 15) (s' := [.ref 36, .int (gI σ 36 13), .int (gI σ 36 10), .int 26, .ref 5]) rfl rfl rfl ?_
    refine ev_gi (p' := 18) (v := (gI σ 36 9)) rfl rfl rfl ly_36 rfl rfl rfl ?_
    refine ev_x (i := .aload_n 0) (len := 1) (p' := 19) (s' := [.ref 36, .int (gI σ 36 9), .int (gI σ 36 13), .int (gI σ 36 10), .int 26, .ref 5]) rfl rfl rfl ?_
    refine ev_gi (p' := 22) (v := (gI σ 36 11)) rfl rfl rfl ly_36 rfl rfl rfl ?_
    obtain ⟨p_1, G_1, H⟩ := F_bd H
    refine ev_cv (d := d + 6) (As := [.int 26, .int (gI σ 36 10), .int (gI σ 36 13), .int (gI σ 36 9), .int (gI σ 36 11)]) (a := 5) (p' := 25) rfl rfl rfl ly_5 rfl rfl rfl rfl rfl rfl rfl (F_30_ok (d := d + 1) (ht := (Or.inl rfl))  G_1) ?_
    refine ev_st (st' := [.int p_1.1]) rfl ?_
    have e_1 := F_30_R G_1
    refine ev_x (i := .pop) (len := 1) (p' := 26) (s' := []) rfl rfl rfl ?_
    refine ev_x (i := .aload_n 0) (len := 1) (p' := 27) (s' := [.ref 36]) rfl rfl rfl ?_
    refine ev_gi (p' := 30) (v := (gI p_1.2 36 9)) rfl rfl rfl ly_36 rfl rfl rfl ?_
    refine F_if H (fun c_2 H => ?_) (fun c_2 H => ?_)
    · refine ev_st (st' := [.int 1]) (congrArg (fun z => Value.int z :: []) c_2) ?_
      refine ev_ts (off := 42) (t := 72) rfl rfl (by decide) rfl ?_
      refine ev_x (i := .iload_n 1) (len := 1) (p' := 73) (s' := [.int x_1]) rfl rfl rfl ?_
      refine ev_x (i := .sipush 256) (len := 3) (p' := 76) (s' := [.int 256, .int x_1]) rfl rfl rfl ?_
      refine F_if H (fun c_3 H => ?_) (fun c_3 H => ?_)
      · refine ev_b2 (t := 91) (p' := 79) rfl rfl rfl (if_neg (fun q => q c_3)) ?_
        refine ev_x (i := .aload_n 0) (len := 1) (p' := 80) (s' := [.ref 36]) rfl rfl rfl ?_
        refine ev_x (i := .iconst 2) (len := 1) (p' := 81) (s' := [.int 2, .ref 36]) rfl rfl rfl ?_
        obtain ⟨p_4, G_4, H⟩ := F_bd H
        refine ev_cv (d := d + 6) (As := [.int 2]) (a := 36) (p' := 84) rfl rfl rfl ly_36 rfl rfl rfl rfl rfl rfl rfl (F_39_ok (d := d + 5) (ht := (Or.inl rfl)) (hr_36_7 := ((congrFun (congrFun e_1 36) 7).trans hr_36_7)) G_4) ?_
        refine ev_st (st' := [.int p_4.1]) rfl ?_
        have e_4 := F_39_R G_4
        refine F_jn (A := vz_ev P0 (d + 7) 38 92 [(0, .ref 36), (1, .int x_1)] [.int (if p_4.1 = 0 then 0 else 1 : Int32)] (hp (p_4.2)) (.inl (some (.int p.1)), hp p.2)) ?_ (fun J => ?_)
        · obtain rfl := Option.some.inj H
          exact ev_iret rfl rfl rfl (fit_b (by (repeat' split) <;> decide))
        · by_cases c_5 : p_4.1 = 0
          · refine ev_b0 (t := 91) (p' := 91) rfl rfl rfl (if_pos c_5) ?_
            refine ev_x (i := .iconst 0) (len := 1) (p' := 92) (s' := [.int 0]) rfl rfl rfl ?_
            exact ev_st (congrArg (fun z => Value.int z :: []) (by rw [if_pos c_5])) J
          · refine ev_b0 (t := 91) (p' := 87) rfl rfl rfl (if_neg c_5) ?_
            refine ev_x (i := .iconst 1) (len := 1) (p' := 88) (s' := [.int 1]) rfl rfl rfl ?_
            refine ev_x (i := .goto 4) (len := 3) (p' := 92) (s' := [.int 1]) rfl rfl rfl ?_
            exact ev_st (congrArg (fun z => Value.int z :: []) (by rw [if_neg c_5])) J
      · refine ev_b2 (t := 91) (p' := 91) rfl rfl rfl (if_pos c_3) ?_
        refine ev_x (i := .iconst 0) (len := 1) (p' := 92) (s' := [.int 0]) rfl rfl rfl ?_
        obtain rfl := Option.some.inj H
        exact ev_iret rfl rfl rfl rfl
    · refine F_if H (fun c_6 H => ?_) (fun c_6 H => ?_)
      · refine ev_st (st' := [.int 2]) (congrArg (fun z => Value.int z :: []) c_6) ?_
        refine ev_ts (off := 63) (t := 93) rfl rfl (by decide) rfl ?_
        refine ev_x (i := .iload_n 1) (len := 1) (p' := 94) (s' := [.int x_1]) rfl rfl rfl ?_
        refine ev_x (i := .sipush 306) (len := 3) (p' := 97) (s' := [.int 306, .int x_1]) rfl rfl rfl ?_
        refine F_if H (fun c_7 H => ?_) (fun c_7 H => ?_)
        · refine ev_b2 (t := 108) (p' := 100) rfl rfl rfl (if_neg (fun q => q c_7)) ?_
          refine ev_x (i := .aload_n 0) (len := 1) (p' := 101) (s' := [.ref 36]) rfl rfl rfl ?_
          refine ev_x (i := .iconst 3) (len := 1) (p' := 102) (s' := [.int 3, .ref 36]) rfl rfl rfl ?_
          obtain ⟨p_8, G_8, H⟩ := F_bd H
          refine ev_cv (d := d + 6) (As := [.int 3]) (a := 36) (p' := 105) rfl rfl rfl ly_36 rfl rfl rfl rfl rfl rfl rfl (F_39_ok (d := d + 5) (ht := (Or.inl rfl)) (hr_36_7 := ((congrFun (congrFun e_1 36) 7).trans hr_36_7)) G_8) ?_
          refine ev_st (st' := [.int p_8.1]) rfl ?_
          have e_8 := F_39_R G_8
          refine ev_x (i := .goto 21) (len := 3) (p' := 126) (s' := [.int p_8.1]) rfl rfl rfl ?_
          obtain ⟨b_9, H⟩ := F_gd H
          obtain rfl := Option.some.inj H
          exact ev_iret rfl rfl rfl (fit_b b_9)
        · refine ev_b2 (t := 108) (p' := 108) rfl rfl rfl (if_pos c_7) ?_
          refine ev_x (i := .iload_n 1) (len := 1) (p' := 109) (s' := [.int x_1]) rfl rfl rfl ?_
          refine ev_x (i := .bipush 59) (len := 2) (p' := 111) (s' := [.int 59, .int x_1]) rfl rfl rfl ?_
          refine F_if H (fun c_10 H => ?_) (fun c_10 H => ?_)
          · refine ev_b2 (t := 125) (p' := 114) rfl rfl rfl (if_neg (fun q => q c_10)) ?_
            refine ev_x (i := .aload_n 0) (len := 1) (p' := 115) (s' := [.ref 36]) rfl rfl rfl ?_
            obtain ⟨p_11, G_11, H⟩ := F_bd H
            refine ev_cv (d := d + 6) (As := []) (a := 36) (p' := 118) rfl rfl rfl ly_36 rfl rfl rfl rfl rfl rfl rfl (F_40_ok (d := d + 0) (ht := (Or.inl rfl)) (hr_36_7 := ((congrFun (congrFun e_1 36) 7).trans hr_36_7)) G_11) ?_
            refine ev_st (st' := [.int p_11.1]) rfl ?_
            have e_11 := F_40_R G_11
            refine F_jn (A := vz_ev P0 (d + 7) 38 126 [(0, .ref 36), (1, .int x_1)] [.int (if p_11.1 = 0 then 0 else 1 : Int32)] (hp (p_11.2)) (.inl (some (.int p.1)), hp p.2)) ?_ (fun J => ?_)
            · obtain rfl := Option.some.inj H
              exact ev_iret rfl rfl rfl (fit_b (by (repeat' split) <;> decide))
            · by_cases c_12 : p_11.1 = 0
              · refine ev_b0 (t := 125) (p' := 125) rfl rfl rfl (if_pos c_12) ?_
                refine ev_x (i := .iconst 0) (len := 1) (p' := 126) (s' := [.int 0]) rfl rfl rfl ?_
                exact ev_st (congrArg (fun z => Value.int z :: []) (by rw [if_pos c_12])) J
              · refine ev_b0 (t := 125) (p' := 121) rfl rfl rfl (if_neg c_12) ?_
                refine ev_x (i := .iconst 1) (len := 1) (p' := 122) (s' := [.int 1]) rfl rfl rfl ?_
                refine ev_x (i := .goto 4) (len := 3) (p' := 126) (s' := [.int 1]) rfl rfl rfl ?_
                exact ev_st (congrArg (fun z => Value.int z :: []) (by rw [if_neg c_12])) J
          · refine ev_b2 (t := 125) (p' := 125) rfl rfl rfl (if_pos c_10) ?_
            refine ev_x (i := .iconst 0) (len := 1) (p' := 126) (s' := [.int 0]) rfl rfl rfl ?_
            obtain rfl := Option.some.inj H
            exact ev_iret rfl rfl rfl rfl
      · refine F_if H (fun c_13 H => ?_) (fun c_13 H => ?_)
        · refine ev_st (st' := [.int 5]) (congrArg (fun z => Value.int z :: []) c_13) ?_
          refine ev_ts (off := 97) (t := 127) rfl rfl (by decide) rfl ?_
          refine ev_x (i := .iload_n 1) (len := 1) (p' := 128) (s' := [.int x_1]) rfl rfl rfl ?_
          refine ev_x (i := .sipush 257) (len := 3) (p' := 131) (s' := [.int 257, .int x_1]) rfl rfl rfl ?_
          refine F_if H (fun c_14 H => ?_) (fun c_14 H => ?_)
          · refine ev_b2 (t := 145) (p' := 134) rfl rfl rfl (if_neg (fun q => q c_14)) ?_
            refine ev_x (i := .aload_n 0) (len := 1) (p' := 135) (s' := [.ref 36]) rfl rfl rfl ?_
            obtain ⟨p_15, G_15, H⟩ := F_bd H
            refine ev_cv (d := d + 6) (As := []) (a := 36) (p' := 138) rfl rfl rfl ly_36 rfl rfl rfl rfl rfl rfl rfl (F_41_ok (d := d + 0) (ht := (Or.inl rfl)) (hr_36_7 := ((congrFun (congrFun e_1 36) 7).trans hr_36_7)) G_15) ?_
            refine ev_st (st' := [.int p_15.1]) rfl ?_
            have e_15 := F_41_R G_15
            refine F_jn (A := vz_ev P0 (d + 7) 38 146 [(0, .ref 36), (1, .int x_1)] [.int (if p_15.1 = 0 then 0 else 1 : Int32)] (hp (p_15.2)) (.inl (some (.int p.1)), hp p.2)) ?_ (fun J => ?_)
            · obtain rfl := Option.some.inj H
              exact ev_iret rfl rfl rfl (fit_b (by (repeat' split) <;> decide))
            · by_cases c_16 : p_15.1 = 0
              · refine ev_b0 (t := 145) (p' := 145) rfl rfl rfl (if_pos c_16) ?_
                refine ev_x (i := .iconst 0) (len := 1) (p' := 146) (s' := [.int 0]) rfl rfl rfl ?_
                exact ev_st (congrArg (fun z => Value.int z :: []) (by rw [if_pos c_16])) J
              · refine ev_b0 (t := 145) (p' := 141) rfl rfl rfl (if_neg c_16) ?_
                refine ev_x (i := .iconst 1) (len := 1) (p' := 142) (s' := [.int 1]) rfl rfl rfl ?_
                refine ev_x (i := .goto 4) (len := 3) (p' := 146) (s' := [.int 1]) rfl rfl rfl ?_
                exact ev_st (congrArg (fun z => Value.int z :: []) (by rw [if_neg c_16])) J
          · refine ev_b2 (t := 145) (p' := 145) rfl rfl rfl (if_pos c_14) ?_
            refine ev_x (i := .iconst 0) (len := 1) (p' := 146) (s' := [.int 0]) rfl rfl rfl ?_
            obtain rfl := Option.some.inj H
            exact ev_iret rfl rfl rfl rfl
        · refine F_if H (fun c_17 H => ?_) (fun c_17 H => ?_)
          · refine ev_st (st' := [.int 6]) (congrArg (fun z => Value.int z :: []) c_17) ?_
            refine ev_ts (off := 117) (t := 147) rfl rfl (by decide) rfl ?_
            refine ev_x (i := .aload_n 0) (len := 1) (p' := 148) (s' := [.ref 36]) rfl rfl rfl ?_
            refine ev_gr (p' := 151) (v := 5) rfl rfl rfl ly_36 rfl rfl ((congrFun (congrFun e_1 36) 7).trans hr_36_7) ?_
            refine ev_gc (p' := 154) (v := 7) rfl rfl rfl ly_5 rfl rfl ?_
            refine ev_x (i := .aload_n 0) (len := 1) (p' := 155) (s' := [.ref 36, .ref 7]) rfl rfl rfl ?_
            refine ev_gi (p' := 158) (v := (gI p_1.2 36 15)) rfl rfl rfl ly_36 rfl rfl rfl ?_
            refine ev_x (i := .aload_n 0) (len := 1) (p' := 159) (s' := [.ref 36, .int (gI p_1.2 36 15), .ref 7]) rfl rfl rfl ?_
            refine ev_gi (p' := 162) (v := (gI p_1.2 36 10)) rfl rfl rfl ly_36 rfl rfl rfl ?_
            obtain ⟨b_18, H⟩ := F_gd H
            refine ev_pa (j := ((gI p_1.2 36 15) : Int32).toNatClampNeg) (p' := 163) rfl rfl ly_7 rfl (gd_in b_18) rfl ?_
            refine ev_x (i := .iload_n 1) (len := 1) (p' := 164) (s' := [.int x_1]) rfl rfl rfl ?_
            refine ev_x (i := .bipush 58) (len := 2) (p' := 166) (s' := [.int 58, .int x_1]) rfl rfl rfl ?_
            refine F_if H (fun c_19 H => ?_) (fun c_19 H => ?_)
            · refine ev_b2 (t := 182) (p' := 169) rfl rfl rfl (if_neg (fun q => q c_19)) ?_
              refine ev_x (i := .aload_n 0) (len := 1) (p' := 170) (s' := [.ref 36]) rfl rfl rfl ?_
              refine ev_x (i := .bipush 6) (len := 2) (p' := 172) (s' := [.int 6, .ref 36]) rfl rfl rfl ?_
              obtain ⟨p_20, G_20, H⟩ := F_bd H
              refine ev_cv (d := d + 6) (As := [.int 6]) (a := 36) (p' := 175) rfl rfl rfl ly_36 rfl rfl rfl rfl rfl rfl rfl (F_32_ok (d := d + 5)   G_20) ?_
              refine ev_st (st' := [.int p_20.1]) rfl ?_
              have e_20 := F_32_R G_20
              refine F_jn (A := vz_ev P0 (d + 7) 38 183 [(0, .ref 36), (1, .int x_1)] [.int (if p_20.1 = 0 then 0 else 1 : Int32)] (hp (p_20.2)) (.inl (some (.int p.1)), hp p.2)) ?_ (fun J => ?_)
              · obtain rfl := Option.some.inj H
                exact ev_iret rfl rfl rfl (fit_b (by (repeat' split) <;> decide))
              · by_cases c_21 : p_20.1 = 0
                · refine ev_b0 (t := 182) (p' := 182) rfl rfl rfl (if_pos c_21) ?_
                  refine ev_x (i := .iconst 0) (len := 1) (p' := 183) (s' := [.int 0]) rfl rfl rfl ?_
                  exact ev_st (congrArg (fun z => Value.int z :: []) (by rw [if_pos c_21])) J
                · refine ev_b0 (t := 182) (p' := 178) rfl rfl rfl (if_neg c_21) ?_
                  refine ev_x (i := .iconst 1) (len := 1) (p' := 179) (s' := [.int 1]) rfl rfl rfl ?_
                  refine ev_x (i := .goto 4) (len := 3) (p' := 183) (s' := [.int 1]) rfl rfl rfl ?_
                  exact ev_st (congrArg (fun z => Value.int z :: []) (by rw [if_neg c_21])) J
            · refine ev_b2 (t := 182) (p' := 182) rfl rfl rfl (if_pos c_19) ?_
              refine ev_x (i := .iconst 0) (len := 1) (p' := 183) (s' := [.int 0]) rfl rfl rfl ?_
              obtain rfl := Option.some.inj H
              exact ev_iret rfl rfl rfl rfl
          · refine F_if H (fun c_22 H => ?_) (fun c_22 H => ?_)
            · refine ev_st (st' := [.int 7]) (congrArg (fun z => Value.int z :: []) c_22) ?_
              refine ev_ts (off := 154) (t := 184) rfl rfl (by decide) rfl ?_
              refine ev_x (i := .iload_n 1) (len := 1) (p' := 185) (s' := [.int x_1]) rfl rfl rfl ?_
              refine ev_x (i := .bipush 41) (len := 2) (p' := 187) (s' := [.int 41, .int x_1]) rfl rfl rfl ?_
              refine F_if H (fun c_23 H => ?_) (fun c_23 H => ?_)
              · refine ev_b2 (t := 203) (p' := 190) rfl rfl rfl (if_neg (fun q => q c_23)) ?_
                refine ev_x (i := .aload_n 0) (len := 1) (p' := 191) (s' := [.ref 36]) rfl rfl rfl ?_
                refine ev_x (i := .bipush 12) (len := 2) (p' := 193) (s' := [.int 12, .ref 36]) rfl rfl rfl ?_
                obtain ⟨p_24, G_24, H⟩ := F_bd H
                refine ev_cv (d := d + 6) (As := [.int 12]) (a := 36) (p' := 196) rfl rfl rfl ly_36 rfl rfl rfl rfl rfl rfl rfl (F_32_ok (d := d + 5)   G_24) ?_
                refine ev_st (st' := [.int p_24.1]) rfl ?_
                have e_24 := F_32_R G_24
                refine F_jn (A := vz_ev P0 (d + 7) 38 204 [(0, .ref 36), (1, .int x_1)] [.int (if p_24.1 = 0 then 0 else 1 : Int32)] (hp (p_24.2)) (.inl (some (.int p.1)), hp p.2)) ?_ (fun J => ?_)
                · obtain rfl := Option.some.inj H
                  exact ev_iret rfl rfl rfl (fit_b (by (repeat' split) <;> decide))
                · by_cases c_25 : p_24.1 = 0
                  · refine ev_b0 (t := 203) (p' := 203) rfl rfl rfl (if_pos c_25) ?_
                    refine ev_x (i := .iconst 0) (len := 1) (p' := 204) (s' := [.int 0]) rfl rfl rfl ?_
                    exact ev_st (congrArg (fun z => Value.int z :: []) (by rw [if_pos c_25])) J
                  · refine ev_b0 (t := 203) (p' := 199) rfl rfl rfl (if_neg c_25) ?_
                    refine ev_x (i := .iconst 1) (len := 1) (p' := 200) (s' := [.int 1]) rfl rfl rfl ?_
                    refine ev_x (i := .goto 4) (len := 3) (p' := 204) (s' := [.int 1]) rfl rfl rfl ?_
                    exact ev_st (congrArg (fun z => Value.int z :: []) (by rw [if_neg c_25])) J
              · refine ev_b2 (t := 203) (p' := 203) rfl rfl rfl (if_pos c_23) ?_
                refine ev_x (i := .iconst 0) (len := 1) (p' := 204) (s' := [.int 0]) rfl rfl rfl ?_
                obtain rfl := Option.some.inj H
                exact ev_iret rfl rfl rfl rfl
            · have n_1 : (1 : Int) ≠ ((gI p_1.2 36 9) : Int32).toInt := i32_ne (k := 1) (by decide) c_2
              have n_2 : (2 : Int) ≠ ((gI p_1.2 36 9) : Int32).toInt := i32_ne (k := 2) (by decide) c_6
              have n_5 : (5 : Int) ≠ ((gI p_1.2 36 9) : Int32).toInt := i32_ne (k := 5) (by decide) c_13
              have n_6 : (6 : Int) ≠ ((gI p_1.2 36 9) : Int32).toInt := i32_ne (k := 6) (by decide) c_17
              have n_7 : (7 : Int) ≠ ((gI p_1.2 36 9) : Int32).toInt := i32_ne (k := 7) (by decide) c_22
              refine ev_ts (off := 175) (t := 205) rfl rfl ?hsw rfl ?_
              case hsw =>
                by_cases hq : ((gI p_1.2 36 9) : Int32).toInt < 1 ∨ 7 < ((gI p_1.2 36 9) : Int32).toInt
                · exact if_pos hq
                · rw [if_neg hq]
                  have hw : ((gI p_1.2 36 9) : Int32).toInt = 3 ∨ ((gI p_1.2 36 9) : Int32).toInt = 4 := by omega
                  rcases hw with hw | hw <;> rw [hw] <;> rfl
              refine ev_x (i := .iload_n 1) (len := 1) (p' := 206) (s' := [.int x_1]) rfl rfl rfl ?_
              refine ev_x (i := .bipush 59) (len := 2) (p' := 208) (s' := [.int 59, .int x_1]) rfl rfl rfl ?_
              refine F_if H (fun c_26 H => ?_) (fun c_26 H => ?_)
              · refine ev_b2 (t := 222) (p' := 211) rfl rfl rfl (if_neg (fun q => q c_26)) ?_
                refine ev_x (i := .aload_n 0) (len := 1) (p' := 212) (s' := [.ref 36]) rfl rfl rfl ?_
                obtain ⟨p_27, G_27, H⟩ := F_bd H
                refine ev_cv (d := d + 6) (As := []) (a := 36) (p' := 215) rfl rfl rfl ly_36 rfl rfl rfl rfl rfl rfl rfl (F_40_ok (d := d + 0) (ht := (Or.inl rfl)) (hr_36_7 := ((congrFun (congrFun e_1 36) 7).trans hr_36_7)) G_27) ?_
                refine ev_st (st' := [.int p_27.1]) rfl ?_
                have e_27 := F_40_R G_27
                refine F_jn (A := vz_ev P0 (d + 7) 38 223 [(0, .ref 36), (1, .int x_1)] [.int (if p_27.1 = 0 then 0 else 1 : Int32)] (hp (p_27.2)) (.inl (some (.int p.1)), hp p.2)) ?_ (fun J => ?_)
                · obtain rfl := Option.some.inj H
                  exact ev_iret rfl rfl rfl (fit_b (by (repeat' split) <;> decide))
                · by_cases c_28 : p_27.1 = 0
                  · refine ev_b0 (t := 222) (p' := 222) rfl rfl rfl (if_pos c_28) ?_
                    refine ev_x (i := .iconst 0) (len := 1) (p' := 223) (s' := [.int 0]) rfl rfl rfl ?_
                    exact ev_st (congrArg (fun z => Value.int z :: []) (by rw [if_pos c_28])) J
                  · refine ev_b0 (t := 222) (p' := 218) rfl rfl rfl (if_neg c_28) ?_
                    refine ev_x (i := .iconst 1) (len := 1) (p' := 219) (s' := [.int 1]) rfl rfl rfl ?_
                    refine ev_x (i := .goto 4) (len := 3) (p' := 223) (s' := [.int 1]) rfl rfl rfl ?_
                    exact ev_st (congrArg (fun z => Value.int z :: []) (by rw [if_neg c_28])) J
              · refine ev_b2 (t := 222) (p' := 222) rfl rfl rfl (if_pos c_26) ?_
                refine ev_x (i := .iconst 0) (len := 1) (p' := 223) (s' := [.int 0]) rfl rfl rfl ?_
                obtain rfl := Option.some.inj H
                exact ev_iret rfl rfl rfl rfl
  · refine ev_x (i := .aload_n 0) (len := 1) (p' := 1) (s' := [.ref 36]) rfl rfl rfl ?_
    refine ev_gr (p' := 4) (v := 21) rfl rfl rfl ly_36 rfl rfl hr_36_7 ?_
    refine ev_x (i := .bipush 26) (len := 2) (p' := 6) (s' := [.int 26, .ref 21]) rfl rfl rfl ?_
    refine ev_x (i := .aload_n 0) (len := 1) (p' := 7) (s' := [.ref 36, .int 26, .ref 21]) rfl rfl rfl ?_
    refine ev_gi (p' := 10) (v := (gI σ 36 10)) rfl rfl rfl ly_36 rfl rfl rfl ?_
    refine ev_x (i := .aload_n 0) (len := 1) (p' := 11) (s' := [.ref 36, .int (gI σ 36 10), .int 26, .ref 21]) rfl rfl rfl ?_
    refine ev_gi (p' := 14) (v := (gI σ 36 13)) rfl rfl rfl ly_36 rfl rfl rfl ?_
    refine ev_x (i := .aload_n 0) (len := 1) (p' := 15) (s' := [.ref 36, .int (gI σ 36 13), .int (gI σ 36 10), .int 26, .ref 21]) rfl rfl rfl ?_
    refine ev_gi (p' := 18) (v := (gI σ 36 9)) rfl rfl rfl ly_36 rfl rfl rfl ?_
    refine ev_x (i := .aload_n 0) (len := 1) (p' := 19) (s' := [.ref 36, .int (gI σ 36 9), .int (gI σ 36 13), .int (gI σ 36 10), .int 26, .ref 21]) rfl rfl rfl ?_
    refine ev_gi (p' := 22) (v := (gI σ 36 11)) rfl rfl rfl ly_36 rfl rfl rfl ?_
    obtain ⟨p_1, G_1, H⟩ := F_bd H
    refine ev_cv (d := d + 6) (As := [.int 26, .int (gI σ 36 10), .int (gI σ 36 13), .int (gI σ 36 9), .int (gI σ 36 11)]) (a := 21) (p' := 25) rfl rfl rfl ly_21 rfl rfl rfl rfl rfl rfl rfl (F_30_ok (d := d + 1) (ht := (Or.inr rfl))  G_1) ?_
    refine ev_st (st' := [.int p_1.1]) rfl ?_
    have e_1 := F_30_R G_1
    refine ev_x (i := .pop) (len := 1) (p' := 26) (s' := []) rfl rfl rfl ?_
    refine ev_x (i := .aload_n 0) (len := 1) (p' := 27) (s' := [.ref 36]) rfl rfl rfl ?_
    refine ev_gi (p' := 30) (v := (gI p_1.2 36 9)) rfl rfl rfl ly_36 rfl rfl rfl ?_
    refine F_if H (fun c_2 H => ?_) (fun c_2 H => ?_)
    · refine ev_st (st' := [.int 1]) (congrArg (fun z => Value.int z :: []) c_2) ?_
      refine ev_ts (off := 42) (t := 72) rfl rfl (by decide) rfl ?_
      refine ev_x (i := .iload_n 1) (len := 1) (p' := 73) (s' := [.int x_1]) rfl rfl rfl ?_
      refine ev_x (i := .sipush 256) (len := 3) (p' := 76) (s' := [.int 256, .int x_1]) rfl rfl rfl ?_
      refine F_if H (fun c_3 H => ?_) (fun c_3 H => ?_)
      · refine ev_b2 (t := 91) (p' := 79) rfl rfl rfl (if_neg (fun q => q c_3)) ?_
        refine ev_x (i := .aload_n 0) (len := 1) (p' := 80) (s' := [.ref 36]) rfl rfl rfl ?_
        refine ev_x (i := .iconst 2) (len := 1) (p' := 81) (s' := [.int 2, .ref 36]) rfl rfl rfl ?_
        obtain ⟨p_4, G_4, H⟩ := F_bd H
        refine ev_cv (d := d + 6) (As := [.int 2]) (a := 36) (p' := 84) rfl rfl rfl ly_36 rfl rfl rfl rfl rfl rfl rfl (F_39_ok (d := d + 5) (ht := (Or.inr rfl)) (hr_36_7 := ((congrFun (congrFun e_1 36) 7).trans hr_36_7)) G_4) ?_
        refine ev_st (st' := [.int p_4.1]) rfl ?_
        have e_4 := F_39_R G_4
        refine F_jn (A := vz_ev P0 (d + 7) 38 92 [(0, .ref 36), (1, .int x_1)] [.int (if p_4.1 = 0 then 0 else 1 : Int32)] (hp (p_4.2)) (.inl (some (.int p.1)), hp p.2)) ?_ (fun J => ?_)
        · obtain rfl := Option.some.inj H
          exact ev_iret rfl rfl rfl (fit_b (by (repeat' split) <;> decide))
        · by_cases c_5 : p_4.1 = 0
          · refine ev_b0 (t := 91) (p' := 91) rfl rfl rfl (if_pos c_5) ?_
            refine ev_x (i := .iconst 0) (len := 1) (p' := 92) (s' := [.int 0]) rfl rfl rfl ?_
            exact ev_st (congrArg (fun z => Value.int z :: []) (by rw [if_pos c_5])) J
          · refine ev_b0 (t := 91) (p' := 87) rfl rfl rfl (if_neg c_5) ?_
            refine ev_x (i := .iconst 1) (len := 1) (p' := 88) (s' := [.int 1]) rfl rfl rfl ?_
            refine ev_x (i := .goto 4) (len := 3) (p' := 92) (s' := [.int 1]) rfl rfl rfl ?_
            exact ev_st (congrArg (fun z => Value.int z :: []) (by rw [if_neg c_5])) J
      · refine ev_b2 (t := 91) (p' := 91) rfl rfl rfl (if_pos c_3) ?_
        refine ev_x (i := .iconst 0) (len := 1) (p' := 92) (s' := [.int 0]) rfl rfl rfl ?_
        obtain rfl := Option.some.inj H
        exact ev_iret rfl rfl rfl rfl
    · refine F_if H (fun c_6 H => ?_) (fun c_6 H => ?_)
      · refine ev_st (st' := [.int 2]) (congrArg (fun z => Value.int z :: []) c_6) ?_
        refine ev_ts (off := 63) (t := 93) rfl rfl (by decide) rfl ?_
        refine ev_x (i := .iload_n 1) (len := 1) (p' := 94) (s' := [.int x_1]) rfl rfl rfl ?_
        refine ev_x (i := .sipush 306) (len := 3) (p' := 97) (s' := [.int 306, .int x_1]) rfl rfl rfl ?_
        refine F_if H (fun c_7 H => ?_) (fun c_7 H => ?_)
        · refine ev_b2 (t := 108) (p' := 100) rfl rfl rfl (if_neg (fun q => q c_7)) ?_
          refine ev_x (i := .aload_n 0) (len := 1) (p' := 101) (s' := [.ref 36]) rfl rfl rfl ?_
          refine ev_x (i := .iconst 3) (len := 1) (p' := 102) (s' := [.int 3, .ref 36]) rfl rfl rfl ?_
          obtain ⟨p_8, G_8, H⟩ := F_bd H
          refine ev_cv (d := d + 6) (As := [.int 3]) (a := 36) (p' := 105) rfl rfl rfl ly_36 rfl rfl rfl rfl rfl rfl rfl (F_39_ok (d := d + 5) (ht := (Or.inr rfl)) (hr_36_7 := ((congrFun (congrFun e_1 36) 7).trans hr_36_7)) G_8) ?_
          refine ev_st (st' := [.int p_8.1]) rfl ?_
          have e_8 := F_39_R G_8
          refine ev_x (i := .goto 21) (len := 3) (p' := 126) (s' := [.int p_8.1]) rfl rfl rfl ?_
          obtain ⟨b_9, H⟩ := F_gd H
          obtain rfl := Option.some.inj H
          exact ev_iret rfl rfl rfl (fit_b b_9)
        · refine ev_b2 (t := 108) (p' := 108) rfl rfl rfl (if_pos c_7) ?_
          refine ev_x (i := .iload_n 1) (len := 1) (p' := 109) (s' := [.int x_1]) rfl rfl rfl ?_
          refine ev_x (i := .bipush 59) (len := 2) (p' := 111) (s' := [.int 59, .int x_1]) rfl rfl rfl ?_
          refine F_if H (fun c_10 H => ?_) (fun c_10 H => ?_)
          · refine ev_b2 (t := 125) (p' := 114) rfl rfl rfl (if_neg (fun q => q c_10)) ?_
            refine ev_x (i := .aload_n 0) (len := 1) (p' := 115) (s' := [.ref 36]) rfl rfl rfl ?_
            obtain ⟨p_11, G_11, H⟩ := F_bd H
            refine ev_cv (d := d + 6) (As := []) (a := 36) (p' := 118) rfl rfl rfl ly_36 rfl rfl rfl rfl rfl rfl rfl (F_40_ok (d := d + 0) (ht := (Or.inr rfl)) (hr_36_7 := ((congrFun (congrFun e_1 36) 7).trans hr_36_7)) G_11) ?_
            refine ev_st (st' := [.int p_11.1]) rfl ?_
            have e_11 := F_40_R G_11
            refine F_jn (A := vz_ev P0 (d + 7) 38 126 [(0, .ref 36), (1, .int x_1)] [.int (if p_11.1 = 0 then 0 else 1 : Int32)] (hp (p_11.2)) (.inl (some (.int p.1)), hp p.2)) ?_ (fun J => ?_)
            · obtain rfl := Option.some.inj H
              exact ev_iret rfl rfl rfl (fit_b (by (repeat' split) <;> decide))
            · by_cases c_12 : p_11.1 = 0
              · refine ev_b0 (t := 125) (p' := 125) rfl rfl rfl (if_pos c_12) ?_
                refine ev_x (i := .iconst 0) (len := 1) (p' := 126) (s' := [.int 0]) rfl rfl rfl ?_
                exact ev_st (congrArg (fun z => Value.int z :: []) (by rw [if_pos c_12])) J
              · refine ev_b0 (t := 125) (p' := 121) rfl rfl rfl (if_neg c_12) ?_
                refine ev_x (i := .iconst 1) (len := 1) (p' := 122) (s' := [.int 1]) rfl rfl rfl ?_
                refine ev_x (i := .goto 4) (len := 3) (p' := 126) (s' := [.int 1]) rfl rfl rfl ?_
                exact ev_st (congrArg (fun z => Value.int z :: []) (by rw [if_neg c_12])) J
          · refine ev_b2 (t := 125) (p' := 125) rfl rfl rfl (if_pos c_10) ?_
            refine ev_x (i := .iconst 0) (len := 1) (p' := 126) (s' := [.int 0]) rfl rfl rfl ?_
            obtain rfl := Option.some.inj H
            exact ev_iret rfl rfl rfl rfl
      · refine F_if H (fun c_13 H => ?_) (fun c_13 H => ?_)
        · refine ev_st (st' := [.int 5]) (congrArg (fun z => Value.int z :: []) c_13) ?_
          refine ev_ts (off := 97) (t := 127) rfl rfl (by decide) rfl ?_
          refine ev_x (i := .iload_n 1) (len := 1) (p' := 128) (s' := [.int x_1]) rfl rfl rfl ?_
          refine ev_x (i := .sipush 257) (len := 3) (p' := 131) (s' := [.int 257, .int x_1]) rfl rfl rfl ?_
          refine F_if H (fun c_14 H => ?_) (fun c_14 H => ?_)
          · refine ev_b2 (t := 145) (p' := 134) rfl rfl rfl (if_neg (fun q => q c_14)) ?_
            refine ev_x (i := .aload_n 0) (len := 1) (p' := 135) (s' := [.ref 36]) rfl rfl rfl ?_
            obtain ⟨p_15, G_15, H⟩ := F_bd H
            refine ev_cv (d := d + 6) (As := []) (a := 36) (p' := 138) rfl rfl rfl ly_36 rfl rfl rfl rfl rfl rfl rfl (F_41_ok (d := d + 0) (ht := (Or.inr rfl)) (hr_36_7 := ((congrFun (congrFun e_1 36) 7).trans hr_36_7)) G_15) ?_
            refine ev_st (st' := [.int p_15.1]) rfl ?_
            have e_15 := F_41_R G_15
            refine F_jn (A := vz_ev P0 (d + 7) 38 146 [(0, .ref 36), (1, .int x_1)] [.int (if p_15.1 = 0 then 0 else 1 : Int32)] (hp (p_15.2)) (.inl (some (.int p.1)), hp p.2)) ?_ (fun J => ?_)
            · obtain rfl := Option.some.inj H
              exact ev_iret rfl rfl rfl (fit_b (by (repeat' split) <;> decide))
            · by_cases c_16 : p_15.1 = 0
              · refine ev_b0 (t := 145) (p' := 145) rfl rfl rfl (if_pos c_16) ?_
                refine ev_x (i := .iconst 0) (len := 1) (p' := 146) (s' := [.int 0]) rfl rfl rfl ?_
                exact ev_st (congrArg (fun z => Value.int z :: []) (by rw [if_pos c_16])) J
              · refine ev_b0 (t := 145) (p' := 141) rfl rfl rfl (if_neg c_16) ?_
                refine ev_x (i := .iconst 1) (len := 1) (p' := 142) (s' := [.int 1]) rfl rfl rfl ?_
                refine ev_x (i := .goto 4) (len := 3) (p' := 146) (s' := [.int 1]) rfl rfl rfl ?_
                exact ev_st (congrArg (fun z => Value.int z :: []) (by rw [if_neg c_16])) J
          · refine ev_b2 (t := 145) (p' := 145) rfl rfl rfl (if_pos c_14) ?_
            refine ev_x (i := .iconst 0) (len := 1) (p' := 146) (s' := [.int 0]) rfl rfl rfl ?_
            obtain rfl := Option.some.inj H
            exact ev_iret rfl rfl rfl rfl
        · refine F_if H (fun c_17 H => ?_) (fun c_17 H => ?_)
          · refine ev_st (st' := [.int 6]) (congrArg (fun z => Value.int z :: []) c_17) ?_
            refine ev_ts (off := 117) (t := 147) rfl rfl (by decide) rfl ?_
            refine ev_x (i := .aload_n 0) (len := 1) (p' := 148) (s' := [.ref 36]) rfl rfl rfl ?_
            refine ev_gr (p' := 151) (v := 21) rfl rfl rfl ly_36 rfl rfl ((congrFun (congrFun e_1 36) 7).trans hr_36_7) ?_
            refine ev_gc (p' := 154) (v := 23) rfl rfl rfl ly_21 rfl rfl ?_
            refine ev_x (i := .aload_n 0) (len := 1) (p' := 155) (s' := [.ref 36, .ref 23]) rfl rfl rfl ?_
            refine ev_gi (p' := 158) (v := (gI p_1.2 36 15)) rfl rfl rfl ly_36 rfl rfl rfl ?_
            refine ev_x (i := .aload_n 0) (len := 1) (p' := 159) (s' := [.ref 36, .int (gI p_1.2 36 15), .ref 23]) rfl rfl rfl ?_
            refine ev_gi (p' := 162) (v := (gI p_1.2 36 10)) rfl rfl rfl ly_36 rfl rfl rfl ?_
            obtain ⟨b_18, H⟩ := F_gd H
            refine ev_pa (j := ((gI p_1.2 36 15) : Int32).toNatClampNeg) (p' := 163) rfl rfl ly_23 rfl (gd_in b_18) rfl ?_
            refine ev_x (i := .iload_n 1) (len := 1) (p' := 164) (s' := [.int x_1]) rfl rfl rfl ?_
            refine ev_x (i := .bipush 58) (len := 2) (p' := 166) (s' := [.int 58, .int x_1]) rfl rfl rfl ?_
            refine F_if H (fun c_19 H => ?_) (fun c_19 H => ?_)
            · refine ev_b2 (t := 182) (p' := 169) rfl rfl rfl (if_neg (fun q => q c_19)) ?_
              refine ev_x (i := .aload_n 0) (len := 1) (p' := 170) (s' := [.ref 36]) rfl rfl rfl ?_
              refine ev_x (i := .bipush 6) (len := 2) (p' := 172) (s' := [.int 6, .ref 36]) rfl rfl rfl ?_
              obtain ⟨p_20, G_20, H⟩ := F_bd H
              refine ev_cv (d := d + 6) (As := [.int 6]) (a := 36) (p' := 175) rfl rfl rfl ly_36 rfl rfl rfl rfl rfl rfl rfl (F_32_ok (d := d + 5)   G_20) ?_
              refine ev_st (st' := [.int p_20.1]) rfl ?_
              have e_20 := F_32_R G_20
              refine F_jn (A := vz_ev P0 (d + 7) 38 183 [(0, .ref 36), (1, .int x_1)] [.int (if p_20.1 = 0 then 0 else 1 : Int32)] (hp (p_20.2)) (.inl (some (.int p.1)), hp p.2)) ?_ (fun J => ?_)
              · obtain rfl := Option.some.inj H
                exact ev_iret rfl rfl rfl (fit_b (by (repeat' split) <;> decide))
              · by_cases c_21 : p_20.1 = 0
                · refine ev_b0 (t := 182) (p' := 182) rfl rfl rfl (if_pos c_21) ?_
                  refine ev_x (i := .iconst 0) (len := 1) (p' := 183) (s' := [.int 0]) rfl rfl rfl ?_
                  exact ev_st (congrArg (fun z => Value.int z :: []) (by rw [if_pos c_21])) J
                · refine ev_b0 (t := 182) (p' := 178) rfl rfl rfl (if_neg c_21) ?_
                  refine ev_x (i := .iconst 1) (len := 1) (p' := 179) (s' := [.int 1]) rfl rfl rfl ?_
                  refine ev_x (i := .goto 4) (len := 3) (p' := 183) (s' := [.int 1]) rfl rfl rfl ?_
                  exact ev_st (congrArg (fun z => Value.int z :: []) (by rw [if_neg c_21])) J
            · refine ev_b2 (t := 182) (p' := 182) rfl rfl rfl (if_pos c_19) ?_
              refine ev_x (i := .iconst 0) (len := 1) (p' := 183) (s' := [.int 0]) rfl rfl rfl ?_
              obtain rfl := Option.some.inj H
              exact ev_iret rfl rfl rfl rfl
          · refine F_if H (fun c_22 H => ?_) (fun c_22 H => ?_)
            · refine ev_st (st' := [.int 7]) (congrArg (fun z => Value.int z :: []) c_22) ?_
              refine ev_ts (off := 154) (t := 184) rfl rfl (by decide) rfl ?_
              refine ev_x (i := .iload_n 1) (len := 1) (p' := 185) (s' := [.int x_1]) rfl rfl rfl ?_
              refine ev_x (i := .bipush 41) (len := 2) (p' := 187) (s' := [.int 41, .int x_1]) rfl rfl rfl ?_
              refine F_if H (fun c_23 H => ?_) (fun c_23 H => ?_)
              · refine ev_b2 (t := 203) (p' := 190) rfl rfl rfl (if_neg (fun q => q c_23)) ?_
                refine ev_x (i := .aload_n 0) (len := 1) (p' := 191) (s' := [.ref 36]) rfl rfl rfl ?_
                refine ev_x (i := .bipush 12) (len := 2) (p' := 193) (s' := [.int 12, .ref 36]) rfl rfl rfl ?_
                obtain ⟨p_24, G_24, H⟩ := F_bd H
                refine ev_cv (d := d + 6) (As := [.int 12]) (a := 36) (p' := 196) rfl rfl rfl ly_36 rfl rfl rfl rfl rfl rfl rfl (F_32_ok (d := d + 5)   G_24) ?_
                refine ev_st (st' := [.int p_24.1]) rfl ?_
                have e_24 := F_32_R G_24
                refine F_jn (A := vz_ev P0 (d + 7) 38 204 [(0, .ref 36), (1, .int x_1)] [.int (if p_24.1 = 0 then 0 else 1 : Int32)] (hp (p_24.2)) (.inl (some (.int p.1)), hp p.2)) ?_ (fun J => ?_)
                · obtain rfl := Option.some.inj H
                  exact ev_iret rfl rfl rfl (fit_b (by (repeat' split) <;> decide))
                · by_cases c_25 : p_24.1 = 0
                  · refine ev_b0 (t := 203) (p' := 203) rfl rfl rfl (if_pos c_25) ?_
                    refine ev_x (i := .iconst 0) (len := 1) (p' := 204) (s' := [.int 0]) rfl rfl rfl ?_
                    exact ev_st (congrArg (fun z => Value.int z :: []) (by rw [if_pos c_25])) J
                  · refine ev_b0 (t := 203) (p' := 199) rfl rfl rfl (if_neg c_25) ?_
                    refine ev_x (i := .iconst 1) (len := 1) (p' := 200) (s' := [.int 1]) rfl rfl rfl ?_
                    refine ev_x (i := .goto 4) (len := 3) (p' := 204) (s' := [.int 1]) rfl rfl rfl ?_
                    exact ev_st (congrArg (fun z => Value.int z :: []) (by rw [if_neg c_25])) J
              · refine ev_b2 (t := 203) (p' := 203) rfl rfl rfl (if_pos c_23) ?_
                refine ev_x (i := .iconst 0) (len := 1) (p' := 204) (s' := [.int 0]) rfl rfl rfl ?_
                obtain rfl := Option.some.inj H
                exact ev_iret rfl rfl rfl rfl
            · have n_1 : (1 : Int) ≠ ((gI p_1.2 36 9) : Int32).toInt := i32_ne (k := 1) (by decide) c_2
              have n_2 : (2 : Int) ≠ ((gI p_1.2 36 9) : Int32).toInt := i32_ne (k := 2) (by decide) c_6
              have n_5 : (5 : Int) ≠ ((gI p_1.2 36 9) : Int32).toInt := i32_ne (k := 5) (by decide) c_13
              have n_6 : (6 : Int) ≠ ((gI p_1.2 36 9) : Int32).toInt := i32_ne (k := 6) (by decide) c_17
              have n_7 : (7 : Int) ≠ ((gI p_1.2 36 9) : Int32).toInt := i32_ne (k := 7) (by decide) c_22
              refine ev_ts (off := 175) (t := 205) rfl rfl ?hsw rfl ?_
              case hsw =>
                by_cases hq : ((gI p_1.2 36 9) : Int32).toInt < 1 ∨ 7 < ((gI p_1.2 36 9) : Int32).toInt
                · exact if_pos hq
                · rw [if_neg hq]
                  have hw : ((gI p_1.2 36 9) : Int32).toInt = 3 ∨ ((gI p_1.2 36 9) : Int32).toInt = 4 := by omega
                  rcases hw with hw | hw <;> rw [hw] <;> rfl
              refine ev_x (i := .iload_n 1) (len := 1) (p' := 206) (s' := [.int x_1]) rfl rfl rfl ?_
              refine ev_x (i := .bipush 59) (len := 2) (p' := 208) (s' := [.int 59, .int x_1]) rfl rfl rfl ?_
              refine F_if H (fun c_26 H => ?_) (fun c_26 H => ?_)
              · refine ev_b2 (t := 222) (p' := 211) rfl rfl rfl (if_neg (fun q => q c_26)) ?_
                refine ev_x (i := .aload_n 0) (len := 1) (p' := 212) (s' := [.ref 36]) rfl rfl rfl ?_
                obtain ⟨p_27, G_27, H⟩ := F_bd H
                refine ev_cv (d := d + 6) (As := []) (a := 36) (p' := 215) rfl rfl rfl ly_36 rfl rfl rfl rfl rfl rfl rfl (F_40_ok (d := d + 0) (ht := (Or.inr rfl)) (hr_36_7 := ((congrFun (congrFun e_1 36) 7).trans hr_36_7)) G_27) ?_
                refine ev_st (st' := [.int p_27.1]) rfl ?_
                have e_27 := F_40_R G_27
                refine F_jn (A := vz_ev P0 (d + 7) 38 223 [(0, .ref 36), (1, .int x_1)] [.int (if p_27.1 = 0 then 0 else 1 : Int32)] (hp (p_27.2)) (.inl (some (.int p.1)), hp p.2)) ?_ (fun J => ?_)
                · obtain rfl := Option.some.inj H
                  exact ev_iret rfl rfl rfl (fit_b (by (repeat' split) <;> decide))
                · by_cases c_28 : p_27.1 = 0
                  · refine ev_b0 (t := 222) (p' := 222) rfl rfl rfl (if_pos c_28) ?_
                    refine ev_x (i := .iconst 0) (len := 1) (p' := 223) (s' := [.int 0]) rfl rfl rfl ?_
                    exact ev_st (congrArg (fun z => Value.int z :: []) (by rw [if_pos c_28])) J
                  · refine ev_b0 (t := 222) (p' := 218) rfl rfl rfl (if_neg c_28) ?_
                    refine ev_x (i := .iconst 1) (len := 1) (p' := 219) (s' := [.int 1]) rfl rfl rfl ?_
                    refine ev_x (i := .goto 4) (len := 3) (p' := 223) (s' := [.int 1]) rfl rfl rfl ?_
                    exact ev_st (congrArg (fun z => Value.int z :: []) (by rw [if_neg c_28])) J
              · refine ev_b2 (t := 222) (p' := 222) rfl rfl rfl (if_pos c_26) ?_
                refine ev_x (i := .iconst 0) (len := 1) (p' := 223) (s' := [.int 0]) rfl rfl rfl ?_
                obtain rfl := Option.some.inj H
                exact ev_iret rfl rfl rfl rfl
/-- GameText$Parser.takesOtherwise(I)Z -/
def F_42 (N : Nat) (t : Nat) (x_1 : Int32) (σ : st_S) : Option (Int32 × st_S) :=
  (F_30 N t 25 (gI σ 2 4) (-1) (-1) (-1) (σ)).bind fun p_1 =>
  if aB x_1 (gN p_1.2 41) then
  if aB (gE (p_1.2) 41 (x_1 : Int32).toNatClampNeg) (gN p_1.2 (t + 6)) then
  if aB x_1 (gN p_1.2 37) then
  if aB x_1 (gN p_1.2 40) then
  (F_32 N 14 (st_e (st_e (st_e (st_e (p_1.2) (t + 6) (((gE (p_1.2) 41 (x_1 : Int32).toNatClampNeg) : Int32).toNatClampNeg) (gI p_1.2 (t + 1) 8)) 37 ((x_1 : Int32).toNatClampNeg) 19) 40 ((x_1 : Int32).toNatClampNeg) (gI p_1.2 36 13)) 41 ((x_1 : Int32).toNatClampNeg) p_1.1)).bind fun p_6 =>
  if (p_6.1 = 0 ∨ p_6.1 = 1) then
  some (p_6.1, p_6.2)
  else none
  else none
  else none
  else none
  else none
set_option maxRecDepth 100000 in
theorem F_42_R {N : Nat} {t : Nat} {x_1 : Int32} {σ : st_S} {p : Int32 × st_S} (H : F_42 N t x_1 σ = some p) : gR p.2 = gR σ := by
  unfold F_42 at H
  obtain ⟨p_1, G_1, H⟩ := F_bd H
  obtain ⟨_, H⟩ := F_gd H
  obtain ⟨_, H⟩ := F_gd H
  obtain ⟨_, H⟩ := F_gd H
  obtain ⟨_, H⟩ := F_gd H
  obtain ⟨p_6, G_6, H⟩ := F_bd H
  obtain ⟨_, H⟩ := F_gd H
  obtain rfl := Option.some.inj H
  exact ((F_32_R G_6).trans ((F_30_R G_1).trans rfl))
set_option maxHeartbeats 4000000 in
set_option maxRecDepth 100000 in
theorem F_42_ok {N d : Nat} {t : Nat} (ht : t = 4 ∨ t = 20) {x_1 : Int32} {σ : st_S} {p : Int32 × st_S} (hr_36_7 : gR σ 36 7 = (t + 1)) (H : F_42 N t x_1 σ = some p) : vz_ev P0 (d + 6) 42 0 (lv_args 0 [.ref 36, .int x_1]) [] (hp σ) (.inl (some (.int p.1)), hp p.2) := by
  unfold F_42 at H
  rcases ht with rfl | rfl
  · refine ev_x (i := .aload_n 0) (len := 1) (p' := 1) (s' := [.ref 36]) rfl rfl rfl ?_
    refine ev_gr (p' := 4) (v := 5) rfl rfl rfl ly_36 rfl rfl hr_36_7 ?_
    refine ev_x (i := .bipush 25) (len := 2) (p' := 6) (s' := [.int 25, .ref 5]) rfl rfl rfl ?_
    refine ev_x (i := .aload_n 0) (len := 1) (p' := 7) (s' := [.ref 36, .int 25, .ref 5]) rfl rfl rfl ?_
    refine ev_gc (p' := 10) (v := 2) rfl rfl rfl ly_36 rfl rfl ?_
    refine ev_gi (p' := 13) (v := (gI σ 2 4)) rfl rfl rfl ly_2 rfl rfl rfl ?_
    refine ev_x (i := .iconst (-1)) (len := 1) (p' := 14) (s' := [.int (-1), .int (gI σ 2 4), .int 25, .ref 5]) rfl rfl rfl ?_
    refine ev_x (i := .iconst (-1)) (len := 1) (p' := 15) (s' := [.int (-1), .int (-1), .int (gI σ 2 4), .int 25, .ref 5]) rfl rfl rfl ?_
    refine ev_x (i := .iconst (-1)) (len := 1) (p' := 16) (s' := [.int (-1), .int (-1), .int (-1), .int (gI σ 2 4), .int 25, .ref 5]) rfl rfl rfl ?_
    obtain ⟨p_1, G_1, H⟩ := F_bd H
    refine ev_cv (d := d + 5) (As := [.int 25, .int (gI σ 2 4), .int (-1), .int (-1), .int (-1)]) (a := 5) (p' := 19) rfl rfl rfl ly_5 rfl rfl rfl rfl rfl rfl rfl (F_30_ok (d := d + 0) (ht := (Or.inl rfl))  G_1) ?_
    refine ev_st (st' := [.int p_1.1]) rfl ?_
    have e_1 := F_30_R G_1
    refine ev_x (i := .istore_n 2) (len := 1) (p' := 20) (s' := []) (l' := [(2, .int p_1.1), (0, .ref 36), (1, .int x_1)]) rfl rfl rfl ?_
    refine ev_x (i := .aload_n 0) (len := 1) (p' := 21) (s' := [.ref 36]) rfl rfl rfl ?_
    refine ev_gr (p' := 24) (v := 5) rfl rfl rfl ly_36 rfl rfl ((congrFun (congrFun e_1 36) 7).trans hr_36_7) ?_
    refine ev_gc (p' := 27) (v := 10) rfl rfl rfl ly_5 rfl rfl ?_
    refine ev_x (i := .aload_n 0) (len := 1) (p' := 28) (s' := [.ref 36, .ref 10]) rfl rfl rfl ?_
    refine ev_gc (p' := 31) (v := 41) rfl rfl rfl ly_36 rfl rfl ?_
    refine ev_x (i := .iload_n 1) (len := 1) (p' := 32) (s' := [.int x_1, .ref 41, .ref 10]) rfl rfl rfl ?_
    obtain ⟨b_2, H⟩ := F_gd H
    refine ev_ga (p' := 33) (v := (gE (p_1.2) 41 (x_1 : Int32).toNatClampNeg)) rfl rfl ly_41 rfl (gd_in b_2) rfl ?_
    refine ev_x (i := .aload_n 0) (len := 1) (p' := 34) (s' := [.ref 36, .int (gE (p_1.2) 41 (x_1 : Int32).toNatClampNeg), .ref 10]) rfl rfl rfl ?_
    refine ev_gr (p' := 37) (v := 5) rfl rfl rfl ly_36 rfl rfl ((congrFun (congrFun e_1 36) 7).trans hr_36_7) ?_
    refine ev_gi (p' := 40) (v := (gI p_1.2 5 8)) rfl rfl rfl ly_5 rfl rfl rfl ?_
    obtain ⟨b_3, H⟩ := F_gd H
    refine ev_pa (j := ((gE (p_1.2) 41 (x_1 : Int32).toNatClampNeg) : Int32).toNatClampNeg) (p' := 41) rfl rfl ly_10 rfl (gd_in b_3) rfl ?_
    refine ev_x (i := .aload_n 0) (len := 1) (p' := 42) (s' := [.ref 36]) rfl rfl rfl ?_
    refine ev_gc (p' := 45) (v := 37) rfl rfl rfl ly_36 rfl rfl ?_
    refine ev_x (i := .iload_n 1) (len := 1) (p' := 46) (s' := [.int x_1, .ref 37]) rfl rfl rfl ?_
    refine ev_x (i := .bipush 19) (len := 2) (p' := 48) (s' := [.int 19, .int x_1, .ref 37]) rfl rfl rfl ?_
    obtain ⟨b_4, H⟩ := F_gd H
    refine ev_pa (j := (x_1 : Int32).toNatClampNeg) (p' := 49) rfl rfl ly_37 rfl (gd_in b_4) rfl ?_
    refine ev_x (i := .aload_n 0) (len := 1) (p' := 50) (s' := [.ref 36]) rfl rfl rfl ?_
    refine ev_gc (p' := 53) (v := 40) rfl rfl rfl ly_36 rfl rfl ?_
    refine ev_x (i := .iload_n 1) (len := 1) (p' := 54) (s' := [.int x_1, .ref 40]) rfl rfl rfl ?_
    refine ev_x (i := .aload_n 0) (len := 1) (p' := 55) (s' := [.ref 36, .int x_1, .ref 40]) rfl rfl rfl ?_
    refine ev_gi (p' := 58) (v := (gI p_1.2 36 13)) rfl rfl rfl ly_36 rfl rfl rfl ?_
    obtain ⟨b_5, H⟩ := F_gd H
    refine ev_pa (j := (x_1 : Int32).toNatClampNeg) (p' := 59) rfl rfl ly_40 rfl (gd_in b_5) rfl ?_
    refine ev_x (i := .aload_n 0) (len := 1) (p' := 60) (s' := [.ref 36]) rfl rfl rfl ?_
    refine ev_gc (p' := 63) (v := 41) rfl rfl rfl ly_36 rfl rfl ?_
    refine ev_x (i := .iload_n 1) (len := 1) (p' := 64) (s' := [.int x_1, .ref 41]) rfl rfl rfl ?_
    refine ev_x (i := .iload_n 2) (len := 1) (p' := 65) (s' := [.int p_1.1, .int x_1, .ref 41]) rfl rfl rfl ?_
    refine ev_pa (j := (x_1 : Int32).toNatClampNeg) (p' := 66) rfl rfl ly_41 rfl (gd_in b_2) rfl ?_
    refine ev_x (i := .aload_n 0) (len := 1) (p' := 67) (s' := [.ref 36]) rfl rfl rfl ?_
    refine ev_x (i := .bipush 14) (len := 2) (p' := 69) (s' := [.int 14, .ref 36]) rfl rfl rfl ?_
    obtain ⟨p_6, G_6, H⟩ := F_bd H
    refine ev_cv (d := d + 5) (As := [.int 14]) (a := 36) (p' := 72) rfl rfl rfl ly_36 rfl rfl rfl rfl rfl rfl rfl (F_32_ok (d := d + 4)   G_6) ?_
    refine ev_st (st' := [.int p_6.1]) rfl ?_
    have e_6 := F_32_R G_6
    obtain ⟨b_7, H⟩ := F_gd H
    obtain rfl := Option.some.inj H
    exact ev_iret rfl rfl rfl (fit_b b_7)
  · refine ev_x (i := .aload_n 0) (len := 1) (p' := 1) (s' := [.ref 36]) rfl rfl rfl ?_
    refine ev_gr (p' := 4) (v := 21) rfl rfl rfl ly_36 rfl rfl hr_36_7 ?_
    refine ev_x (i := .bipush 25) (len := 2) (p' := 6) (s' := [.int 25, .ref 21]) rfl rfl rfl ?_
    refine ev_x (i := .aload_n 0) (len := 1) (p' := 7) (s' := [.ref 36, .int 25, .ref 21]) rfl rfl rfl ?_
    refine ev_gc (p' := 10) (v := 2) rfl rfl rfl ly_36 rfl rfl ?_
    refine ev_gi (p' := 13) (v := (gI σ 2 4)) rfl rfl rfl ly_2 rfl rfl rfl ?_
    refine ev_x (i := .iconst (-1)) (len := 1) (p' := 14) (s' := [.int (-1), .int (gI σ 2 4), .int 25, .ref 21]) rfl rfl rfl ?_
    refine ev_x (i := .iconst (-1)) (len := 1) (p' := 15) (s' := [.int (-1), .int (-1), .int (gI σ 2 4), .int 25, .ref 21]) rfl rfl rfl ?_
    refine ev_x (i := .iconst (-1)) (len := 1) (p' := 16) (s' := [.int (-1), .int (-1), .int (-1), .int (gI σ 2 4), .int 25, .ref 21]) rfl rfl rfl ?_
    obtain ⟨p_1, G_1, H⟩ := F_bd H
    refine ev_cv (d := d + 5) (As := [.int 25, .int (gI σ 2 4), .int (-1), .int (-1), .int (-1)]) (a := 21) (p' := 19) rfl rfl rfl ly_21 rfl rfl rfl rfl rfl rfl rfl (F_30_ok (d := d + 0) (ht := (Or.inr rfl))  G_1) ?_
    refine ev_st (st' := [.int p_1.1]) rfl ?_
    have e_1 := F_30_R G_1
    refine ev_x (i := .istore_n 2) (len := 1) (p' := 20) (s' := []) (l' := [(2, .int p_1.1), (0, .ref 36), (1, .int x_1)]) rfl rfl rfl ?_
    refine ev_x (i := .aload_n 0) (len := 1) (p' := 21) (s' := [.ref 36]) rfl rfl rfl ?_
    refine ev_gr (p' := 24) (v := 21) rfl rfl rfl ly_36 rfl rfl ((congrFun (congrFun e_1 36) 7).trans hr_36_7) ?_
    refine ev_gc (p' := 27) (v := 26) rfl rfl rfl ly_21 rfl rfl ?_
    refine ev_x (i := .aload_n 0) (len := 1) (p' := 28) (s' := [.ref 36, .ref 26]) rfl rfl rfl ?_
    refine ev_gc (p' := 31) (v := 41) rfl rfl rfl ly_36 rfl rfl ?_
    refine ev_x (i := .iload_n 1) (len := 1) (p' := 32) (s' := [.int x_1, .ref 41, .ref 26]) rfl rfl rfl ?_
    obtain ⟨b_2, H⟩ := F_gd H
    refine ev_ga (p' := 33) (v := (gE (p_1.2) 41 (x_1 : Int32).toNatClampNeg)) rfl rfl ly_41 rfl (gd_in b_2) rfl ?_
    refine ev_x (i := .aload_n 0) (len := 1) (p' := 34) (s' := [.ref 36, .int (gE (p_1.2) 41 (x_1 : Int32).toNatClampNeg), .ref 26]) rfl rfl rfl ?_
    refine ev_gr (p' := 37) (v := 21) rfl rfl rfl ly_36 rfl rfl ((congrFun (congrFun e_1 36) 7).trans hr_36_7) ?_
    refine ev_gi (p' := 40) (v := (gI p_1.2 21 8)) rfl rfl rfl ly_21 rfl rfl rfl ?_
    obtain ⟨b_3, H⟩ := F_gd H
    refine ev_pa (j := ((gE (p_1.2) 41 (x_1 : Int32).toNatClampNeg) : Int32).toNatClampNeg) (p' := 41) rfl rfl ly_26 rfl (gd_in b_3) rfl ?_
    refine ev_x (i := .aload_n 0) (len := 1) (p' := 42) (s' := [.ref 36]) rfl rfl rfl ?_
    refine ev_gc (p' := 45) (v := 37) rfl rfl rfl ly_36 rfl rfl ?_
    refine ev_x (i := .iload_n 1) (len := 1) (p' := 46) (s' := [.int x_1, .ref 37]) rfl rfl rfl ?_
    refine ev_x (i := .bipush 19) (len := 2) (p' := 48) (s' := [.int 19, .int x_1, .ref 37]) rfl rfl rfl ?_
    obtain ⟨b_4, H⟩ := F_gd H
    refine ev_pa (j := (x_1 : Int32).toNatClampNeg) (p' := 49) rfl rfl ly_37 rfl (gd_in b_4) rfl ?_
    refine ev_x (i := .aload_n 0) (len := 1) (p' := 50) (s' := [.ref 36]) rfl rfl rfl ?_
    refine ev_gc (p' := 53) (v := 40) rfl rfl rfl ly_36 rfl rfl ?_
    refine ev_x (i := .iload_n 1) (len := 1) (p' := 54) (s' := [.int x_1, .ref 40]) rfl rfl rfl ?_
    refine ev_x (i := .aload_n 0) (len := 1) (p' := 55) (s' := [.ref 36, .int x_1, .ref 40]) rfl rfl rfl ?_
    refine ev_gi (p' := 58) (v := (gI p_1.2 36 13)) rfl rfl rfl ly_36 rfl rfl rfl ?_
    obtain ⟨b_5, H⟩ := F_gd H
    refine ev_pa (j := (x_1 : Int32).toNatClampNeg) (p' := 59) rfl rfl ly_40 rfl (gd_in b_5) rfl ?_
    refine ev_x (i := .aload_n 0) (len := 1) (p' := 60) (s' := [.ref 36]) rfl rfl rfl ?_
    refine ev_gc (p' := 63) (v := 41) rfl rfl rfl ly_36 rfl rfl ?_
    refine ev_x (i := .iload_n 1) (len := 1) (p' := 64) (s' := [.int x_1, .ref 41]) rfl rfl rfl ?_
    refine ev_x (i := .iload_n 2) (len := 1) (p' := 65) (s' := [.int p_1.1, .int x_1, .ref 41]) rfl rfl rfl ?_
    refine ev_pa (j := (x_1 : Int32).toNatClampNeg) (p' := 66) rfl rfl ly_41 rfl (gd_in b_2) rfl ?_
    refine ev_x (i := .aload_n 0) (len := 1) (p' := 67) (s' := [.ref 36]) rfl rfl rfl ?_
    refine ev_x (i := .bipush 14) (len := 2) (p' := 69) (s' := [.int 14, .ref 36]) rfl rfl rfl ?_
    obtain ⟨p_6, G_6, H⟩ := F_bd H
    refine ev_cv (d := d + 5) (As := [.int 14]) (a := 36) (p' := 72) rfl rfl rfl ly_36 rfl rfl rfl rfl rfl rfl rfl (F_32_ok (d := d + 4)   G_6) ?_
    refine ev_st (st' := [.int p_6.1]) rfl ?_
    have e_6 := F_32_R G_6
    obtain ⟨b_7, H⟩ := F_gd H
    obtain rfl := Option.some.inj H
    exact ev_iret rfl rfl rfl (fit_b b_7)
/-- GameText$Parser.foldsList(I)V -/
def F_43 (N : Nat) (t : Nat) (x_1 : Int32) (σ : st_S) : Option (st_S) :=
  if aB x_1 (gN σ 40) then
  if (gE (σ) 40 (x_1 : Int32).toNatClampNeg) < 0 then
    some (st_e (σ) 40 ((x_1 : Int32).toNatClampNeg) (gI σ 36 13))
  else
    if aB x_1 (gN σ 37) then
    if aB x_1 (gN σ 38) then
    (F_30 N t (gE (σ) 37 (x_1 : Int32).toNatClampNeg) (gE (σ) 38 (x_1 : Int32).toNatClampNeg) (gE (σ) 40 (x_1 : Int32).toNatClampNeg) (gI σ 36 13) (-1) (σ)).bind fun p_5 =>
    if aB x_1 (gN p_5.2 40) then
    some (st_e (st_i (p_5.2) 36 13 p_5.1) 40 ((x_1 : Int32).toNatClampNeg) p_5.1)
    else none
    else none
    else none
  else none
set_option maxRecDepth 100000 in
theorem F_43_R {N : Nat} {t : Nat} {x_1 : Int32} {σ : st_S} {p : st_S} (H : F_43 N t x_1 σ = some p) : gR p = gR σ := by
  unfold F_43 at H
  obtain ⟨_, H⟩ := F_gd H
  refine F_if H (fun _ H => ?_) (fun _ H => ?_)
  · obtain rfl := Option.some.inj H
    exact rfl
  · obtain ⟨_, H⟩ := F_gd H
    obtain ⟨_, H⟩ := F_gd H
    obtain ⟨p_5, G_5, H⟩ := F_bd H
    obtain ⟨_, H⟩ := F_gd H
    obtain rfl := Option.some.inj H
    exact ((F_30_R G_5).trans rfl)
set_option maxHeartbeats 4000000 in
set_option maxRecDepth 100000 in
theorem F_43_ok {N d : Nat} {t : Nat} (ht : t = 4 ∨ t = 20) {x_1 : Int32} {σ : st_S} {p : st_S} (hr_36_7 : gR σ 36 7 = (t + 1)) (H : F_43 N t x_1 σ = some p) : vz_ev P0 (d + 6) 43 0 (lv_args 0 [.ref 36, .int x_1]) [] (hp σ) (.inl none, hp p) := by
  unfold F_43 at H
  rcases ht with rfl | rfl
  · refine ev_x (i := .aload_n 0) (len := 1) (p' := 1) (s' := [.ref 36]) rfl rfl rfl ?_
    refine ev_gc (p' := 4) (v := 40) rfl rfl rfl ly_36 rfl rfl ?_
    refine ev_x (i := .iload_n 1) (len := 1) (p' := 5) (s' := [.int x_1, .ref 40]) rfl rfl rfl ?_
    obtain ⟨b_1, H⟩ := F_gd H
    refine ev_ga (p' := 6) (v := (gE (σ) 40 (x_1 : Int32).toNatClampNeg)) rfl rfl ly_40 rfl (gd_in b_1) rfl ?_
    refine F_if H (fun c_2 H => ?_) (fun c_2 H => ?_)
    · refine ev_b0 (t := 43) (p' := 43) rfl rfl rfl (if_pos c_2) ?_
      refine ev_x (i := .aload_n 0) (len := 1) (p' := 44) (s' := [.ref 36]) rfl rfl rfl ?_
      refine ev_gc (p' := 47) (v := 40) rfl rfl rfl ly_36 rfl rfl ?_
      refine ev_x (i := .iload_n 1) (len := 1) (p' := 48) (s' := [.int x_1, .ref 40]) rfl rfl rfl ?_
      refine ev_x (i := .aload_n 0) (len := 1) (p' := 49) (s' := [.ref 36, .int x_1, .ref 40]) rfl rfl rfl ?_
      refine ev_gi (p' := 52) (v := (gI σ 36 13)) rfl rfl rfl ly_36 rfl rfl rfl ?_
      refine ev_pa (j := (x_1 : Int32).toNatClampNeg) (p' := 53) rfl rfl ly_40 rfl (gd_in b_1) rfl ?_
      obtain rfl := Option.some.inj H
      exact ev_vret rfl rfl rfl
    · refine ev_b0 (t := 43) (p' := 9) rfl rfl rfl (if_neg c_2) ?_
      refine ev_x (i := .aload_n 0) (len := 1) (p' := 10) (s' := [.ref 36]) rfl rfl rfl ?_
      refine ev_x (i := .aload_n 0) (len := 1) (p' := 11) (s' := [.ref 36, .ref 36]) rfl rfl rfl ?_
      refine ev_gr (p' := 14) (v := 5) rfl rfl rfl ly_36 rfl rfl hr_36_7 ?_
      refine ev_x (i := .aload_n 0) (len := 1) (p' := 15) (s' := [.ref 36, .ref 5, .ref 36]) rfl rfl rfl ?_
      refine ev_gc (p' := 18) (v := 37) rfl rfl rfl ly_36 rfl rfl ?_
      refine ev_x (i := .iload_n 1) (len := 1) (p' := 19) (s' := [.int x_1, .ref 37, .ref 5, .ref 36]) rfl rfl rfl ?_
      obtain ⟨b_3, H⟩ := F_gd H
      refine ev_ga (p' := 20) (v := (gE (σ) 37 (x_1 : Int32).toNatClampNeg)) rfl rfl ly_37 rfl (gd_in b_3) rfl ?_
      refine ev_x (i := .aload_n 0) (len := 1) (p' := 21) (s' := [.ref 36, .int (gE (σ) 37 (x_1 : Int32).toNatClampNeg), .ref 5, .ref 36]) rfl rfl rfl ?_
      refine ev_gc (p' := 24) (v := 38) rfl rfl rfl ly_36 rfl rfl ?_
      refine ev_x (i := .iload_n 1) (len := 1) (p' := 25) (s' := [.int x_1, .ref 38, .int (gE (σ) 37 (x_1 : Int32).toNatClampNeg), .ref 5, .ref 36]) rfl rfl rfl ?_
      obtain ⟨b_4, H⟩ := F_gd H
      refine ev_ga (p' := 26) (v := (gE (σ) 38 (x_1 : Int32).toNatClampNeg)) rfl rfl ly_38 rfl (gd_in b_4) rfl ?_
      refine ev_x (i := .aload_n 0) (len := 1) (p' := 27) (s' := [.ref 36, .int (gE (σ) 38 (x_1 : Int32).toNatClampNeg), .int (gE (σ) 37 (x_1 : Int32).toNatClampNeg), .ref 5, .ref 36]) rfl rfl rfl ?_
      refine ev_gc (p' := 30) (v := 40) rfl rfl rfl ly_36 rfl rfl ?_
      refine ev_x (i := .iload_n 1) (len := 1) (p' := 31) (s' := [.int x_1, .ref 40, .int (gE (σ) 38 (x_1 : Int32).toNatClampNeg), .int (gE (σ) 37 (x_1 : Int32).toNatClampNeg), .ref 5, .ref 36]) rfl rfl rfl ?_
      refine ev_ga (p' := 32) (v := (gE (σ) 40 (x_1 : Int32).toNatClampNeg)) rfl rfl ly_40 rfl (gd_in b_1) rfl ?_
      refine ev_x (i := .aload_n 0) (len := 1) (p' := 33) (s' := [.ref 36, .int (gE (σ) 40 (x_1 : Int32).toNatClampNeg), .int (gE (σ) 38 (x_1 : Int32).toNatClampNeg), .int (gE (σ) 37 (x_1 : Int32).toNatClampNeg), .ref 5, .ref 36]) rfl rfl rfl ?_
      refine ev_gi (p' := 36) (v := (gI σ 36 13)) rfl rfl rfl ly_36 rfl rfl rfl ?_
      refine ev_x (i := .iconst (-1)) (len := 1) (p' := 37) (s' := [.int (-1), .int (gI σ 36 13), .int (gE (σ) 40 (x_1 : Int32).toNatClampNeg), .int (gE (σ) 38 (x_1 : Int32).toNatClampNeg), .int (gE (σ) 37 (x_1 : Int32).toNatClampNeg), .ref 5, .ref 36]) rfl rfl rfl ?_
      obtain ⟨p_5, G_5, H⟩ := F_bd H
      refine ev_cv (d := d + 5) (As := [.int (gE (σ) 37 (x_1 : Int32).toNatClampNeg), .int (gE (σ) 38 (x_1 : Int32).toNatClampNeg), .int (gE (σ) 40 (x_1 : Int32).toNatClampNeg), .int (gI σ 36 13), .int (-1)]) (a := 5) (p' := 40) rfl rfl rfl ly_5 rfl rfl rfl rfl rfl rfl rfl (F_30_ok (d := d + 0) (ht := (Or.inl rfl))  G_5) ?_
      refine ev_st (st' := [.int p_5.1, .ref 36]) rfl ?_
      have e_5 := F_30_R G_5
      refine ev_pi (p' := 43) rfl rfl rfl ly_36 rfl rfl rfl rfl ?_
      refine ev_x (i := .aload_n 0) (len := 1) (p' := 44) (s' := [.ref 36]) rfl rfl rfl ?_
      refine ev_gc (p' := 47) (v := 40) rfl rfl rfl ly_36 rfl rfl ?_
      refine ev_x (i := .iload_n 1) (len := 1) (p' := 48) (s' := [.int x_1, .ref 40]) rfl rfl rfl ?_
      refine ev_x (i := .aload_n 0) (len := 1) (p' := 49) (s' := [.ref 36, .int x_1, .ref 40]) rfl rfl rfl ?_
      refine ev_gi (p' := 52) (v := p_5.1) rfl rfl rfl ly_36 rfl rfl rfl ?_
      obtain ⟨b_6, H⟩ := F_gd H
      refine ev_pa (j := (x_1 : Int32).toNatClampNeg) (p' := 53) rfl rfl ly_40 rfl (gd_in b_6) rfl ?_
      obtain rfl := Option.some.inj H
      exact ev_vret rfl rfl rfl
  · refine ev_x (i := .aload_n 0) (len := 1) (p' := 1) (s' := [.ref 36]) rfl rfl rfl ?_
    refine ev_gc (p' := 4) (v := 40) rfl rfl rfl ly_36 rfl rfl ?_
    refine ev_x (i := .iload_n 1) (len := 1) (p' := 5) (s' := [.int x_1, .ref 40]) rfl rfl rfl ?_
    obtain ⟨b_1, H⟩ := F_gd H
    refine ev_ga (p' := 6) (v := (gE (σ) 40 (x_1 : Int32).toNatClampNeg)) rfl rfl ly_40 rfl (gd_in b_1) rfl ?_
    refine F_if H (fun c_2 H => ?_) (fun c_2 H => ?_)
    · refine ev_b0 (t := 43) (p' := 43) rfl rfl rfl (if_pos c_2) ?_
      refine ev_x (i := .aload_n 0) (len := 1) (p' := 44) (s' := [.ref 36]) rfl rfl rfl ?_
      refine ev_gc (p' := 47) (v := 40) rfl rfl rfl ly_36 rfl rfl ?_
      refine ev_x (i := .iload_n 1) (len := 1) (p' := 48) (s' := [.int x_1, .ref 40]) rfl rfl rfl ?_
      refine ev_x (i := .aload_n 0) (len := 1) (p' := 49) (s' := [.ref 36, .int x_1, .ref 40]) rfl rfl rfl ?_
      refine ev_gi (p' := 52) (v := (gI σ 36 13)) rfl rfl rfl ly_36 rfl rfl rfl ?_
      refine ev_pa (j := (x_1 : Int32).toNatClampNeg) (p' := 53) rfl rfl ly_40 rfl (gd_in b_1) rfl ?_
      obtain rfl := Option.some.inj H
      exact ev_vret rfl rfl rfl
    · refine ev_b0 (t := 43) (p' := 9) rfl rfl rfl (if_neg c_2) ?_
      refine ev_x (i := .aload_n 0) (len := 1) (p' := 10) (s' := [.ref 36]) rfl rfl rfl ?_
      refine ev_x (i := .aload_n 0) (len := 1) (p' := 11) (s' := [.ref 36, .ref 36]) rfl rfl rfl ?_
      refine ev_gr (p' := 14) (v := 21) rfl rfl rfl ly_36 rfl rfl hr_36_7 ?_
      refine ev_x (i := .aload_n 0) (len := 1) (p' := 15) (s' := [.ref 36, .ref 21, .ref 36]) rfl rfl rfl ?_
      refine ev_gc (p' := 18) (v := 37) rfl rfl rfl ly_36 rfl rfl ?_
      refine ev_x (i := .iload_n 1) (len := 1) (p' := 19) (s' := [.int x_1, .ref 37, .ref 21, .ref 36]) rfl rfl rfl ?_
      obtain ⟨b_3, H⟩ := F_gd H
      refine ev_ga (p' := 20) (v := (gE (σ) 37 (x_1 : Int32).toNatClampNeg)) rfl rfl ly_37 rfl (gd_in b_3) rfl ?_
      refine ev_x (i := .aload_n 0) (len := 1) (p' := 21) (s' := [.ref 36, .int (gE (σ) 37 (x_1 : Int32).toNatClampNeg), .ref 21, .ref 36]) rfl rfl rfl ?_
      refine ev_gc (p' := 24) (v := 38) rfl rfl rfl ly_36 rfl rfl ?_
      refine ev_x (i := .iload_n 1) (len := 1) (p' := 25) (s' := [.int x_1, .ref 38, .int (gE (σ) 37 (x_1 : Int32).toNatClampNeg), .ref 21, .ref 36]) rfl rfl rfl ?_
      obtain ⟨b_4, H⟩ := F_gd H
      refine ev_ga (p' := 26) (v := (gE (σ) 38 (x_1 : Int32).toNatClampNeg)) rfl rfl ly_38 rfl (gd_in b_4) rfl ?_
      refine ev_x (i := .aload_n 0) (len := 1) (p' := 27) (s' := [.ref 36, .int (gE (σ) 38 (x_1 : Int32).toNatClampNeg), .int (gE (σ) 37 (x_1 : Int32).toNatClampNeg), .ref 21, .ref 36]) rfl rfl rfl ?_
      refine ev_gc (p' := 30) (v := 40) rfl rfl rfl ly_36 rfl rfl ?_
      refine ev_x (i := .iload_n 1) (len := 1) (p' := 31) (s' := [.int x_1, .ref 40, .int (gE (σ) 38 (x_1 : Int32).toNatClampNeg), .int (gE (σ) 37 (x_1 : Int32).toNatClampNeg), .ref 21, .ref 36]) rfl rfl rfl ?_
      refine ev_ga (p' := 32) (v := (gE (σ) 40 (x_1 : Int32).toNatClampNeg)) rfl rfl ly_40 rfl (gd_in b_1) rfl ?_
      refine ev_x (i := .aload_n 0) (len := 1) (p' := 33) (s' := [.ref 36, .int (gE (σ) 40 (x_1 : Int32).toNatClampNeg), .int (gE (σ) 38 (x_1 : Int32).toNatClampNeg), .int (gE (σ) 37 (x_1 : Int32).toNatClampNeg), .ref 21, .ref 36]) rfl rfl rfl ?_
      refine ev_gi (p' := 36) (v := (gI σ 36 13)) rfl rfl rfl ly_36 rfl rfl rfl ?_
      refine ev_x (i := .iconst (-1)) (len := 1) (p' := 37) (s' := [.int (-1), .int (gI σ 36 13), .int (gE (σ) 40 (x_1 : Int32).toNatClampNeg), .int (gE (σ) 38 (x_1 : Int32).toNatClampNeg), .int (gE (σ) 37 (x_1 : Int32).toNatClampNeg), .ref 21, .ref 36]) rfl rfl rfl ?_
      obtain ⟨p_5, G_5, H⟩ := F_bd H
      refine ev_cv (d := d + 5) (As := [.int (gE (σ) 37 (x_1 : Int32).toNatClampNeg), .int (gE (σ) 38 (x_1 : Int32).toNatClampNeg), .int (gE (σ) 40 (x_1 : Int32).toNatClampNeg), .int (gI σ 36 13), .int (-1)]) (a := 21) (p' := 40) rfl rfl rfl ly_21 rfl rfl rfl rfl rfl rfl rfl (F_30_ok (d := d + 0) (ht := (Or.inr rfl))  G_5) ?_
      refine ev_st (st' := [.int p_5.1, .ref 36]) rfl ?_
      have e_5 := F_30_R G_5
      refine ev_pi (p' := 43) rfl rfl rfl ly_36 rfl rfl rfl rfl ?_
      refine ev_x (i := .aload_n 0) (len := 1) (p' := 44) (s' := [.ref 36]) rfl rfl rfl ?_
      refine ev_gc (p' := 47) (v := 40) rfl rfl rfl ly_36 rfl rfl ?_
      refine ev_x (i := .iload_n 1) (len := 1) (p' := 48) (s' := [.int x_1, .ref 40]) rfl rfl rfl ?_
      refine ev_x (i := .aload_n 0) (len := 1) (p' := 49) (s' := [.ref 36, .int x_1, .ref 40]) rfl rfl rfl ?_
      refine ev_gi (p' := 52) (v := p_5.1) rfl rfl rfl ly_36 rfl rfl rfl ?_
      obtain ⟨b_6, H⟩ := F_gd H
      refine ev_pa (j := (x_1 : Int32).toNatClampNeg) (p' := 53) rfl rfl ly_40 rfl (gd_in b_6) rfl ?_
      obtain rfl := Option.some.inj H
      exact ev_vret rfl rfl rfl
/-- GameText$Parser.closesList(I)Z -/
def F_44 (N : Nat) (t : Nat) (x_1 : Int32) (σ : st_S) : Option (Int32 × st_S) :=
  (F_43 N t x_1 (σ)).bind fun p_1 =>
  if aB x_1 (gN p_1 38) then
  (F_30 N t 22 (gE (p_1) 38 (x_1 : Int32).toNatClampNeg) (gI p_1 36 13) (-1) (-1) (p_1)).bind fun p_3 =>
  some (1, st_i (st_i (st_i (p_3.2) 36 13 p_3.1) 36 6 ((gI p_3.2 36 6) - 1)) 36 12 ((gI p_3.2 36 12) - 1))
  else none
set_option maxRecDepth 100000 in
theorem F_44_R {N : Nat} {t : Nat} {x_1 : Int32} {σ : st_S} {p : Int32 × st_S} (H : F_44 N t x_1 σ = some p) : gR p.2 = gR σ := by
  unfold F_44 at H
  obtain ⟨p_1, G_1, H⟩ := F_bd H
  obtain ⟨_, H⟩ := F_gd H
  obtain ⟨p_3, G_3, H⟩ := F_bd H
  obtain rfl := Option.some.inj H
  exact ((F_30_R G_3).trans ((F_43_R G_1).trans rfl))
set_option maxHeartbeats 4000000 in
set_option maxRecDepth 100000 in
theorem F_44_ok {N d : Nat} {t : Nat} (ht : t = 4 ∨ t = 20) {x_1 : Int32} {σ : st_S} {p : Int32 × st_S} (hr_36_7 : gR σ 36 7 = (t + 1)) (H : F_44 N t x_1 σ = some p) : vz_ev P0 (d + 7) 44 0 (lv_args 0 [.ref 36, .int x_1]) [] (hp σ) (.inl (some (.int p.1)), hp p.2) := by
  unfold F_44 at H
  rcases ht with rfl | rfl
  · refine ev_x (i := .aload_n 0) (len := 1) (p' := 1) (s' := [.ref 36]) rfl rfl rfl ?_
    refine ev_x (i := .iload_n 1) (len := 1) (p' := 2) (s' := [.int x_1, .ref 36]) rfl rfl rfl ?_
    obtain ⟨p_1, G_1, H⟩ := F_bd H
    refine ev_cv (d := d + 6) (As := [.int x_1]) (a := 36) (p' := 5) rfl rfl rfl ly_36 rfl rfl rfl rfl rfl rfl rfl (F_43_ok (d := d + 0) (ht := (Or.inl rfl)) (hr_36_7 := hr_36_7) G_1) ?_
    refine ev_st (st' := []) rfl ?_
    have e_1 := F_43_R G_1
    refine ev_x (i := .aload_n 0) (len := 1) (p' := 6) (s' := [.ref 36]) rfl rfl rfl ?_
    refine ev_x (i := .aload_n 0) (len := 1) (p' := 7) (s' := [.ref 36, .ref 36]) rfl rfl rfl ?_
    refine ev_gr (p' := 10) (v := 5) rfl rfl rfl ly_36 rfl rfl ((congrFun (congrFun e_1 36) 7).trans hr_36_7) ?_
    refine ev_x (i := .bipush 22) (len := 2) (p' := 12) (s' := [.int 22, .ref 5, .ref 36]) rfl rfl rfl ?_
    refine ev_x (i := .aload_n 0) (len := 1) (p' := 13) (s' := [.ref 36, .int 22, .ref 5, .ref 36]) rfl rfl rfl ?_
    refine ev_gc (p' := 16) (v := 38) rfl rfl rfl ly_36 rfl rfl ?_
    refine ev_x (i := .iload_n 1) (len := 1) (p' := 17) (s' := [.int x_1, .ref 38, .int 22, .ref 5, .ref 36]) rfl rfl rfl ?_
    obtain ⟨b_2, H⟩ := F_gd H
    refine ev_ga (p' := 18) (v := (gE (p_1) 38 (x_1 : Int32).toNatClampNeg)) rfl rfl ly_38 rfl (gd_in b_2) rfl ?_
    refine ev_x (i := .aload_n 0) (len := 1) (p' := 19) (s' := [.ref 36, .int (gE (p_1) 38 (x_1 : Int32).toNatClampNeg), .int 22, .ref 5, .ref 36]) rfl rfl rfl ?_
    refine ev_gi (p' := 22) (v := (gI p_1 36 13)) rfl rfl rfl ly_36 rfl rfl rfl ?_
    refine ev_x (i := .iconst (-1)) (len := 1) (p' := 23) (s' := [.int (-1), .int (gI p_1 36 13), .int (gE (p_1) 38 (x_1 : Int32).toNatClampNeg), .int 22, .ref 5, .ref 36]) rfl rfl rfl ?_
    refine ev_x (i := .iconst (-1)) (len := 1) (p' := 24) (s' := [.int (-1), .int (-1), .int (gI p_1 36 13), .int (gE (p_1) 38 (x_1 : Int32).toNatClampNeg), .int 22, .ref 5, .ref 36]) rfl rfl rfl ?_
    obtain ⟨p_3, G_3, H⟩ := F_bd H
    refine ev_cv (d := d + 6) (As := [.int 22, .int (gE (p_1) 38 (x_1 : Int32).toNatClampNeg), .int (gI p_1 36 13), .int (-1), .int (-1)]) (a := 5) (p' := 27) rfl rfl rfl ly_5 rfl rfl rfl rfl rfl rfl rfl (F_30_ok (d := d + 1) (ht := (Or.inl rfl))  G_3) ?_
    refine ev_st (st' := [.int p_3.1, .ref 36]) rfl ?_
    have e_3 := F_30_R G_3
    refine ev_pi (p' := 30) rfl rfl rfl ly_36 rfl rfl rfl rfl ?_
    refine ev_x (i := .aload_n 0) (len := 1) (p' := 31) (s' := [.ref 36]) rfl rfl rfl ?_
    refine ev_x (i := .dup) (len := 1) (p' := 32) (s' := [.ref 36, .ref 36]) rfl rfl rfl ?_
    refine ev_gi (p' := 35) (v := (gI p_3.2 36 6)) rfl rfl rfl ly_36 rfl rfl rfl ?_
    refine ev_x (i := .iconst 1) (len := 1) (p' := 36) (s' := [.int 1, .int (gI p_3.2 36 6), .ref 36]) rfl rfl rfl ?_
    refine ev_x (i := .isub) (len := 1) (p' := 37) (s' := [.int ((gI p_3.2 36 6) - 1), .ref 36]) rfl rfl rfl ?_
    refine ev_pi (p' := 40) rfl rfl rfl ly_36 rfl rfl rfl rfl ?_
    refine ev_x (i := .aload_n 0) (len := 1) (p' := 41) (s' := [.ref 36]) rfl rfl rfl ?_
    refine ev_x (i := .dup) (len := 1) (p' := 42) (s' := [.ref 36, .ref 36]) rfl rfl rfl ?_
    refine ev_gi (p' := 45) (v := (gI p_3.2 36 12)) rfl rfl rfl ly_36 rfl rfl rfl ?_
    refine ev_x (i := .iconst 1) (len := 1) (p' := 46) (s' := [.int 1, .int (gI p_3.2 36 12), .ref 36]) rfl rfl rfl ?_
    refine ev_x (i := .isub) (len := 1) (p' := 47) (s' := [.int ((gI p_3.2 36 12) - 1), .ref 36]) rfl rfl rfl ?_
    refine ev_pi (p' := 50) rfl rfl rfl ly_36 rfl rfl rfl rfl ?_
    refine ev_x (i := .iconst 1) (len := 1) (p' := 51) (s' := [.int 1]) rfl rfl rfl ?_
    obtain rfl := Option.some.inj H
    exact ev_iret rfl rfl rfl rfl
  · refine ev_x (i := .aload_n 0) (len := 1) (p' := 1) (s' := [.ref 36]) rfl rfl rfl ?_
    refine ev_x (i := .iload_n 1) (len := 1) (p' := 2) (s' := [.int x_1, .ref 36]) rfl rfl rfl ?_
    obtain ⟨p_1, G_1, H⟩ := F_bd H
    refine ev_cv (d := d + 6) (As := [.int x_1]) (a := 36) (p' := 5) rfl rfl rfl ly_36 rfl rfl rfl rfl rfl rfl rfl (F_43_ok (d := d + 0) (ht := (Or.inr rfl)) (hr_36_7 := hr_36_7) G_1) ?_
    refine ev_st (st' := []) rfl ?_
    have e_1 := F_43_R G_1
    refine ev_x (i := .aload_n 0) (len := 1) (p' := 6) (s' := [.ref 36]) rfl rfl rfl ?_
    refine ev_x (i := .aload_n 0) (len := 1) (p' := 7) (s' := [.ref 36, .ref 36]) rfl rfl rfl ?_
    refine ev_gr (p' := 10) (v := 21) rfl rfl rfl ly_36 rfl rfl ((congrFun (congrFun e_1 36) 7).trans hr_36_7) ?_
    refine ev_x (i := .bipush 22) (len := 2) (p' := 12) (s' := [.int 22, .ref 21, .ref 36]) rfl rfl rfl ?_
    refine ev_x (i := .aload_n 0) (len := 1) (p' := 13) (s' := [.ref 36, .int 22, .ref 21, .ref 36]) rfl rfl rfl ?_
    refine ev_gc (p' := 16) (v := 38) rfl rfl rfl ly_36 rfl rfl ?_
    refine ev_x (i := .iload_n 1) (len := 1) (p' := 17) (s' := [.int x_1, .ref 38, .int 22, .ref 21, .ref 36]) rfl rfl rfl ?_
    obtain ⟨b_2, H⟩ := F_gd H
    refine ev_ga (p' := 18) (v := (gE (p_1) 38 (x_1 : Int32).toNatClampNeg)) rfl rfl ly_38 rfl (gd_in b_2) rfl ?_
    refine ev_x (i := .aload_n 0) (len := 1) (p' := 19) (s' := [.ref 36, .int (gE (p_1) 38 (x_1 : Int32).toNatClampNeg), .int 22, .ref 21, .ref 36]) rfl rfl rfl ?_
    refine ev_gi (p' := 22) (v := (gI p_1 36 13)) rfl rfl rfl ly_36 rfl rfl rfl ?_
    refine ev_x (i := .iconst (-1)) (len := 1) (p' := 23) (s' := [.int (-1), .int (gI p_1 36 13), .int (gE (p_1) 38 (x_1 : Int32).toNatClampNeg), .int 22, .ref 21, .ref 36]) rfl rfl rfl ?_
    refine ev_x (i := .iconst (-1)) (len := 1) (p' := 24) (s' := [.int (-1), .int (-1), .int (gI p_1 36 13), .int (gE (p_1) 38 (x_1 : Int32).toNatClampNeg), .int 22, .ref 21, .ref 36]) rfl rfl rfl ?_
    obtain ⟨p_3, G_3, H⟩ := F_bd H
    refine ev_cv (d := d + 6) (As := [.int 22, .int (gE (p_1) 38 (x_1 : Int32).toNatClampNeg), .int (gI p_1 36 13), .int (-1), .int (-1)]) (a := 21) (p' := 27) rfl rfl rfl ly_21 rfl rfl rfl rfl rfl rfl rfl (F_30_ok (d := d + 1) (ht := (Or.inr rfl))  G_3) ?_
    refine ev_st (st' := [.int p_3.1, .ref 36]) rfl ?_
    have e_3 := F_30_R G_3
    refine ev_pi (p' := 30) rfl rfl rfl ly_36 rfl rfl rfl rfl ?_
    refine ev_x (i := .aload_n 0) (len := 1) (p' := 31) (s' := [.ref 36]) rfl rfl rfl ?_
    refine ev_x (i := .dup) (len := 1) (p' := 32) (s' := [.ref 36, .ref 36]) rfl rfl rfl ?_
    refine ev_gi (p' := 35) (v := (gI p_3.2 36 6)) rfl rfl rfl ly_36 rfl rfl rfl ?_
    refine ev_x (i := .iconst 1) (len := 1) (p' := 36) (s' := [.int 1, .int (gI p_3.2 36 6), .ref 36]) rfl rfl rfl ?_
    refine ev_x (i := .isub) (len := 1) (p' := 37) (s' := [.int ((gI p_3.2 36 6) - 1), .ref 36]) rfl rfl rfl ?_
    refine ev_pi (p' := 40) rfl rfl rfl ly_36 rfl rfl rfl rfl ?_
    refine ev_x (i := .aload_n 0) (len := 1) (p' := 41) (s' := [.ref 36]) rfl rfl rfl ?_
    refine ev_x (i := .dup) (len := 1) (p' := 42) (s' := [.ref 36, .ref 36]) rfl rfl rfl ?_
    refine ev_gi (p' := 45) (v := (gI p_3.2 36 12)) rfl rfl rfl ly_36 rfl rfl rfl ?_
    refine ev_x (i := .iconst 1) (len := 1) (p' := 46) (s' := [.int 1, .int (gI p_3.2 36 12), .ref 36]) rfl rfl rfl ?_
    refine ev_x (i := .isub) (len := 1) (p' := 47) (s' := [.int ((gI p_3.2 36 12) - 1), .ref 36]) rfl rfl rfl ?_
    refine ev_pi (p' := 50) rfl rfl rfl ly_36 rfl rfl rfl rfl ?_
    refine ev_x (i := .iconst 1) (len := 1) (p' := 51) (s' := [.int 1]) rfl rfl rfl ?_
    obtain rfl := Option.some.inj H
    exact ev_iret rfl rfl rfl rfl
/-- GameText$Parser.takesRuleEnd()Z, from 119 -/
def J_37_119 (N : Nat) (t : Nat) (σ : st_S) : Option (Int32 × st_S) :=
  if (gI σ 2 3) = 44 then
    (F_43 N t ((gI σ 36 6) - 1) (σ)).bind fun p_15 =>
    (F_32 N 14 (p_15)).bind fun p_16 =>
    if (p_16.1 = 0 ∨ p_16.1 = 1) then
    some (p_16.1, p_16.2)
    else none
  else
    if (gI σ 2 3) = 41 then
      (F_44 N t ((gI σ 36 6) - 1) (σ)).bind fun p_19 =>
      some ((if p_19.1 = 0 then 0 else 1 : Int32), p_19.2)
    else
      some (0, σ)
set_option maxRecDepth 100000 in
theorem J_37_119_R {N : Nat} {t : Nat} {σ : st_S} {p : Int32 × st_S} (H : J_37_119 N t σ = some p) : gR p.2 = gR σ := by
  unfold J_37_119 at H
  refine F_if H (fun _ H => ?_) (fun _ H => ?_)
  · obtain ⟨p_15, G_15, H⟩ := F_bd H
    obtain ⟨p_16, G_16, H⟩ := F_bd H
    obtain ⟨_, H⟩ := F_gd H
    obtain rfl := Option.some.inj H
    exact ((F_32_R G_16).trans ((F_43_R G_15).trans rfl))
  · refine F_if H (fun _ H => ?_) (fun _ H => ?_)
    · obtain ⟨p_19, G_19, H⟩ := F_bd H
      obtain rfl := Option.some.inj H
      exact ((F_44_R G_19).trans rfl)
    · obtain rfl := Option.some.inj H
      exact rfl
set_option maxHeartbeats 4000000 in
set_option maxRecDepth 100000 in
theorem J_37_119_ok {N d : Nat} {t : Nat} (ht : t = 4 ∨ t = 20) {σ : st_S} {lv : vz_L} {p : Int32 × st_S} (g_0 : vz_g lv 0 = some (.ref 36)) (hnb : vz_nbL (vz_gr P0) lv = true) (hr_36_7 : gR σ 36 7 = (t + 1)) (H : J_37_119 N t σ = some p) : vz_ev P0 (d + 8) 37 119 lv [] (hp σ) (.inl (some (.int p.1)), hp p.2) := by
  unfold J_37_119 at H
  refine ev_x (i := .aload_n 0) (len := 1) (p' := 120) (s' := [.ref 36]) rfl rfl (ld_a g_0) ?_
  refine ev_gc (p' := 123) (v := 2) rfl rfl rfl ly_36 rfl rfl ?_
  refine ev_gi (p' := 126) (v := (gI σ 2 3)) rfl rfl rfl ly_2 rfl rfl rfl ?_
  refine ev_x (i := .bipush 44) (len := 2) (p' := 128) (s' := [.int 44, .int (gI σ 2 3)]) rfl rfl rfl ?_
  refine F_if H (fun c_14 H => ?_) (fun c_14 H => ?_)
  · refine ev_b2 (t := 148) (p' := 131) rfl rfl rfl (if_neg (fun q => q c_14)) ?_
    refine ev_x (i := .aload_n 0) (len := 1) (p' := 132) (s' := [.ref 36]) rfl rfl (ld_a g_0) ?_
    refine ev_x (i := .aload_n 0) (len := 1) (p' := 133) (s' := [.ref 36, .ref 36]) rfl rfl (ld_a g_0) ?_
    refine ev_gi (p' := 136) (v := (gI σ 36 6)) rfl rfl rfl ly_36 rfl rfl rfl ?_
    refine ev_x (i := .iconst 1) (len := 1) (p' := 137) (s' := [.int 1, .int (gI σ 36 6), .ref 36]) rfl rfl rfl ?_
    refine ev_x (i := .isub) (len := 1) (p' := 138) (s' := [.int ((gI σ 36 6) - 1), .ref 36]) rfl rfl rfl ?_
    obtain ⟨p_15, G_15, H⟩ := F_bd H
    refine ev_cv (d := d + 7) (As := [.int ((gI σ 36 6) - 1)]) (a := 36) (p' := 141) rfl rfl rfl ly_36 rfl rfl rfl rfl rfl hnb rfl (F_43_ok (d := d + 1) (ht := ht) (hr_36_7 := hr_36_7) G_15) ?_
    refine ev_st (st' := []) rfl ?_
    have e_15 := F_43_R G_15
    refine ev_x (i := .aload_n 0) (len := 1) (p' := 142) (s' := [.ref 36]) rfl rfl (ld_a g_0) ?_
    refine ev_x (i := .bipush 14) (len := 2) (p' := 144) (s' := [.int 14, .ref 36]) rfl rfl rfl ?_
    obtain ⟨p_16, G_16, H⟩ := F_bd H
    refine ev_cv (d := d + 7) (As := [.int 14]) (a := 36) (p' := 147) rfl rfl rfl ly_36 rfl rfl rfl rfl rfl hnb rfl (F_32_ok (d := d + 6)   G_16) ?_
    refine ev_st (st' := [.int p_16.1]) rfl ?_
    have e_16 := F_32_R G_16
    obtain ⟨b_17, H⟩ := F_gd H
    obtain rfl := Option.some.inj H
    exact ev_iret rfl rfl rfl (fit_b b_17)
  · refine ev_b2 (t := 148) (p' := 148) rfl rfl rfl (if_pos c_14) ?_
    refine ev_x (i := .aload_n 0) (len := 1) (p' := 149) (s' := [.ref 36]) rfl rfl (ld_a g_0) ?_
    refine ev_gc (p' := 152) (v := 2) rfl rfl rfl ly_36 rfl rfl ?_
    refine ev_gi (p' := 155) (v := (gI σ 2 3)) rfl rfl rfl ly_2 rfl rfl rfl ?_
    refine ev_x (i := .bipush 41) (len := 2) (p' := 157) (s' := [.int 41, .int (gI σ 2 3)]) rfl rfl rfl ?_
    refine F_if H (fun c_18 H => ?_) (fun c_18 H => ?_)
    · refine ev_b2 (t := 177) (p' := 160) rfl rfl rfl (if_neg (fun q => q c_18)) ?_
      refine ev_x (i := .aload_n 0) (len := 1) (p' := 161) (s' := [.ref 36]) rfl rfl (ld_a g_0) ?_
      refine ev_x (i := .aload_n 0) (len := 1) (p' := 162) (s' := [.ref 36, .ref 36]) rfl rfl (ld_a g_0) ?_
      refine ev_gi (p' := 165) (v := (gI σ 36 6)) rfl rfl rfl ly_36 rfl rfl rfl ?_
      refine ev_x (i := .iconst 1) (len := 1) (p' := 166) (s' := [.int 1, .int (gI σ 36 6), .ref 36]) rfl rfl rfl ?_
      refine ev_x (i := .isub) (len := 1) (p' := 167) (s' := [.int ((gI σ 36 6) - 1), .ref 36]) rfl rfl rfl ?_
      obtain ⟨p_19, G_19, H⟩ := F_bd H
      refine ev_cv (d := d + 7) (As := [.int ((gI σ 36 6) - 1)]) (a := 36) (p' := 170) rfl rfl rfl ly_36 rfl rfl rfl rfl rfl hnb rfl (F_44_ok (d := d + 0) (ht := ht) (hr_36_7 := hr_36_7) G_19) ?_
      refine ev_st (st' := [.int p_19.1]) rfl ?_
      have e_19 := F_44_R G_19
      refine F_jn (A := vz_ev P0 (d + 8) 37 178 (lv) [.int (if p_19.1 = 0 then 0 else 1 : Int32)] (hp (p_19.2)) (.inl (some (.int p.1)), hp p.2)) ?_ (fun J => ?_)
      · obtain rfl := Option.some.inj H
        exact ev_iret rfl rfl rfl (fit_b (by (repeat' split) <;> decide))
      · by_cases c_20 : p_19.1 = 0
        · refine ev_b0 (t := 177) (p' := 177) rfl rfl rfl (if_pos c_20) ?_
          refine ev_x (i := .iconst 0) (len := 1) (p' := 178) (s' := [.int 0]) rfl rfl rfl ?_
          exact ev_st (congrArg (fun z => Value.int z :: []) (by rw [if_pos c_20])) J
        · refine ev_b0 (t := 177) (p' := 173) rfl rfl rfl (if_neg c_20) ?_
          refine ev_x (i := .iconst 1) (len := 1) (p' := 174) (s' := [.int 1]) rfl rfl rfl ?_
          refine ev_x (i := .goto 4) (len := 3) (p' := 178) (s' := [.int 1]) rfl rfl rfl ?_
          exact ev_st (congrArg (fun z => Value.int z :: []) (by rw [if_neg c_20])) J
    · refine ev_b2 (t := 177) (p' := 177) rfl rfl rfl (if_pos c_18) ?_
      refine ev_x (i := .iconst 0) (len := 1) (p' := 178) (s' := [.int 0]) rfl rfl rfl ?_
      obtain rfl := Option.some.inj H
      exact ev_iret rfl rfl rfl rfl
/-- GameText$Parser.takesRuleEnd()Z, from 105 -/
def J_37_105 (N : Nat) (t : Nat) (l_1 : Int32) (σ : st_S) : Option (Int32 × st_S) :=
  if l_1 = 20 then
    J_37_119 N t (σ)
  else
    if l_1 = 21 then
      J_37_119 N t (σ)
    else
      some (0, σ)
set_option maxRecDepth 100000 in
theorem J_37_105_R {N : Nat} {t : Nat} {l_1 : Int32} {σ : st_S} {p : Int32 × st_S} (H : J_37_105 N t l_1 σ = some p) : gR p.2 = gR σ := by
  unfold J_37_105 at H
  refine F_if H (fun _ H => ?_) (fun _ H => ?_)
  · exact (((J_37_119_R H)).trans rfl)
  · refine F_if H (fun _ H => ?_) (fun _ H => ?_)
    · exact (((J_37_119_R H)).trans rfl)
    · obtain rfl := Option.some.inj H
      exact rfl
set_option maxHeartbeats 4000000 in
set_option maxRecDepth 100000 in
theorem J_37_105_ok {N d : Nat} {t : Nat} (ht : t = 4 ∨ t = 20) {l_1 : Int32} {σ : st_S} {lv : vz_L} {p : Int32 × st_S} (g_0 : vz_g lv 0 = some (.ref 36)) (g_1 : vz_g lv 1 = some (.int l_1)) (hnb : vz_nbL (vz_gr P0) lv = true) (hr_36_7 : gR σ 36 7 = (t + 1)) (H : J_37_105 N t l_1 σ = some p) : vz_ev P0 (d + 8) 37 105 lv [] (hp σ) (.inl (some (.int p.1)), hp p.2) := by
  unfold J_37_105 at H
  refine ev_x (i := .iload_n 1) (len := 1) (p' := 106) (s' := [.int l_1]) rfl rfl (ld_i g_1) ?_
  refine ev_x (i := .bipush 20) (len := 2) (p' := 108) (s' := [.int 20, .int l_1]) rfl rfl rfl ?_
  refine F_if H (fun c_12 H => ?_) (fun c_12 H => ?_)
  · refine ev_b2 (t := 119) (p' := 119) rfl rfl rfl (if_pos c_12) ?_
    exact J_37_119_ok (d := d) ht g_0 hnb hr_36_7 H
  · refine ev_b2 (t := 119) (p' := 111) rfl rfl rfl (if_neg c_12) ?_
    refine ev_x (i := .iload_n 1) (len := 1) (p' := 112) (s' := [.int l_1]) rfl rfl (ld_i g_1) ?_
    refine ev_x (i := .bipush 21) (len := 2) (p' := 114) (s' := [.int 21, .int l_1]) rfl rfl rfl ?_
    refine F_if H (fun c_13 H => ?_) (fun c_13 H => ?_)
    · refine ev_b2 (t := 119) (p' := 119) rfl rfl rfl (if_pos c_13) ?_
      exact J_37_119_ok (d := d) ht g_0 hnb hr_36_7 H
    · refine ev_b2 (t := 119) (p' := 117) rfl rfl rfl (if_neg c_13) ?_
      refine ev_x (i := .iconst 0) (len := 1) (p' := 118) (s' := [.int 0]) rfl rfl rfl ?_
      obtain rfl := Option.some.inj H
      exact ev_iret rfl rfl rfl rfl
/-- GameText$Parser.takesRuleEnd()Z, from 76 -/
def J_37_76 (N : Nat) (t : Nat) (l_1 : Int32) (σ : st_S) : Option (Int32 × st_S) :=
  if (gI σ 2 3) = 58 then
    if l_1 = 36 then
      (F_42 N t ((gI σ 36 6) - 1) (σ)).bind fun p_10 =>
      if (p_10.1 = 0 ∨ p_10.1 = 1) then
      some (p_10.1, p_10.2)
      else none
    else
      J_37_105 N t l_1 (σ)
  else
    J_37_105 N t l_1 (σ)
set_option maxRecDepth 100000 in
theorem J_37_76_R {N : Nat} {t : Nat} {l_1 : Int32} {σ : st_S} {p : Int32 × st_S} (H : J_37_76 N t l_1 σ = some p) : gR p.2 = gR σ := by
  unfold J_37_76 at H
  refine F_if H (fun _ H => ?_) (fun _ H => ?_)
  · refine F_if H (fun _ H => ?_) (fun _ H => ?_)
    · obtain ⟨p_10, G_10, H⟩ := F_bd H
      obtain ⟨_, H⟩ := F_gd H
      obtain rfl := Option.some.inj H
      exact ((F_42_R G_10).trans rfl)
    · exact (((J_37_105_R H)).trans rfl)
  · exact (((J_37_105_R H)).trans rfl)
set_option maxHeartbeats 4000000 in
set_option maxRecDepth 100000 in
theorem J_37_76_ok {N d : Nat} {t : Nat} (ht : t = 4 ∨ t = 20) {l_1 : Int32} {σ : st_S} {lv : vz_L} {p : Int32 × st_S} (g_0 : vz_g lv 0 = some (.ref 36)) (g_1 : vz_g lv 1 = some (.int l_1)) (hnb : vz_nbL (vz_gr P0) lv = true) (hr_36_7 : gR σ 36 7 = (t + 1)) (H : J_37_76 N t l_1 σ = some p) : vz_ev P0 (d + 8) 37 76 lv [] (hp σ) (.inl (some (.int p.1)), hp p.2) := by
  unfold J_37_76 at H
  refine ev_x (i := .aload_n 0) (len := 1) (p' := 77) (s' := [.ref 36]) rfl rfl (ld_a g_0) ?_
  refine ev_gc (p' := 80) (v := 2) rfl rfl rfl ly_36 rfl rfl ?_
  refine ev_gi (p' := 83) (v := (gI σ 2 3)) rfl rfl rfl ly_2 rfl rfl rfl ?_
  refine ev_x (i := .bipush 58) (len := 2) (p' := 85) (s' := [.int 58, .int (gI σ 2 3)]) rfl rfl rfl ?_
  refine F_if H (fun c_8 H => ?_) (fun c_8 H => ?_)
  · refine ev_b2 (t := 105) (p' := 88) rfl rfl rfl (if_neg (fun q => q c_8)) ?_
    refine ev_x (i := .iload_n 1) (len := 1) (p' := 89) (s' := [.int l_1]) rfl rfl (ld_i g_1) ?_
    refine ev_x (i := .bipush 36) (len := 2) (p' := 91) (s' := [.int 36, .int l_1]) rfl rfl rfl ?_
    refine F_if H (fun c_9 H => ?_) (fun c_9 H => ?_)
    · refine ev_b2 (t := 105) (p' := 94) rfl rfl rfl (if_neg (fun q => q c_9)) ?_
      refine ev_x (i := .aload_n 0) (len := 1) (p' := 95) (s' := [.ref 36]) rfl rfl (ld_a g_0) ?_
      refine ev_x (i := .aload_n 0) (len := 1) (p' := 96) (s' := [.ref 36, .ref 36]) rfl rfl (ld_a g_0) ?_
      refine ev_gi (p' := 99) (v := (gI σ 36 6)) rfl rfl rfl ly_36 rfl rfl rfl ?_
      refine ev_x (i := .iconst 1) (len := 1) (p' := 100) (s' := [.int 1, .int (gI σ 36 6), .ref 36]) rfl rfl rfl ?_
      refine ev_x (i := .isub) (len := 1) (p' := 101) (s' := [.int ((gI σ 36 6) - 1), .ref 36]) rfl rfl rfl ?_
      obtain ⟨p_10, G_10, H⟩ := F_bd H
      refine ev_cv (d := d + 7) (As := [.int ((gI σ 36 6) - 1)]) (a := 36) (p' := 104) rfl rfl rfl ly_36 rfl rfl rfl rfl rfl hnb rfl (F_42_ok (d := d + 1) (ht := ht) (hr_36_7 := hr_36_7) G_10) ?_
      refine ev_st (st' := [.int p_10.1]) rfl ?_
      have e_10 := F_42_R G_10
      obtain ⟨b_11, H⟩ := F_gd H
      obtain rfl := Option.some.inj H
      exact ev_iret rfl rfl rfl (fit_b b_11)
    · refine ev_b2 (t := 105) (p' := 105) rfl rfl rfl (if_pos c_9) ?_
      exact J_37_105_ok (d := d) ht g_0 g_1 hnb hr_36_7 H
  · refine ev_b2 (t := 105) (p' := 105) rfl rfl rfl (if_pos c_8) ?_
    exact J_37_105_ok (d := d) ht g_0 g_1 hnb hr_36_7 H
/-- GameText$Parser.takesRuleEnd()Z -/
def F_37 (N : Nat) (t : Nat) (σ : st_S) : Option (Int32 × st_S) :=
  (F_28 N t 1 (σ)).bind fun p_1 =>
  if (gI p_1 36 6) = 0 then
    (F_38 N t (gI p_1 2 3) (p_1)).bind fun p_3 =>
    if (p_3.1 = 0 ∨ p_3.1 = 1) then
    some (p_3.1, p_3.2)
    else none
  else
    if aB ((gI p_1 36 6) - 1) (gN p_1 37) then
    if (gI p_1 2 3) = 41 then
      if (gE (p_1) 37 (((gI p_1 36 6) - 1) : Int32).toNatClampNeg) = 35 then
        some (1, st_i (st_i (p_1) 36 6 ((gI p_1 36 6) - 1)) 36 12 ((gI p_1 36 12) - 1))
      else
        J_37_76 N t (gE (p_1) 37 (((gI p_1 36 6) - 1) : Int32).toNatClampNeg) (p_1)
    else
      J_37_76 N t (gE (p_1) 37 (((gI p_1 36 6) - 1) : Int32).toNatClampNeg) (p_1)
    else none
set_option maxRecDepth 100000 in
theorem F_37_R {N : Nat} {t : Nat} {σ : st_S} {p : Int32 × st_S} (H : F_37 N t σ = some p) : gR p.2 = gR σ := by
  unfold F_37 at H
  obtain ⟨p_1, G_1, H⟩ := F_bd H
  refine F_if H (fun _ H => ?_) (fun _ H => ?_)
  · obtain ⟨p_3, G_3, H⟩ := F_bd H
    obtain ⟨_, H⟩ := F_gd H
    obtain rfl := Option.some.inj H
    exact ((F_38_R G_3).trans ((F_28_R G_1).trans rfl))
  · obtain ⟨_, H⟩ := F_gd H
    refine F_if H (fun _ H => ?_) (fun _ H => ?_)
    · refine F_if H (fun _ H => ?_) (fun _ H => ?_)
      · obtain rfl := Option.some.inj H
        exact ((F_28_R G_1).trans rfl)
      · exact (((J_37_76_R H)).trans ((F_28_R G_1).trans rfl))
    · exact (((J_37_76_R H)).trans ((F_28_R G_1).trans rfl))
set_option maxHeartbeats 4000000 in
set_option maxRecDepth 100000 in
theorem F_37_ok {N d : Nat} {t : Nat} (ht : t = 4 ∨ t = 20) {σ : st_S} {p : Int32 × st_S} (hr_36_7 : gR σ 36 7 = (t + 1)) (H : F_37 N t σ = some p) : vz_ev P0 (d + 8) 37 0 (lv_args 0 [.ref 36]) [] (hp σ) (.inl (some (.int p.1)), hp p.2) := by
  unfold F_37 at H
  refine ev_x (i := .aload_n 0) (len := 1) (p' := 1) (s' := [.ref 36]) rfl rfl rfl ?_
  refine ev_x (i := .iconst 1) (len := 1) (p' := 2) (s' := [.int 1, .ref 36]) rfl rfl rfl ?_
  obtain ⟨p_1, G_1, H⟩ := F_bd H
  refine ev_cv (d := d + 7) (As := [.int 1]) (a := 36) (p' := 5) rfl rfl rfl ly_36 rfl rfl rfl rfl rfl rfl rfl (F_28_ok (d := d + 1) (ht := ht) (hr_36_7 := hr_36_7) G_1) ?_
  refine ev_st (st' := []) rfl ?_
  have e_1 := F_28_R G_1
  refine ev_x (i := .aload_n 0) (len := 1) (p' := 6) (s' := [.ref 36]) rfl rfl rfl ?_
  refine ev_gi (p' := 9) (v := (gI p_1 36 6)) rfl rfl rfl ly_36 rfl rfl rfl ?_
  refine F_if H (fun c_2 H => ?_) (fun c_2 H => ?_)
  · refine ev_b0 (t := 24) (p' := 12) rfl rfl rfl (if_neg (fun q => q c_2)) ?_
    refine ev_x (i := .aload_n 0) (len := 1) (p' := 13) (s' := [.ref 36]) rfl rfl rfl ?_
    refine ev_x (i := .aload_n 0) (len := 1) (p' := 14) (s' := [.ref 36, .ref 36]) rfl rfl rfl ?_
    refine ev_gc (p' := 17) (v := 2) rfl rfl rfl ly_36 rfl rfl ?_
    refine ev_gi (p' := 20) (v := (gI p_1 2 3)) rfl rfl rfl ly_2 rfl rfl rfl ?_
    obtain ⟨p_3, G_3, H⟩ := F_bd H
    refine ev_cv (d := d + 7) (As := [.int (gI p_1 2 3)]) (a := 36) (p' := 23) rfl rfl rfl ly_36 rfl rfl rfl rfl rfl rfl rfl (F_38_ok (d := d + 0) (ht := ht) (hr_36_7 := ((congrFun (congrFun e_1 36) 7).trans hr_36_7)) G_3) ?_
    refine ev_st (st' := [.int p_3.1]) rfl ?_
    have e_3 := F_38_R G_3
    obtain ⟨b_4, H⟩ := F_gd H
    obtain rfl := Option.some.inj H
    exact ev_iret rfl rfl rfl (fit_b b_4)
  · refine ev_b0 (t := 24) (p' := 24) rfl rfl rfl (if_pos c_2) ?_
    refine ev_x (i := .aload_n 0) (len := 1) (p' := 25) (s' := [.ref 36]) rfl rfl rfl ?_
    refine ev_gc (p' := 28) (v := 37) rfl rfl rfl ly_36 rfl rfl ?_
    refine ev_x (i := .aload_n 0) (len := 1) (p' := 29) (s' := [.ref 36, .ref 37]) rfl rfl rfl ?_
    refine ev_gi (p' := 32) (v := (gI p_1 36 6)) rfl rfl rfl ly_36 rfl rfl rfl ?_
    refine ev_x (i := .iconst 1) (len := 1) (p' := 33) (s' := [.int 1, .int (gI p_1 36 6), .ref 37]) rfl rfl rfl ?_
    refine ev_x (i := .isub) (len := 1) (p' := 34) (s' := [.int ((gI p_1 36 6) - 1), .ref 37]) rfl rfl rfl ?_
    obtain ⟨b_5, H⟩ := F_gd H
    refine ev_ga (p' := 35) (v := (gE (p_1) 37 (((gI p_1 36 6) - 1) : Int32).toNatClampNeg)) rfl rfl ly_37 rfl (gd_in b_5) rfl ?_
    refine ev_x (i := .istore_n 1) (len := 1) (p' := 36) (s' := []) (l' := [(1, .int (gE (p_1) 37 (((gI p_1 36 6) - 1) : Int32).toNatClampNeg)), (0, .ref 36)]) rfl rfl rfl ?_
    refine ev_x (i := .aload_n 0) (len := 1) (p' := 37) (s' := [.ref 36]) rfl rfl rfl ?_
    refine ev_gc (p' := 40) (v := 2) rfl rfl rfl ly_36 rfl rfl ?_
    refine ev_gi (p' := 43) (v := (gI p_1 2 3)) rfl rfl rfl ly_2 rfl rfl rfl ?_
    refine ev_x (i := .bipush 41) (len := 2) (p' := 45) (s' := [.int 41, .int (gI p_1 2 3)]) rfl rfl rfl ?_
    refine F_if H (fun c_6 H => ?_) (fun c_6 H => ?_)
    · refine ev_b2 (t := 76) (p' := 48) rfl rfl rfl (if_neg (fun q => q c_6)) ?_
      refine ev_x (i := .iload_n 1) (len := 1) (p' := 49) (s' := [.int (gE (p_1) 37 (((gI p_1 36 6) - 1) : Int32).toNatClampNeg)]) rfl rfl rfl ?_
      refine ev_x (i := .bipush 35) (len := 2) (p' := 51) (s' := [.int 35, .int (gE (p_1) 37 (((gI p_1 36 6) - 1) : Int32).toNatClampNeg)]) rfl rfl rfl ?_
      refine F_if H (fun c_7 H => ?_) (fun c_7 H => ?_)
      · refine ev_b2 (t := 76) (p' := 54) rfl rfl rfl (if_neg (fun q => q c_7)) ?_
        refine ev_x (i := .aload_n 0) (len := 1) (p' := 55) (s' := [.ref 36]) rfl rfl rfl ?_
        refine ev_x (i := .dup) (len := 1) (p' := 56) (s' := [.ref 36, .ref 36]) rfl rfl rfl ?_
        refine ev_gi (p' := 59) (v := (gI p_1 36 6)) rfl rfl rfl ly_36 rfl rfl rfl ?_
        refine ev_x (i := .iconst 1) (len := 1) (p' := 60) (s' := [.int 1, .int (gI p_1 36 6), .ref 36]) rfl rfl rfl ?_
        refine ev_x (i := .isub) (len := 1) (p' := 61) (s' := [.int ((gI p_1 36 6) - 1), .ref 36]) rfl rfl rfl ?_
        refine ev_pi (p' := 64) rfl rfl rfl ly_36 rfl rfl rfl rfl ?_
        refine ev_x (i := .aload_n 0) (len := 1) (p' := 65) (s' := [.ref 36]) rfl rfl rfl ?_
        refine ev_x (i := .dup) (len := 1) (p' := 66) (s' := [.ref 36, .ref 36]) rfl rfl rfl ?_
        refine ev_gi (p' := 69) (v := (gI p_1 36 12)) rfl rfl rfl ly_36 rfl rfl rfl ?_
        refine ev_x (i := .iconst 1) (len := 1) (p' := 70) (s' := [.int 1, .int (gI p_1 36 12), .ref 36]) rfl rfl rfl ?_
        refine ev_x (i := .isub) (len := 1) (p' := 71) (s' := [.int ((gI p_1 36 12) - 1), .ref 36]) rfl rfl rfl ?_
        refine ev_pi (p' := 74) rfl rfl rfl ly_36 rfl rfl rfl rfl ?_
        refine ev_x (i := .iconst 1) (len := 1) (p' := 75) (s' := [.int 1]) rfl rfl rfl ?_
        obtain rfl := Option.some.inj H
        exact ev_iret rfl rfl rfl rfl
      · refine ev_b2 (t := 76) (p' := 76) rfl rfl rfl (if_pos c_7) ?_
        exact J_37_76_ok (d := d) ht rfl rfl rfl ((congrFun (congrFun e_1 36) 7).trans hr_36_7) H
    · refine ev_b2 (t := 76) (p' := 76) rfl rfl rfl (if_pos c_6) ?_
      exact J_37_76_ok (d := d) ht rfl rfl rfl ((congrFun (congrFun e_1 36) 7).trans hr_36_7) H
