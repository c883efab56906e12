/-! methods as functions of the store. Written by wip/prog/dec2.py, gen_all.py -/
/-- GameText$Checker.wantedKind(I)I -/
def F_86 (N : Nat) (t : Nat) (x_1 : Int32) (σ : st_S) : Option (Int32 × st_S) :=
  if x_1 = 1 then
    some (1, σ)
  else
  if x_1 = 2 then
    some (1, σ)
  else
  if x_1 = 3 then
    if aB (gI σ 46 5) (gN σ (t + 6)) then
    some ((gE (σ) (t + 6) ((gI σ 46 5) : Int32).toNatClampNeg), σ)
    else none
  else
  if x_1 = 4 then
    some (2, σ)
  else
  if x_1 = 5 then
    some (2, σ)
  else
  if x_1 = 6 then
    some (1, σ)
  else
  if x_1 = 7 then
    if aB (gI σ 46 12) (gN σ (t + 4)) then
    if aB (gE (σ) (t + 4) ((gI σ 46 12) : Int32).toNatClampNeg) (gN σ (t + 13)) then
    some ((gE (σ) (t + 13) ((gE (σ) (t + 4) ((gI σ 46 12) : Int32).toNatClampNeg) : Int32).toNatClampNeg), σ)
    else none
    else none
  else
    some (0, σ)
set_option maxRecDepth 100000 in
theorem F_86_R {N : Nat} {t : Nat} {x_1 : Int32} {σ : st_S} {p : Int32 × st_S} (H : F_86 N t x_1 σ = some p) : gR p.2 = gR σ := by
  unfold F_86 at H
  refine F_if H (fun _ H => ?_) (fun _ H => ?_)
  · obtain rfl := Option.some.inj H
    exact rfl
  · refine F_if H (fun _ H => ?_) (fun _ H => ?_)
    · obtain rfl := Option.some.inj H
      exact rfl
    · refine F_if H (fun _ H => ?_) (fun _ H => ?_)
      · obtain ⟨_, H⟩ := F_gd H
        obtain rfl := Option.some.inj H
        exact rfl
      · refine F_if H (fun _ H => ?_) (fun _ H => ?_)
        · obtain rfl := Option.some.inj H
          exact rfl
        · refine F_if H (fun _ H => ?_) (fun _ H => ?_)
          · obtain rfl := Option.some.inj H
            exact rfl
          · refine F_if H (fun _ H => ?_) (fun _ H => ?_)
            · obtain rfl := Option.some.inj H
              exact rfl
            · refine F_if H (fun _ H => ?_) (fun _ H => ?_)
              · obtain ⟨_, H⟩ := F_gd H
                obtain ⟨_, H⟩ := F_gd H
                obtain rfl := Option.some.inj H
                exact rfl
              · obtain rfl := Option.some.inj H
                exact rfl
set_option maxHeartbeats 4000000 in
set_option maxRecDepth 100000 in
theorem F_86_ok {N d : Nat} {t : Nat} (ht : t = 4 ∨ t = 20) {x_1 : Int32} {σ : st_S} {p : Int32 × st_S} (hr_46_2 : gR σ 46 2 = t) (hr_46_3 : gR σ 46 3 = (t + 1)) (H : F_86 N t x_1 σ = some p) : vz_ev P0 (d + 1) 86 0 (lv_args 0 [.ref 46, .int x_1]) [] (hp σ) (.inl (some (.int p.1)), hp p.2) := by
  unfold F_86 at H
  rcases ht with rfl | rfl
  · refine ev_x (i := .iload_n 1) (len := 1) (p' := 1) (s' := [.int x_1]) rfl rfl rfl ?_
    refine F_if H (fun c_1 H => ?_) (fun c_1 H => ?_)
    · refine ev_st (st' := [.int 1]) (congrArg (fun z => Value.int z :: []) c_1) ?_
      refine ev_ts (off := 43) (t := 44) rfl rfl (by decide) rfl ?_
      refine ev_x (i := .iconst 1) (len := 1) (p' := 45) (s' := [.int 1]) rfl rfl rfl ?_
      obtain rfl := Option.some.inj H
      exact ev_iret rfl rfl rfl rfl
    · refine F_if H (fun c_2 H => ?_) (fun c_2 H => ?_)
      · refine ev_st (st' := [.int 2]) (congrArg (fun z => Value.int z :: []) c_2) ?_
        refine ev_ts (off := 43) (t := 44) rfl rfl (by decide) rfl ?_
        refine ev_x (i := .iconst 1) (len := 1) (p' := 45) (s' := [.int 1]) rfl rfl rfl ?_
        obtain rfl := Option.some.inj H
        exact ev_iret rfl rfl rfl rfl
      · refine F_if H (fun c_3 H => ?_) (fun c_3 H => ?_)
        · refine ev_st (st' := [.int 3]) (congrArg (fun z => Value.int z :: []) c_3) ?_
          refine ev_ts (off := 47) (t := 48) rfl rfl (by decide) rfl ?_
          refine ev_x (i := .aload_n 0) (len := 1) (p' := 49) (s' := [.ref 46]) rfl rfl rfl ?_
          refine ev_gr (p' := 52) (v := 5) rfl rfl rfl ly_46 rfl rfl hr_46_3 ?_
          refine ev_gc (p' := 55) (v := 10) rfl rfl rfl ly_5 rfl rfl ?_
          refine ev_x (i := .aload_n 0) (len := 1) (p' := 56) (s' := [.ref 46, .ref 10]) rfl rfl rfl ?_
          refine ev_gi (p' := 59) (v := (gI σ 46 5)) rfl rfl rfl ly_46 rfl rfl rfl ?_
          obtain ⟨b_4, H⟩ := F_gd H
          refine ev_ga (p' := 60) (v := (gE (σ) 10 ((gI σ 46 5) : Int32).toNatClampNeg)) rfl rfl ly_10 rfl (gd_in b_4) rfl ?_
          obtain rfl := Option.some.inj H
          exact ev_iret rfl rfl rfl rfl
        · refine F_if H (fun c_5 H => ?_) (fun c_5 H => ?_)
          · refine ev_st (st' := [.int 4]) (congrArg (fun z => Value.int z :: []) c_5) ?_
            refine ev_ts (off := 45) (t := 46) rfl rfl (by decide) rfl ?_
            refine ev_x (i := .iconst 2) (len := 1) (p' := 47) (s' := [.int 2]) rfl rfl rfl ?_
            obtain rfl := Option.some.inj H
            exact ev_iret rfl rfl rfl rfl
          · refine F_if H (fun c_6 H => ?_) (fun c_6 H => ?_)
            · refine ev_st (st' := [.int 5]) (congrArg (fun z => Value.int z :: []) c_6) ?_
              refine ev_ts (off := 45) (t := 46) rfl rfl (by decide) rfl ?_
              refine ev_x (i := .iconst 2) (len := 1) (p' := 47) (s' := [.int 2]) rfl rfl rfl ?_
              obtain rfl := Option.some.inj H
              exact ev_iret rfl rfl rfl rfl
            · refine F_if H (fun c_7 H => ?_) (fun c_7 H => ?_)
              · refine ev_st (st' := [.int 6]) (congrArg (fun z => Value.int z :: []) c_7) ?_
                refine ev_ts (off := 43) (t := 44) rfl rfl (by decide) rfl ?_
                refine ev_x (i := .iconst 1) (len := 1) (p' := 45) (s' := [.int 1]) rfl rfl rfl ?_
                obtain rfl := Option.some.inj H
                exact ev_iret rfl rfl rfl rfl
              · refine F_if H (fun c_8 H => ?_) (fun c_8 H => ?_)
                · refine ev_st (st' := [.int 7]) (congrArg (fun z => Value.int z :: []) c_8) ?_
                  refine ev_ts (off := 60) (t := 61) rfl rfl (by decide) rfl ?_
                  refine ev_x (i := .aload_n 0) (len := 1) (p' := 62) (s' := [.ref 46]) rfl rfl rfl ?_
                  refine ev_gr (p' := 65) (v := 4) rfl rfl rfl ly_46 rfl rfl hr_46_2 ?_
                  refine ev_gc (p' := 68) (v := 17) rfl rfl rfl ly_4 rfl rfl ?_
                  refine ev_x (i := .aload_n 0) (len := 1) (p' := 69) (s' := [.ref 46, .ref 17]) rfl rfl rfl ?_
                  refine ev_gr (p' := 72) (v := 5) rfl rfl rfl ly_46 rfl rfl hr_46_3 ?_
                  refine ev_gc (p' := 75) (v := 8) rfl rfl rfl ly_5 rfl rfl ?_
                  refine ev_x (i := .aload_n 0) (len := 1) (p' := 76) (s' := [.ref 46, .ref 8, .ref 17]) rfl rfl rfl ?_
                  refine ev_gi (p' := 79) (v := (gI σ 46 12)) rfl rfl rfl ly_46 rfl rfl rfl ?_
                  obtain ⟨b_9, H⟩ := F_gd H
                  refine ev_ga (p' := 80) (v := (gE (σ) 8 ((gI σ 46 12) : Int32).toNatClampNeg)) rfl rfl ly_8 rfl (gd_in b_9) rfl ?_
                  obtain ⟨b_10, H⟩ := F_gd H
                  refine ev_ga (p' := 81) (v := (gE (σ) 17 ((gE (σ) 8 ((gI σ 46 12) : Int32).toNatClampNeg) : Int32).toNatClampNeg)) rfl rfl ly_17 rfl (gd_in b_10) rfl ?_
                  obtain rfl := Option.some.inj H
                  exact ev_iret rfl rfl rfl rfl
                · have n_1 : (1 : Int) ≠ (x_1 : Int32).toInt := i32_ne (k := 1) (by decide) c_1
                  have n_2 : (2 : Int) ≠ (x_1 : Int32).toInt := i32_ne (k := 2) (by decide) c_2
                  have n_3 : (3 : Int) ≠ (x_1 : Int32).toInt := i32_ne (k := 3) (by decide) c_3
                  have n_4 : (4 : Int) ≠ (x_1 : Int32).toInt := i32_ne (k := 4) (by decide) c_5
                  have n_5 : (5 : Int) ≠ (x_1 : Int32).toInt := i32_ne (k := 5) (by decide) c_6
                  have n_6 : (6 : Int) ≠ (x_1 : Int32).toInt := i32_ne (k := 6) (by decide) c_7
                  have n_7 : (7 : Int) ≠ (x_1 : Int32).toInt := i32_ne (k := 7) (by decide) c_8
                  refine ev_ts (off := 81) (t := 82) rfl rfl ?hsw rfl ?_
                  case hsw =>
                    by_cases hq : (x_1 : Int32).toInt < 1 ∨ 7 < (x_1 : Int32).toInt
                    · exact if_pos hq
                    · rw [if_neg hq]
                      exact absurd hq (by omega)
                  refine ev_x (i := .iconst 0) (len := 1) (p' := 83) (s' := [.int 0]) rfl rfl rfl ?_
                  obtain rfl := Option.some.inj H
                  exact ev_iret rfl rfl rfl rfl
  · refine ev_x (i := .iload_n 1) (len := 1) (p' := 1) (s' := [.int x_1]) rfl rfl rfl ?_
    refine F_if H (fun c_1 H => ?_) (fun c_1 H => ?_)
    · refine ev_st (st' := [.int 1]) (congrArg (fun z => Value.int z :: []) c_1) ?_
      refine ev_ts (off := 43) (t := 44) rfl rfl (by decide) rfl ?_
      refine ev_x (i := .iconst 1) (len := 1) (p' := 45) (s' := [.int 1]) rfl rfl rfl ?_
      obtain rfl := Option.some.inj H
      exact ev_iret rfl rfl rfl rfl
    · refine F_if H (fun c_2 H => ?_) (fun c_2 H => ?_)
      · refine ev_st (st' := [.int 2]) (congrArg (fun z => Value.int z :: []) c_2) ?_
        refine ev_ts (off := 43) (t := 44) rfl rfl (by decide) rfl ?_
        refine ev_x (i := .iconst 1) (len := 1) (p' := 45) (s' := [.int 1]) rfl rfl rfl ?_
        obtain rfl := Option.some.inj H
        exact ev_iret rfl rfl rfl rfl
      · refine F_if H (fun c_3 H => ?_) (fun c_3 H => ?_)
        · refine ev_st (st' := [.int 3]) (congrArg (fun z => Value.int z :: []) c_3) ?_
          refine ev_ts (off := 47) (t := 48) rfl rfl (by decide) rfl ?_
          refine ev_x (i := .aload_n 0) (len := 1) (p' := 49) (s' := [.ref 46]) rfl rfl rfl ?_
          refine ev_gr (p' := 52) (v := 21) rfl rfl rfl ly_46 rfl rfl hr_46_3 ?_
          refine ev_gc (p' := 55) (v := 26) rfl rfl rfl ly_21 rfl rfl ?_
          refine ev_x (i := .aload_n 0) (len := 1) (p' := 56) (s' := [.ref 46, .ref 26]) rfl rfl rfl ?_
          refine ev_gi (p' := 59) (v := (gI σ 46 5)) rfl rfl rfl ly_46 rfl rfl rfl ?_
          obtain ⟨b_4, H⟩ := F_gd H
          refine ev_ga (p' := 60) (v := (gE (σ) 26 ((gI σ 46 5) : Int32).toNatClampNeg)) rfl rfl ly_26 rfl (gd_in b_4) rfl ?_
          obtain rfl := Option.some.inj H
          exact ev_iret rfl rfl rfl rfl
        · refine F_if H (fun c_5 H => ?_) (fun c_5 H => ?_)
          · refine ev_st (st' := [.int 4]) (congrArg (fun z => Value.int z :: []) c_5) ?_
            refine ev_ts (off := 45) (t := 46) rfl rfl (by decide) rfl ?_
            refine ev_x (i := .iconst 2) (len := 1) (p' := 47) (s' := [.int 2]) rfl rfl rfl ?_
            obtain rfl := Option.some.inj H
            exact ev_iret rfl rfl rfl rfl
          · refine F_if H (fun c_6 H => ?_) (fun c_6 H => ?_)
            · refine ev_st (st' := [.int 5]) (congrArg (fun z => Value.int z :: []) c_6) ?_
              refine ev_ts (off := 45) (t := 46) rfl rfl (by decide) rfl ?_
              refine ev_x (i := .iconst 2) (len := 1) (p' := 47) (s' := [.int 2]) rfl rfl rfl ?_
              obtain rfl := Option.some.inj H
              exact ev_iret rfl rfl rfl rfl
            · refine F_if H (fun c_7 H => ?_) (fun c_7 H => ?_)
              · refine ev_st (st' := [.int 6]) (congrArg (fun z => Value.int z :: []) c_7) ?_
                refine ev_ts (off := 43) (t := 44) rfl rfl (by decide) rfl ?_
                refine ev_x (i := .iconst 1) (len := 1) (p' := 45) (s' := [.int 1]) rfl rfl rfl ?_
                obtain rfl := Option.some.inj H
                exact ev_iret rfl rfl rfl rfl
              · refine F_if H (fun c_8 H => ?_) (fun c_8 H => ?_)
                · refine ev_st (st' := [.int 7]) (congrArg (fun z => Value.int z :: []) c_8) ?_
                  refine ev_ts (off := 60) (t := 61) rfl rfl (by decide) rfl ?_
                  refine ev_x (i := .aload_n 0) (len := 1) (p' := 62) (s' := [.ref 46]) rfl rfl rfl ?_
                  refine ev_gr (p' := 65) (v := 20) rfl rfl rfl ly_46 rfl rfl hr_46_2 ?_
                  refine ev_gc (p' := 68) (v := 33) rfl rfl rfl ly_20 rfl rfl ?_
                  refine ev_x (i := .aload_n 0) (len := 1) (p' := 69) (s' := [.ref 46, .ref 33]) rfl rfl rfl ?_
                  refine ev_gr (p' := 72) (v := 21) rfl rfl rfl ly_46 rfl rfl hr_46_3 ?_
                  refine ev_gc (p' := 75) (v := 24) rfl rfl rfl ly_21 rfl rfl ?_
                  refine ev_x (i := .aload_n 0) (len := 1) (p' := 76) (s' := [.ref 46, .ref 24, .ref 33]) rfl rfl rfl ?_
                  refine ev_gi (p' := 79) (v := (gI σ 46 12)) rfl rfl rfl ly_46 rfl rfl rfl ?_
                  obtain ⟨b_9, H⟩ := F_gd H
                  refine ev_ga (p' := 80) (v := (gE (σ) 24 ((gI σ 46 12) : Int32).toNatClampNeg)) rfl rfl ly_24 rfl (gd_in b_9) rfl ?_
                  obtain ⟨b_10, H⟩ := F_gd H
                  refine ev_ga (p' := 81) (v := (gE (σ) 33 ((gE (σ) 24 ((gI σ 46 12) : Int32).toNatClampNeg) : Int32).toNatClampNeg)) rfl rfl ly_33 rfl (gd_in b_10) rfl ?_
                  obtain rfl := Option.some.inj H
                  exact ev_iret rfl rfl rfl rfl
                · have n_1 : (1 : Int) ≠ (x_1 : Int32).toInt := i32_ne (k := 1) (by decide) c_1
                  have n_2 : (2 : Int) ≠ (x_1 : Int32).toInt := i32_ne (k := 2) (by decide) c_2
                  have n_3 : (3 : Int) ≠ (x_1 : Int32).toInt := i32_ne (k := 3) (by decide) c_3
                  have n_4 : (4 : Int) ≠ (x_1 : Int32).toInt := i32_ne (k := 4) (by decide) c_5
                  have n_5 : (5 : Int) ≠ (x_1 : Int32).toInt := i32_ne (k := 5) (by decide) c_6
                  have n_6 : (6 : Int) ≠ (x_1 : Int32).toInt := i32_ne (k := 6) (by decide) c_7
                  have n_7 : (7 : Int) ≠ (x_1 : Int32).toInt := i32_ne (k := 7) (by decide) c_8
                  refine ev_ts (off := 81) (t := 82) rfl rfl ?hsw rfl ?_
                  case hsw =>
                    by_cases hq : (x_1 : Int32).toInt < 1 ∨ 7 < (x_1 : Int32).toInt
                    · exact if_pos hq
                    · rw [if_neg hq]
                      exact absurd hq (by omega)
                  refine ev_x (i := .iconst 0) (len := 1) (p' := 83) (s' := [.int 0]) rfl rfl rfl ?_
                  obtain rfl := Option.some.inj H
                  exact ev_iret rfl rfl rfl rfl
/-- GameText$Checker.looksAtRule(I)I, from 44 -/
def J_85_44 (N : Nat) (t : Nat) (l_1 : Int32) (l_2 : Int32) (σ : st_S) : Option (Int32 × st_S) :=
  if l_2 = 1 then
    some (0, st_i (σ) 46 7 l_1)
  else
  if l_2 = 2 then
    some (0, st_i (σ) 46 8 l_1)
  else
  if l_2 = 3 then
    some (0, st_i (σ) 46 9 l_1)
  else
  if l_2 = 5 then
    if aB (gI σ 46 5) (gN σ (t + 5)) then
    some (0, st_e (σ) (t + 5) (((gI σ 46 5) : Int32).toNatClampNeg) l_1)
    else none
  else
  if l_2 = 6 then
    if aB (gI σ 46 10) (gN σ (t + 4)) then
    some (0, st_e (σ) (t + 4) (((gI σ 46 10) : Int32).toNatClampNeg) l_1)
    else none
  else
  if l_2 = 7 then
    if aB (gI σ 46 12) (gN σ (t + 5)) then
    some (0, st_e (σ) (t + 5) (((gI σ 46 12) : Int32).toNatClampNeg) l_1)
    else none
  else
    some (0, st_i (σ) 46 6 l_1)
set_option maxRecDepth 100000 in
theorem J_85_44_R {N : Nat} {t : Nat} {l_1 : Int32} {l_2 : Int32} {σ : st_S} {p : Int32 × st_S} (H : J_85_44 N t l_1 l_2 σ = some p) : gR p.2 = gR σ := by
  unfold J_85_44 at H
  refine F_if H (fun _ H => ?_) (fun _ H => ?_)
  · obtain rfl := Option.some.inj H
    exact rfl
  · refine F_if H (fun _ H => ?_) (fun _ H => ?_)
    · obtain rfl := Option.some.inj H
      exact rfl
    · refine F_if H (fun _ H => ?_) (fun _ H => ?_)
      · obtain rfl := Option.some.inj H
        exact rfl
      · refine F_if H (fun _ H => ?_) (fun _ H => ?_)
        · obtain ⟨_, H⟩ := F_gd H
          obtain rfl := Option.some.inj H
          exact rfl
        · refine F_if H (fun _ H => ?_) (fun _ H => ?_)
          · obtain ⟨_, H⟩ := F_gd H
            obtain rfl := Option.some.inj H
            exact rfl
          · refine F_if H (fun _ H => ?_) (fun _ H => ?_)
            · obtain ⟨_, H⟩ := F_gd H
              obtain rfl := Option.some.inj H
              exact rfl
            · obtain rfl := Option.some.inj H
              exact rfl
set_option maxHeartbeats 4000000 in
set_option maxRecDepth 100000 in
theorem J_85_44_ok {N d : Nat} {t : Nat} (ht : t = 4 ∨ t = 20) {l_1 : Int32} {l_2 : Int32} {σ : st_S} {lv : vz_L} {p : Int32 × st_S} (g_0 : vz_g lv 0 = some (.ref 46)) (g_1 : vz_g lv 1 = some (.int l_1)) (g_2 : vz_g lv 2 = some (.int l_2)) (hnb : vz_nbL (vz_gr P0) lv = true) (hr_46_2 : gR σ 46 2 = t) (hr_46_3 : gR σ 46 3 = (t + 1)) (H : J_85_44 N t l_1 l_2 σ = some p) : vz_ev P0 (d + 2) 85 44 lv [] (hp σ) (.inl (some (.int p.1)), hp p.2) := by
  unfold J_85_44 at H
  rcases ht with rfl | rfl
  · refine ev_x (i := .iload_n 2) (len := 1) (p' := 45) (s' := [.int l_2]) rfl rfl (ld_i g_2) ?_
    refine F_if H (fun c_8 H => ?_) (fun c_8 H => ?_)
    · refine ev_st (st' := [.int 1]) (congrArg (fun z => Value.int z :: []) c_8) ?_
      refine ev_ts (off := 43) (t := 88) rfl rfl (by decide) rfl ?_
      refine ev_x (i := .aload_n 0) (len := 1) (p' := 89) (s' := [.ref 46]) rfl rfl (ld_a g_0) ?_
      refine ev_x (i := .iload_n 1) (len := 1) (p' := 90) (s' := [.int l_1, .ref 46]) rfl rfl (ld_i g_1) ?_
      refine ev_pi (p' := 93) rfl rfl rfl ly_46 rfl rfl rfl rfl ?_
      refine ev_x (i := .iconst 0) (len := 1) (p' := 94) (s' := [.int 0]) rfl rfl rfl ?_
      obtain rfl := Option.some.inj H
      exact ev_iret rfl rfl rfl rfl
    · refine F_if H (fun c_9 H => ?_) (fun c_9 H => ?_)
      · refine ev_st (st' := [.int 2]) (congrArg (fun z => Value.int z :: []) c_9) ?_
        refine ev_ts (off := 50) (t := 95) rfl rfl (by decide) rfl ?_
        refine ev_x (i := .aload_n 0) (len := 1) (p' := 96) (s' := [.ref 46]) rfl rfl (ld_a g_0) ?_
        refine ev_x (i := .iload_n 1) (len := 1) (p' := 97) (s' := [.int l_1, .ref 46]) rfl rfl (ld_i g_1) ?_
        refine ev_pi (p' := 100) rfl rfl rfl ly_46 rfl rfl rfl rfl ?_
        refine ev_x (i := .iconst 0) (len := 1) (p' := 101) (s' := [.int 0]) rfl rfl rfl ?_
        obtain rfl := Option.some.inj H
        exact ev_iret rfl rfl rfl rfl
      · refine F_if H (fun c_10 H => ?_) (fun c_10 H => ?_)
        · refine ev_st (st' := [.int 3]) (congrArg (fun z => Value.int z :: []) c_10) ?_
          refine ev_ts (off := 57) (t := 102) rfl rfl (by decide) rfl ?_
          refine ev_x (i := .aload_n 0) (len := 1) (p' := 103) (s' := [.ref 46]) rfl rfl (ld_a g_0) ?_
          refine ev_x (i := .iload_n 1) (len := 1) (p' := 104) (s' := [.int l_1, .ref 46]) rfl rfl (ld_i g_1) ?_
          refine ev_pi (p' := 107) rfl rfl rfl ly_46 rfl rfl rfl rfl ?_
          refine ev_x (i := .iconst 0) (len := 1) (p' := 108) (s' := [.int 0]) rfl rfl rfl ?_
          obtain rfl := Option.some.inj H
          exact ev_iret rfl rfl rfl rfl
        · refine F_if H (fun c_11 H => ?_) (fun c_11 H => ?_)
          · refine ev_st (st' := [.int 5]) (congrArg (fun z => Value.int z :: []) c_11) ?_
            refine ev_ts (off := 64) (t := 109) rfl rfl (by decide) rfl ?_
            refine ev_x (i := .aload_n 0) (len := 1) (p' := 110) (s' := [.ref 46]) rfl rfl (ld_a g_0) ?_
            refine ev_gr (p' := 113) (v := 5) rfl rfl rfl ly_46 rfl rfl hr_46_3 ?_
            refine ev_gc (p' := 116) (v := 9) rfl rfl rfl ly_5 rfl rfl ?_
            refine ev_x (i := .aload_n 0) (len := 1) (p' := 117) (s' := [.ref 46, .ref 9]) rfl rfl (ld_a g_0) ?_
            refine ev_gi (p' := 120) (v := (gI σ 46 5)) rfl rfl rfl ly_46 rfl rfl rfl ?_
            refine ev_x (i := .iload_n 1) (len := 1) (p' := 121) (s' := [.int l_1, .int (gI σ 46 5), .ref 9]) rfl rfl (ld_i g_1) ?_
            obtain ⟨b_12, H⟩ := F_gd H
            refine ev_pa (j := ((gI σ 46 5) : Int32).toNatClampNeg) (p' := 122) rfl rfl ly_9 rfl (gd_in b_12) rfl ?_
            refine ev_x (i := .iconst 0) (len := 1) (p' := 123) (s' := [.int 0]) rfl rfl rfl ?_
            obtain rfl := Option.some.inj H
            exact ev_iret rfl rfl rfl rfl
          · refine F_if H (fun c_13 H => ?_) (fun c_13 H => ?_)
            · refine ev_st (st' := [.int 6]) (congrArg (fun z => Value.int z :: []) c_13) ?_
              refine ev_ts (off := 79) (t := 124) rfl rfl (by decide) rfl ?_
              refine ev_x (i := .aload_n 0) (len := 1) (p' := 125) (s' := [.ref 46]) rfl rfl (ld_a g_0) ?_
              refine ev_gr (p' := 128) (v := 5) rfl rfl rfl ly_46 rfl rfl hr_46_3 ?_
              refine ev_gc (p' := 131) (v := 8) rfl rfl rfl ly_5 rfl rfl ?_
              refine ev_x (i := .aload_n 0) (len := 1) (p' := 132) (s' := [.ref 46, .ref 8]) rfl rfl (ld_a g_0) ?_
              refine ev_gi (p' := 135) (v := (gI σ 46 10)) rfl rfl rfl ly_46 rfl rfl rfl ?_
              refine ev_x (i := .iload_n 1) (len := 1) (p' := 136) (s' := [.int l_1, .int (gI σ 46 10), .ref 8]) rfl rfl (ld_i g_1) ?_
              obtain ⟨b_14, H⟩ := F_gd H
              refine ev_pa (j := ((gI σ 46 10) : Int32).toNatClampNeg) (p' := 137) rfl rfl ly_8 rfl (gd_in b_14) rfl ?_
              refine ev_x (i := .iconst 0) (len := 1) (p' := 138) (s' := [.int 0]) rfl rfl rfl ?_
              obtain rfl := Option.some.inj H
              exact ev_iret rfl rfl rfl rfl
            · refine F_if H (fun c_15 H => ?_) (fun c_15 H => ?_)
              · refine ev_st (st' := [.int 7]) (congrArg (fun z => Value.int z :: []) c_15) ?_
                refine ev_ts (off := 94) (t := 139) rfl rfl (by decide) rfl ?_
                refine ev_x (i := .aload_n 0) (len := 1) (p' := 140) (s' := [.ref 46]) rfl rfl (ld_a g_0) ?_
                refine ev_gr (p' := 143) (v := 5) rfl rfl rfl ly_46 rfl rfl hr_46_3 ?_
                refine ev_gc (p' := 146) (v := 9) rfl rfl rfl ly_5 rfl rfl ?_
                refine ev_x (i := .aload_n 0) (len := 1) (p' := 147) (s' := [.ref 46, .ref 9]) rfl rfl (ld_a g_0) ?_
                refine ev_gi (p' := 150) (v := (gI σ 46 12)) rfl rfl rfl ly_46 rfl rfl rfl ?_
                refine ev_x (i := .iload_n 1) (len := 1) (p' := 151) (s' := [.int l_1, .int (gI σ 46 12), .ref 9]) rfl rfl (ld_i g_1) ?_
                obtain ⟨b_16, H⟩ := F_gd H
                refine ev_pa (j := ((gI σ 46 12) : Int32).toNatClampNeg) (p' := 152) rfl rfl ly_9 rfl (gd_in b_16) rfl ?_
                refine ev_x (i := .iconst 0) (len := 1) (p' := 153) (s' := [.int 0]) rfl rfl rfl ?_
                obtain rfl := Option.some.inj H
                exact ev_iret rfl rfl rfl rfl
              · have n_1 : (1 : Int) ≠ (l_2 : Int32).toInt := i32_ne (k := 1) (by decide) c_8
                have n_2 : (2 : Int) ≠ (l_2 : Int32).toInt := i32_ne (k := 2) (by decide) c_9
                have n_3 : (3 : Int) ≠ (l_2 : Int32).toInt := i32_ne (k := 3) (by decide) c_10
                have n_5 : (5 : Int) ≠ (l_2 : Int32).toInt := i32_ne (k := 5) (by decide) c_11
                have n_6 : (6 : Int) ≠ (l_2 : Int32).toInt := i32_ne (k := 6) (by decide) c_13
                have n_7 : (7 : Int) ≠ (l_2 : Int32).toInt := i32_ne (k := 7) (by decide) c_15
                refine ev_ts (off := 109) (t := 154) rfl rfl ?hsw rfl ?_
                case hsw =>
                  by_cases hq : (l_2 : Int32).toInt < 1 ∨ 7 < (l_2 : Int32).toInt
                  · exact if_pos hq
                  · rw [if_neg hq]
                    have hw : (l_2 : Int32).toInt = 4 := by omega
                    rcases hw with hw <;> rw [hw] <;> rfl
                refine ev_x (i := .aload_n 0) (len := 1) (p' := 155) (s' := [.ref 46]) rfl rfl (ld_a g_0) ?_
                refine ev_x (i := .iload_n 1) (len := 1) (p' := 156) (s' := [.int l_1, .ref 46]) rfl rfl (ld_i g_1) ?_
                refine ev_pi (p' := 159) rfl rfl rfl ly_46 rfl rfl rfl rfl ?_
                refine ev_x (i := .iconst 0) (len := 1) (p' := 160) (s' := [.int 0]) rfl rfl rfl ?_
                obtain rfl := Option.some.inj H
                exact ev_iret rfl rfl rfl rfl
  · refine ev_x (i := .iload_n 2) (len := 1) (p' := 45) (s' := [.int l_2]) rfl rfl (ld_i g_2) ?_
    refine F_if H (fun c_8 H => ?_) (fun c_8 H => ?_)
    · refine ev_st (st' := [.int 1]) (congrArg (fun z => Value.int z :: []) c_8) ?_
      refine ev_ts (off := 43) (t := 88) rfl rfl (by decide) rfl ?_
      refine ev_x (i := .aload_n 0) (len := 1) (p' := 89) (s' := [.ref 46]) rfl rfl (ld_a g_0) ?_
      refine ev_x (i := .iload_n 1) (len := 1) (p' := 90) (s' := [.int l_1, .ref 46]) rfl rfl (ld_i g_1) ?_
      refine ev_pi (p' := 93) rfl rfl rfl ly_46 rfl rfl rfl rfl ?_
      refine ev_x (i := .iconst 0) (len := 1) (p' := 94) (s' := [.int 0]) rfl rfl rfl ?_
      obtain rfl := Option.some.inj H
      exact ev_iret rfl rfl rfl rfl
    · refine F_if H (fun c_9 H => ?_) (fun c_9 H => ?_)
      · refine ev_st (st' := [.int 2]) (congrArg (fun z => Value.int z :: []) c_9) ?_
        refine ev_ts (off := 50) (t := 95) rfl rfl (by decide) rfl ?_
        refine ev_x (i := .aload_n 0) (len := 1) (p' := 96) (s' := [.ref 46]) rfl rfl (ld_a g_0) ?_
        refine ev_x (i := .iload_n 1) (len := 1) (p' := 97) (s' := [.int l_1, .ref 46]) rfl rfl (ld_i g_1) ?_
        refine ev_pi (p' := 100) rfl rfl rfl ly_46 rfl rfl rfl rfl ?_
        refine ev_x (i := .iconst 0) (len := 1) (p' := 101) (s' := [.int 0]) rfl rfl rfl ?_
        obtain rfl := Option.some.inj H
        exact ev_iret rfl rfl rfl rfl
      · refine F_if H (fun c_10 H => ?_) (fun c_10 H => ?_)
        · refine ev_st (st' := [.int 3]) (congrArg (fun z => Value.int z :: []) c_10) ?_
          refine ev_ts (off := 57) (t := 102) rfl rfl (by decide) rfl ?_
          refine ev_x (i := .aload_n 0) (len := 1) (p' := 103) (s' := [.ref 46]) rfl rfl (ld_a g_0) ?_
          refine ev_x (i := .iload_n 1) (len := 1) (p' := 104) (s' := [.int l_1, .ref 46]) rfl rfl (ld_i g_1) ?_
          refine ev_pi (p' := 107) rfl rfl rfl ly_46 rfl rfl rfl rfl ?_
          refine ev_x (i := .iconst 0) (len := 1) (p' := 108) (s' := [.int 0]) rfl rfl rfl ?_
          obtain rfl := Option.some.inj H
          exact ev_iret rfl rfl rfl rfl
        · refine F_if H (fun c_11 H => ?_) (fun c_11 H => ?_)
          · refine ev_st (st' := [.int 5]) (congrArg (fun z => Value.int z :: []) c_11) ?_
            refine ev_ts (off := 64) (t := 109) rfl rfl (by decide) rfl ?_
            refine ev_x (i := .aload_n 0) (len := 1) (p' := 110) (s' := [.ref 46]) rfl rfl (ld_a g_0) ?_
            refine ev_gr (p' := 113) (v := 21) rfl rfl rfl ly_46 rfl rfl hr_46_3 ?_
            refine ev_gc (p' := 116) (v := 25) rfl rfl rfl ly_21 rfl rfl ?_
            refine ev_x (i := .aload_n 0) (len := 1) (p' := 117) (s' := [.ref 46, .ref 25]) rfl rfl (ld_a g_0) ?_
            refine ev_gi (p' := 120) (v := (gI σ 46 5)) rfl rfl rfl ly_46 rfl rfl rfl ?_
            refine ev_x (i := .iload_n 1) (len := 1) (p' := 121) (s' := [.int l_1, .int (gI σ 46 5), .ref 25]) rfl rfl (ld_i g_1) ?_
            obtain ⟨b_12, H⟩ := F_gd H
            refine ev_pa (j := ((gI σ 46 5) : Int32).toNatClampNeg) (p' := 122) rfl rfl ly_25 rfl (gd_in b_12) rfl ?_
            refine ev_x (i := .iconst 0) (len := 1) (p' := 123) (s' := [.int 0]) rfl rfl rfl ?_
            obtain rfl := Option.some.inj H
            exact ev_iret rfl rfl rfl rfl
          · refine F_if H (fun c_13 H => ?_) (fun c_13 H => ?_)
            · refine ev_st (st' := [.int 6]) (congrArg (fun z => Value.int z :: []) c_13) ?_
              refine ev_ts (off := 79) (t := 124) rfl rfl (by decide) rfl ?_
              refine ev_x (i := .aload_n 0) (len := 1) (p' := 125) (s' := [.ref 46]) rfl rfl (ld_a g_0) ?_
              refine ev_gr (p' := 128) (v := 21) rfl rfl rfl ly_46 rfl rfl hr_46_3 ?_
              refine ev_gc (p' := 131) (v := 24) rfl rfl rfl ly_21 rfl rfl ?_
              refine ev_x (i := .aload_n 0) (len := 1) (p' := 132) (s' := [.ref 46, .ref 24]) rfl rfl (ld_a g_0) ?_
              refine ev_gi (p' := 135) (v := (gI σ 46 10)) rfl rfl rfl ly_46 rfl rfl rfl ?_
              refine ev_x (i := .iload_n 1) (len := 1) (p' := 136) (s' := [.int l_1, .int (gI σ 46 10), .ref 24]) rfl rfl (ld_i g_1) ?_
              obtain ⟨b_14, H⟩ := F_gd H
              refine ev_pa (j := ((gI σ 46 10) : Int32).toNatClampNeg) (p' := 137) rfl rfl ly_24 rfl (gd_in b_14) rfl ?_
              refine ev_x (i := .iconst 0) (len := 1) (p' := 138) (s' := [.int 0]) rfl rfl rfl ?_
              obtain rfl := Option.some.inj H
              exact ev_iret rfl rfl rfl rfl
            · refine F_if H (fun c_15 H => ?_) (fun c_15 H => ?_)
              · refine ev_st (st' := [.int 7]) (congrArg (fun z => Value.int z :: []) c_15) ?_
                refine ev_ts (off := 94) (t := 139) rfl rfl (by decide) rfl ?_
                refine ev_x (i := .aload_n 0) (len := 1) (p' := 140) (s' := [.ref 46]) rfl rfl (ld_a g_0) ?_
                refine ev_gr (p' := 143) (v := 21) rfl rfl rfl ly_46 rfl rfl hr_46_3 ?_
                refine ev_gc (p' := 146) (v := 25) rfl rfl rfl ly_21 rfl rfl ?_
                refine ev_x (i := .aload_n 0) (len := 1) (p' := 147) (s' := [.ref 46, .ref 25]) rfl rfl (ld_a g_0) ?_
                refine ev_gi (p' := 150) (v := (gI σ 46 12)) rfl rfl rfl ly_46 rfl rfl rfl ?_
                refine ev_x (i := .iload_n 1) (len := 1) (p' := 151) (s' := [.int l_1, .int (gI σ 46 12), .ref 25]) rfl rfl (ld_i g_1) ?_
                obtain ⟨b_16, H⟩ := F_gd H
                refine ev_pa (j := ((gI σ 46 12) : Int32).toNatClampNeg) (p' := 152) rfl rfl ly_25 rfl (gd_in b_16) rfl ?_
                refine ev_x (i := .iconst 0) (len := 1) (p' := 153) (s' := [.int 0]) rfl rfl rfl ?_
                obtain rfl := Option.some.inj H
                exact ev_iret rfl rfl rfl rfl
              · have n_1 : (1 : Int) ≠ (l_2 : Int32).toInt := i32_ne (k := 1) (by decide) c_8
                have n_2 : (2 : Int) ≠ (l_2 : Int32).toInt := i32_ne (k := 2) (by decide) c_9
                have n_3 : (3 : Int) ≠ (l_2 : Int32).toInt := i32_ne (k := 3) (by decide) c_10
                have n_5 : (5 : Int) ≠ (l_2 : Int32).toInt := i32_ne (k := 5) (by decide) c_11
                have n_6 : (6 : Int) ≠ (l_2 : Int32).toInt := i32_ne (k := 6) (by decide) c_13
                have n_7 : (7 : Int) ≠ (l_2 : Int32).toInt := i32_ne (k := 7) (by decide) c_15
                refine ev_ts (off := 109) (t := 154) rfl rfl ?hsw rfl ?_
                case hsw =>
                  by_cases hq : (l_2 : Int32).toInt < 1 ∨ 7 < (l_2 : Int32).toInt
                  · exact if_pos hq
                  · rw [if_neg hq]
                    have hw : (l_2 : Int32).toInt = 4 := by omega
                    rcases hw with hw <;> rw [hw] <;> rfl
                refine ev_x (i := .aload_n 0) (len := 1) (p' := 155) (s' := [.ref 46]) rfl rfl (ld_a g_0) ?_
                refine ev_x (i := .iload_n 1) (len := 1) (p' := 156) (s' := [.int l_1, .ref 46]) rfl rfl (ld_i g_1) ?_
                refine ev_pi (p' := 159) rfl rfl rfl ly_46 rfl rfl rfl rfl ?_
                refine ev_x (i := .iconst 0) (len := 1) (p' := 160) (s' := [.int 0]) rfl rfl rfl ?_
                obtain rfl := Option.some.inj H
                exact ev_iret rfl rfl rfl rfl
/-- GameText$Checker.looksAtRule(I)I -/
def F_85 (N : Nat) (t : Nat) (x_1 : Int32) (σ : st_S) : Option (Int32 × st_S) :=
  if aB x_1 (gN σ (t + 5)) then
  (F_86 N t (gE (σ) (t + 5) (x_1 : Int32).toNatClampNeg) (σ)).bind fun p_2 =>
  if p_2.1 = 0 then
    J_85_44 N t x_1 (gE (σ) (t + 5) (x_1 : Int32).toNatClampNeg) (p_2.2)
  else
    (F_63 N t x_1 (p_2.2)).bind fun p_4 =>
    if p_4.1 = p_2.1 then
      J_85_44 N t x_1 (gE (σ) (t + 5) (x_1 : Int32).toNatClampNeg) (p_4.2)
    else
      if aB x_1 (gN p_4.2 (t + 3)) then
      (F_61 N 3 (gE (p_4.2) (t + 3) (x_1 : Int32).toNatClampNeg) (p_4.2)).bind fun p_7 =>
      some (p_7.1, p_7.2)
      else none
  else none
set_option maxRecDepth 100000 in
theorem F_85_R {N : Nat} {t : Nat} {x_1 : Int32} {σ : st_S} {p : Int32 × st_S} (H : F_85 N t x_1 σ = some p) : gR p.2 = gR σ := by
  unfold F_85 at H
  obtain ⟨_, H⟩ := F_gd H
  obtain ⟨p_2, G_2, H⟩ := F_bd H
  refine F_if H (fun _ H => ?_) (fun _ H => ?_)
  · exact (((J_85_44_R H)).trans ((F_86_R G_2).trans rfl))
  · obtain ⟨p_4, G_4, H⟩ := F_bd H
    refine F_if H (fun _ H => ?_) (fun _ H => ?_)
    · exact (((J_85_44_R H)).trans ((F_63_R G_4).trans ((F_86_R G_2).trans rfl)))
    · obtain ⟨_, H⟩ := F_gd H
      obtain ⟨p_7, G_7, H⟩ := F_bd H
      obtain rfl := Option.some.inj H
      exact ((F_61_R G_7).trans ((F_63_R G_4).trans ((F_86_R G_2).trans rfl)))
set_option maxHeartbeats 4000000 in
set_option maxRecDepth 100000 in
theorem F_85_ok {N d : Nat} {t : Nat} (ht : t = 4 ∨ t = 20) {x_1 : Int32} {σ : st_S} {p : Int32 × st_S} (hr_46_2 : gR σ 46 2 = t) (hr_46_3 : gR σ 46 3 = (t + 1)) (H : F_85 N t x_1 σ = some p) : vz_ev P0 (d + 2) 85 0 (lv_args 0 [.ref 46, .int x_1]) [] (hp σ) (.inl (some (.int p.1)), hp p.2) := by
  unfold F_85 at H
  rcases ht with rfl | rfl
  · refine ev_x (i := .aload_n 0) (len := 1) (p' := 1) (s' := [.ref 46]) rfl rfl rfl ?_
    refine ev_gr (p' := 4) (v := 5) rfl rfl rfl ly_46 rfl rfl hr_46_3 ?_
    refine ev_gc (p' := 7) (v := 9) rfl rfl rfl ly_5 rfl rfl ?_
    refine ev_x (i := .iload_n 1) (len := 1) (p' := 8) (s' := [.int x_1, .ref 9]) rfl rfl rfl ?_
    obtain ⟨b_1, H⟩ := F_gd H
    refine ev_ga (p' := 9) (v := (gE (σ) 9 (x_1 : Int32).toNatClampNeg)) rfl rfl ly_9 rfl (gd_in b_1) rfl ?_
    refine ev_x (i := .istore_n 2) (len := 1) (p' := 10) (s' := []) (l' := [(2, .int (gE (σ) 9 (x_1 : Int32).toNatClampNeg)), (0, .ref 46), (1, .int x_1)]) rfl rfl rfl ?_
    refine ev_x (i := .aload_n 0) (len := 1) (p' := 11) (s' := [.ref 46]) rfl rfl rfl ?_
    refine ev_x (i := .iload_n 2) (len := 1) (p' := 12) (s' := [.int (gE (σ) 9 (x_1 : Int32).toNatClampNeg), .ref 46]) rfl rfl rfl ?_
    obtain ⟨p_2, G_2, H⟩ := F_bd H
    refine ev_cv (d := d + 1) (As := [.int (gE (σ) 9 (x_1 : Int32).toNatClampNeg)]) (a := 46) (p' := 15) rfl rfl rfl ly_46 rfl rfl rfl rfl rfl rfl rfl (F_86_ok (d := d + 0) (ht := (Or.inl rfl)) (hr_46_2 := hr_46_2) (hr_46_3 := hr_46_3) G_2) ?_
    refine ev_st (st' := [.int p_2.1]) rfl ?_
    have e_2 := F_86_R G_2
    refine ev_x (i := .istore_n 3) (len := 1) (p' := 16) (s' := []) (l' := [(3, .int p_2.1), (2, .int (gE (σ) 9 (x_1 : Int32).toNatClampNeg)), (0, .ref 46), (1, .int x_1)]) rfl rfl rfl ?_
    refine ev_x (i := .iload_n 3) (len := 1) (p' := 17) (s' := [.int p_2.1]) rfl rfl rfl ?_
    refine F_if H (fun c_3 H => ?_) (fun c_3 H => ?_)
    · refine ev_b0 (t := 44) (p' := 44) rfl rfl rfl (if_pos c_3) ?_
      exact J_85_44_ok (d := d) (Or.inl rfl) rfl rfl rfl rfl ((congrFun (congrFun e_2 46) 2).trans hr_46_2) ((congrFun (congrFun e_2 46) 3).trans hr_46_3) H
    · refine ev_b0 (t := 44) (p' := 20) rfl rfl rfl (if_neg c_3) ?_
      refine ev_x (i := .aload_n 0) (len := 1) (p' := 21) (s' := [.ref 46]) rfl rfl rfl ?_
      refine ev_x (i := .iload_n 1) (len := 1) (p' := 22) (s' := [.int x_1, .ref 46]) rfl rfl rfl ?_
      obtain ⟨p_4, G_4, H⟩ := F_bd H
      refine ev_cv (d := d + 1) (As := [.int x_1]) (a := 46) (p' := 25) rfl rfl rfl ly_46 rfl rfl rfl rfl rfl rfl rfl (F_63_ok (d := d + 0) (ht := (Or.inl rfl)) (hr_46_3 := ((congrFun (congrFun e_2 46) 3).trans hr_46_3)) G_4) ?_
      refine ev_st (st' := [.int p_4.1]) rfl ?_
      have e_4 := F_63_R G_4
      refine ev_x (i := .iload_n 3) (len := 1) (p' := 26) (s' := [.int p_2.1, .int p_4.1]) rfl rfl rfl ?_
      refine F_if H (fun c_5 H => ?_) (fun c_5 H => ?_)
      · refine ev_b2 (t := 44) (p' := 44) rfl rfl rfl (if_pos c_5) ?_
        exact J_85_44_ok (d := d) (Or.inl rfl) rfl rfl rfl rfl ((congrFun (congrFun e_4 46) 2).trans ((congrFun (congrFun e_2 46) 2).trans hr_46_2)) ((congrFun (congrFun e_4 46) 3).trans ((congrFun (congrFun e_2 46) 3).trans hr_46_3)) H
      · refine ev_b2 (t := 44) (p' := 29) rfl rfl rfl (if_neg c_5) ?_
        refine ev_x (i := .aload_n 0) (len := 1) (p' := 30) (s' := [.ref 46]) rfl rfl rfl ?_
        refine ev_x (i := .iconst 3) (len := 1) (p' := 31) (s' := [.int 3, .ref 46]) rfl rfl rfl ?_
        refine ev_x (i := .aload_n 0) (len := 1) (p' := 32) (s' := [.ref 46, .int 3, .ref 46]) rfl rfl rfl ?_
        refine ev_gr (p' := 35) (v := 5) rfl rfl rfl ly_46 rfl rfl ((congrFun (congrFun e_4 46) 3).trans ((congrFun (congrFun e_2 46) 3).trans hr_46_3)) ?_
        refine ev_gc (p' := 38) (v := 7) rfl rfl rfl ly_5 rfl rfl ?_
        refine ev_x (i := .iload_n 1) (len := 1) (p' := 39) (s' := [.int x_1, .ref 7, .int 3, .ref 46]) rfl rfl rfl ?_
        obtain ⟨b_6, H⟩ := F_gd H
        refine ev_ga (p' := 40) (v := (gE (p_4.2) 7 (x_1 : Int32).toNatClampNeg)) rfl rfl ly_7 rfl (gd_in b_6) rfl ?_
        obtain ⟨p_7, G_7, H⟩ := F_bd H
        refine ev_cv (d := d + 1) (As := [.int 3, .int (gE (p_4.2) 7 (x_1 : Int32).toNatClampNeg)]) (a := 46) (p' := 43) rfl rfl rfl ly_46 rfl rfl rfl rfl rfl rfl rfl (F_61_ok (d := d + 0)   G_7) ?_
        refine ev_st (st' := [.int p_7.1]) rfl ?_
        have e_7 := F_61_R G_7
        obtain rfl := Option.some.inj H
        exact ev_iret rfl rfl rfl rfl
  · refine ev_x (i := .aload_n 0) (len := 1) (p' := 1) (s' := [.ref 46]) rfl rfl rfl ?_
    refine ev_gr (p' := 4) (v := 21) rfl rfl rfl ly_46 rfl rfl hr_46_3 ?_
    refine ev_gc (p' := 7) (v := 25) rfl rfl rfl ly_21 rfl rfl ?_
    refine ev_x (i := .iload_n 1) (len := 1) (p' := 8) (s' := [.int x_1, .ref 25]) rfl rfl rfl ?_
    obtain ⟨b_1, H⟩ := F_gd H
    refine ev_ga (p' := 9) (v := (gE (σ) 25 (x_1 : Int32).toNatClampNeg)) rfl rfl ly_25 rfl (gd_in b_1) rfl ?_
    refine ev_x (i := .istore_n 2) (len := 1) (p' := 10) (s' := []) (l' := [(2, .int (gE (σ) 25 (x_1 : Int32).toNatClampNeg)), (0, .ref 46), (1, .int x_1)]) rfl rfl rfl ?_
    refine ev_x (i := .aload_n 0) (len := 1) (p' := 11) (s' := [.ref 46]) rfl rfl rfl ?_
    refine ev_x (i := .iload_n 2) (len := 1) (p' := 12) (s' := [.int (gE (σ) 25 (x_1 : Int32).toNatClampNeg), .ref 46]) rfl rfl rfl ?_
    obtain ⟨p_2, G_2, H⟩ := F_bd H
    refine ev_cv (d := d + 1) (As := [.int (gE (σ) 25 (x_1 : Int32).toNatClampNeg)]) (a := 46) (p' := 15) rfl rfl rfl ly_46 rfl rfl rfl rfl rfl rfl rfl (F_86_ok (d := d + 0) (ht := (Or.inr rfl)) (hr_46_2 := hr_46_2) (hr_46_3 := hr_46_3) G_2) ?_
    refine ev_st (st' := [.int p_2.1]) rfl ?_
    have e_2 := F_86_R G_2
    refine ev_x (i := .istore_n 3) (len := 1) (p' := 16) (s' := []) (l' := [(3, .int p_2.1), (2, .int (gE (σ) 25 (x_1 : Int32).toNatClampNeg)), (0, .ref 46), (1, .int x_1)]) rfl rfl rfl ?_
    refine ev_x (i := .iload_n 3) (len := 1) (p' := 17) (s' := [.int p_2.1]) rfl rfl rfl ?_
    refine F_if H (fun c_3 H => ?_) (fun c_3 H => ?_)
    · refine ev_b0 (t := 44) (p' := 44) rfl rfl rfl (if_pos c_3) ?_
      exact J_85_44_ok (d := d) (Or.inr rfl) rfl rfl rfl rfl ((congrFun (congrFun e_2 46) 2).trans hr_46_2) ((congrFun (congrFun e_2 46) 3).trans hr_46_3) H
    · refine ev_b0 (t := 44) (p' := 20) rfl rfl rfl (if_neg c_3) ?_
      refine ev_x (i := .aload_n 0) (len := 1) (p' := 21) (s' := [.ref 46]) rfl rfl rfl ?_
      refine ev_x (i := .iload_n 1) (len := 1) (p' := 22) (s' := [.int x_1, .ref 46]) rfl rfl rfl ?_
      obtain ⟨p_4, G_4, H⟩ := F_bd H
      refine ev_cv (d := d + 1) (As := [.int x_1]) (a := 46) (p' := 25) rfl rfl rfl ly_46 rfl rfl rfl rfl rfl rfl rfl (F_63_ok (d := d + 0) (ht := (Or.inr rfl)) (hr_46_3 := ((congrFun (congrFun e_2 46) 3).trans hr_46_3)) G_4) ?_
      refine ev_st (st' := [.int p_4.1]) rfl ?_
      have e_4 := F_63_R G_4
      refine ev_x (i := .iload_n 3) (len := 1) (p' := 26) (s' := [.int p_2.1, .int p_4.1]) rfl rfl rfl ?_
      refine F_if H (fun c_5 H => ?_) (fun c_5 H => ?_)
      · refine ev_b2 (t := 44) (p' := 44) rfl rfl rfl (if_pos c_5) ?_
        exact J_85_44_ok (d := d) (Or.inr rfl) rfl rfl rfl rfl ((congrFun (congrFun e_4 46) 2).trans ((congrFun (congrFun e_2 46) 2).trans hr_46_2)) ((congrFun (congrFun e_4 46) 3).trans ((congrFun (congrFun e_2 46) 3).trans hr_46_3)) H
      · refine ev_b2 (t := 44) (p' := 29) rfl rfl rfl (if_neg c_5) ?_
        refine ev_x (i := .aload_n 0) (len := 1) (p' := 30) (s' := [.ref 46]) rfl rfl rfl ?_
        refine ev_x (i := .iconst 3) (len := 1) (p' := 31) (s' := [.int 3, .ref 46]) rfl rfl rfl ?_
        refine ev_x (i := .aload_n 0) (len := 1) (p' := 32) (s' := [.ref 46, .int 3, .ref 46]) rfl rfl rfl ?_
        refine ev_gr (p' := 35) (v := 21) rfl rfl rfl ly_46 rfl rfl ((congrFun (congrFun e_4 46) 3).trans ((congrFun (congrFun e_2 46) 3).trans hr_46_3)) ?_
        refine ev_gc (p' := 38) (v := 23) rfl rfl rfl ly_21 rfl rfl ?_
        refine ev_x (i := .iload_n 1) (len := 1) (p' := 39) (s' := [.int x_1, .ref 23, .int 3, .ref 46]) rfl rfl rfl ?_
        obtain ⟨b_6, H⟩ := F_gd H
        refine ev_ga (p' := 40) (v := (gE (p_4.2) 23 (x_1 : Int32).toNatClampNeg)) rfl rfl ly_23 rfl (gd_in b_6) rfl ?_
        obtain ⟨p_7, G_7, H⟩ := F_bd H
        refine ev_cv (d := d + 1) (As := [.int 3, .int (gE (p_4.2) 23 (x_1 : Int32).toNatClampNeg)]) (a := 46) (p' := 43) rfl rfl rfl ly_46 rfl rfl rfl rfl rfl rfl rfl (F_61_ok (d := d + 0)   G_7) ?_
        refine ev_st (st' := [.int p_7.1]) rfl ?_
        have e_7 := F_61_R G_7
        obtain rfl := Option.some.inj H
        exact ev_iret rfl rfl rfl rfl
/-- GameText$Checker.begins(IZ)I -/
def F_87 (N : Nat) (t : Nat) (x_1 : Int32) (x_2 : Int32) (σ : st_S) : Option (Int32 × st_S) :=
  if x_2 = 0 then
    if aB x_1 (gN σ (t + 4)) then
    if aB x_1 (gN σ (t + 5)) then
    (F_59 N (gE (σ) (t + 4) (x_1 : Int32).toNatClampNeg) (gE (σ) (t + 5) (x_1 : Int32).toNatClampNeg) (st_i (σ) 46 5 x_1)).bind fun p_4 =>
    if p_4.1 < 0 then
      some (0, p_4.2)
    else
      (F_61 N 2 (gE (σ) (t + 4) (x_1 : Int32).toNatClampNeg) (p_4.2)).bind fun p_6 =>
      some (p_6.1, p_6.2)
    else none
    else none
  else
    if aB x_1 (gN σ (t + 3)) then
    (F_61 N 5 (gE (σ) (t + 3) (x_1 : Int32).toNatClampNeg) (st_i (σ) 46 5 x_1)).bind fun p_8 =>
    some (p_8.1, p_8.2)
    else none
set_option maxRecDepth 100000 in
theorem F_87_R {N : Nat} {t : Nat} {x_1 : Int32} {x_2 : Int32} {σ : st_S} {p : Int32 × st_S} (H : F_87 N t x_1 x_2 σ = some p) : gR p.2 = gR σ := by
  unfold F_87 at H
  refine F_if H (fun _ H => ?_) (fun _ H => ?_)
  · obtain ⟨_, H⟩ := F_gd H
    obtain ⟨_, H⟩ := F_gd H
    obtain ⟨p_4, G_4, H⟩ := F_bd H
    refine F_if H (fun _ H => ?_) (fun _ H => ?_)
    · obtain rfl := Option.some.inj H
      exact ((F_59_R G_4).trans rfl)
    · obtain ⟨p_6, G_6, H⟩ := F_bd H
      obtain rfl := Option.some.inj H
      exact ((F_61_R G_6).trans ((F_59_R G_4).trans rfl))
  · obtain ⟨_, H⟩ := F_gd H
    obtain ⟨p_8, G_8, H⟩ := F_bd H
    obtain rfl := Option.some.inj H
    exact ((F_61_R G_8).trans rfl)
set_option maxHeartbeats 4000000 in
set_option maxRecDepth 100000 in
theorem F_87_ok {N d : Nat} {t : Nat} (ht : t = 4 ∨ t = 20) {x_1 : Int32} {x_2 : Int32} {σ : st_S} {p : Int32 × st_S} (hr_46_3 : gR σ 46 3 = (t + 1)) (H : F_87 N t x_1 x_2 σ = some p) : vz_ev P0 (d + 3) 87 0 (lv_args 0 [.ref 46, .int x_1, .int x_2]) [] (hp σ) (.inl (some (.int p.1)), hp p.2) := by
  unfold F_87 at H
  rcases ht with rfl | rfl
  · refine ev_x (i := .aload_n 0) (len := 1) (p' := 1) (s' := [.ref 46]) rfl rfl rfl ?_
    refine ev_x (i := .iload_n 1) (len := 1) (p' := 2) (s' := [.int x_1, .ref 46]) rfl rfl rfl ?_
    refine ev_pi (p' := 5) rfl rfl rfl ly_46 rfl rfl rfl rfl ?_
    refine ev_x (i := .iload_n 2) (len := 1) (p' := 6) (s' := [.int x_2]) rfl rfl rfl ?_
    refine F_if H (fun c_1 H => ?_) (fun c_1 H => ?_)
    · refine ev_b0 (t := 24) (p' := 24) rfl rfl rfl (if_pos c_1) ?_
      refine ev_x (i := .aload_n 0) (len := 1) (p' := 25) (s' := [.ref 46]) rfl rfl rfl ?_
      refine ev_gr (p' := 28) (v := 5) rfl rfl rfl ly_46 rfl rfl hr_46_3 ?_
      refine ev_gc (p' := 31) (v := 8) rfl rfl rfl ly_5 rfl rfl ?_
      refine ev_x (i := .iload_n 1) (len := 1) (p' := 32) (s' := [.int x_1, .ref 8]) rfl rfl rfl ?_
      obtain ⟨b_2, H⟩ := F_gd H
      refine ev_ga (p' := 33) (v := (gE (σ) 8 (x_1 : Int32).toNatClampNeg)) rfl rfl ly_8 rfl (gd_in b_2) rfl ?_
      refine ev_x (i := .istore_n 3) (len := 1) (p' := 34) (s' := []) (l' := [(3, .int (gE (σ) 8 (x_1 : Int32).toNatClampNeg)), (0, .ref 46), (1, .int x_1), (2, .int x_2)]) rfl rfl rfl ?_
      refine ev_x (i := .aload_n 0) (len := 1) (p' := 35) (s' := [.ref 46]) rfl rfl rfl ?_
      refine ev_gc (p' := 38) (v := 47) rfl rfl rfl ly_46 rfl rfl ?_
      refine ev_x (i := .iload_n 3) (len := 1) (p' := 39) (s' := [.int (gE (σ) 8 (x_1 : Int32).toNatClampNeg), .ref 47]) rfl rfl rfl ?_
      refine ev_x (i := .aload_n 0) (len := 1) (p' := 40) (s' := [.ref 46, .int (gE (σ) 8 (x_1 : Int32).toNatClampNeg), .ref 47]) rfl rfl rfl ?_
      refine ev_gr (p' := 43) (v := 5) rfl rfl rfl ly_46 rfl rfl hr_46_3 ?_
      refine ev_gc (p' := 46) (v := 9) rfl rfl rfl ly_5 rfl rfl ?_
      refine ev_x (i := .iload_n 1) (len := 1) (p' := 47) (s' := [.int x_1, .ref 9, .int (gE (σ) 8 (x_1 : Int32).toNatClampNeg), .ref 47]) rfl rfl rfl ?_
      obtain ⟨b_3, H⟩ := F_gd H
      refine ev_ga (p' := 48) (v := (gE (σ) 9 (x_1 : Int32).toNatClampNeg)) rfl rfl ly_9 rfl (gd_in b_3) rfl ?_
      obtain ⟨p_4, G_4, H⟩ := F_bd H
      refine ev_cv (d := d + 2) (As := [.int (gE (σ) 8 (x_1 : Int32).toNatClampNeg), .int (gE (σ) 9 (x_1 : Int32).toNatClampNeg)]) (a := 47) (p' := 51) rfl rfl rfl ly_47 rfl rfl rfl rfl rfl rfl rfl (F_59_ok (d := d + 0)   G_4) ?_
      refine ev_st (st' := [.int p_4.1]) rfl ?_
      have e_4 := F_59_R G_4
      refine F_if H (fun c_5 H => ?_) (fun c_5 H => ?_)
      · refine ev_b0 (t := 63) (p' := 63) rfl rfl rfl (if_pos c_5) ?_
        refine ev_x (i := .iconst 0) (len := 1) (p' := 64) (s' := [.int 0]) rfl rfl rfl ?_
        obtain rfl := Option.some.inj H
        exact ev_iret rfl rfl rfl rfl
      · refine ev_b0 (t := 63) (p' := 54) rfl rfl rfl (if_neg c_5) ?_
        refine ev_x (i := .aload_n 0) (len := 1) (p' := 55) (s' := [.ref 46]) rfl rfl rfl ?_
        refine ev_x (i := .iconst 2) (len := 1) (p' := 56) (s' := [.int 2, .ref 46]) rfl rfl rfl ?_
        refine ev_x (i := .iload_n 3) (len := 1) (p' := 57) (s' := [.int (gE (σ) 8 (x_1 : Int32).toNatClampNeg), .int 2, .ref 46]) rfl rfl rfl ?_
        obtain ⟨p_6, G_6, H⟩ := F_bd H
        refine ev_cv (d := d + 2) (As := [.int 2, .int (gE (σ) 8 (x_1 : Int32).toNatClampNeg)]) (a := 46) (p' := 60) rfl rfl rfl ly_46 rfl rfl rfl rfl rfl rfl rfl (F_61_ok (d := d + 1)   G_6) ?_
        refine ev_st (st' := [.int p_6.1]) rfl ?_
        have e_6 := F_61_R G_6
        refine ev_x (i := .goto 4) (len := 3) (p' := 64) (s' := [.int p_6.1]) rfl rfl rfl ?_
        obtain rfl := Option.some.inj H
        exact ev_iret rfl rfl rfl rfl
    · refine ev_b0 (t := 24) (p' := 9) rfl rfl rfl (if_neg c_1) ?_
      refine ev_x (i := .aload_n 0) (len := 1) (p' := 10) (s' := [.ref 46]) rfl rfl rfl ?_
      refine ev_x (i := .iconst 5) (len := 1) (p' := 11) (s' := [.int 5, .ref 46]) rfl rfl rfl ?_
      refine ev_x (i := .aload_n 0) (len := 1) (p' := 12) (s' := [.ref 46, .int 5, .ref 46]) rfl rfl rfl ?_
      refine ev_gr (p' := 15) (v := 5) rfl rfl rfl ly_46 rfl rfl hr_46_3 ?_
      refine ev_gc (p' := 18) (v := 7) rfl rfl rfl ly_5 rfl rfl ?_
      refine ev_x (i := .iload_n 1) (len := 1) (p' := 19) (s' := [.int x_1, .ref 7, .int 5, .ref 46]) rfl rfl rfl ?_
      obtain ⟨b_7, H⟩ := F_gd H
      refine ev_ga (p' := 20) (v := (gE (σ) 7 (x_1 : Int32).toNatClampNeg)) rfl rfl ly_7 rfl (gd_in b_7) rfl ?_
      obtain ⟨p_8, G_8, H⟩ := F_bd H
      refine ev_cv (d := d + 2) (As := [.int 5, .int (gE (σ) 7 (x_1 : Int32).toNatClampNeg)]) (a := 46) (p' := 23) rfl rfl rfl ly_46 rfl rfl rfl rfl rfl rfl rfl (F_61_ok (d := d + 1)   G_8) ?_
      refine ev_st (st' := [.int p_8.1]) rfl ?_
      have e_8 := F_61_R G_8
      obtain rfl := Option.some.inj H
      exact ev_iret rfl rfl rfl rfl
  · refine ev_x (i := .aload_n 0) (len := 1) (p' := 1) (s' := [.ref 46]) rfl rfl rfl ?_
    refine ev_x (i := .iload_n 1) (len := 1) (p' := 2) (s' := [.int x_1, .ref 46]) rfl rfl rfl ?_
    refine ev_pi (p' := 5) rfl rfl rfl ly_46 rfl rfl rfl rfl ?_
    refine ev_x (i := .iload_n 2) (len := 1) (p' := 6) (s' := [.int x_2]) rfl rfl rfl ?_
    refine F_if H (fun c_1 H => ?_) (fun c_1 H => ?_)
    · refine ev_b0 (t := 24) (p' := 24) rfl rfl rfl (if_pos c_1) ?_
      refine ev_x (i := .aload_n 0) (len := 1) (p' := 25) (s' := [.ref 46]) rfl rfl rfl ?_
      refine ev_gr (p' := 28) (v := 21) rfl rfl rfl ly_46 rfl rfl hr_46_3 ?_
      refine ev_gc (p' := 31) (v := 24) rfl rfl rfl ly_21 rfl rfl ?_
      refine ev_x (i := .iload_n 1) (len := 1) (p' := 32) (s' := [.int x_1, .ref 24]) rfl rfl rfl ?_
      obtain ⟨b_2, H⟩ := F_gd H
      refine ev_ga (p' := 33) (v := (gE (σ) 24 (x_1 : Int32).toNatClampNeg)) rfl rfl ly_24 rfl (gd_in b_2) rfl ?_
      refine ev_x (i := .istore_n 3) (len := 1) (p' := 34) (s' := []) (l' := [(3, .int (gE (σ) 24 (x_1 : Int32).toNatClampNeg)), (0, .ref 46), (1, .int x_1), (2, .int x_2)]) rfl rfl rfl ?_
      refine ev_x (i := .aload_n 0) (len := 1) (p' := 35) (s' := [.ref 46]) rfl rfl rfl ?_
      refine ev_gc (p' := 38) (v := 47) rfl rfl rfl ly_46 rfl rfl ?_
      refine ev_x (i := .iload_n 3) (len := 1) (p' := 39) (s' := [.int (gE (σ) 24 (x_1 : Int32).toNatClampNeg), .ref 47]) rfl rfl rfl ?_
      refine ev_x (i := .aload_n 0) (len := 1) (p' := 40) (s' := [.ref 46, .int (gE (σ) 24 (x_1 : Int32).toNatClampNeg), .ref 47]) rfl rfl rfl ?_
      refine ev_gr (p' := 43) (v := 21) rfl rfl rfl ly_46 rfl rfl hr_46_3 ?_
      refine ev_gc (p' := 46) (v := 25) rfl rfl rfl ly_21 rfl rfl ?_
      refine ev_x (i := .iload_n 1) (len := 1) (p' := 47) (s' := [.int x_1, .ref 25, .int (gE (σ) 24 (x_1 : Int32).toNatClampNeg), .ref 47]) rfl rfl rfl ?_
      obtain ⟨b_3, H⟩ := F_gd H
      refine ev_ga (p' := 48) (v := (gE (σ) 25 (x_1 : Int32).toNatClampNeg)) rfl rfl ly_25 rfl (gd_in b_3) rfl ?_
      obtain ⟨p_4, G_4, H⟩ := F_bd H
      refine ev_cv (d := d + 2) (As := [.int (gE (σ) 24 (x_1 : Int32).toNatClampNeg), .int (gE (σ) 25 (x_1 : Int32).toNatClampNeg)]) (a := 47) (p' := 51) rfl rfl rfl ly_47 rfl rfl rfl rfl rfl rfl rfl (F_59_ok (d := d + 0)   G_4) ?_
      refine ev_st (st' := [.int p_4.1]) rfl ?_
      have e_4 := F_59_R G_4
      refine F_if H (fun c_5 H => ?_) (fun c_5 H => ?_)
      · refine ev_b0 (t := 63) (p' := 63) rfl rfl rfl (if_pos c_5) ?_
        refine ev_x (i := .iconst 0) (len := 1) (p' := 64) (s' := [.int 0]) rfl rfl rfl ?_
        obtain rfl := Option.some.inj H
        exact ev_iret rfl rfl rfl rfl
      · refine ev_b0 (t := 63) (p' := 54) rfl rfl rfl (if_neg c_5) ?_
        refine ev_x (i := .aload_n 0) (len := 1) (p' := 55) (s' := [.ref 46]) rfl rfl rfl ?_
        refine ev_x (i := .iconst 2) (len := 1) (p' := 56) (s' := [.int 2, .ref 46]) rfl rfl rfl ?_
        refine ev_x (i := .iload_n 3) (len := 1) (p' := 57) (s' := [.int (gE (σ) 24 (x_1 : Int32).toNatClampNeg), .int 2, .ref 46]) rfl rfl rfl ?_
        obtain ⟨p_6, G_6, H⟩ := F_bd H
        refine ev_cv (d := d + 2) (As := [.int 2, .int (gE (σ) 24 (x_1 : Int32).toNatClampNeg)]) (a := 46) (p' := 60) rfl rfl rfl ly_46 rfl rfl rfl rfl rfl rfl rfl (F_61_ok (d := d + 1)   G_6) ?_
        refine ev_st (st' := [.int p_6.1]) rfl ?_
        have e_6 := F_61_R G_6
        refine ev_x (i := .goto 4) (len := 3) (p' := 64) (s' := [.int p_6.1]) rfl rfl rfl ?_
        obtain rfl := Option.some.inj H
        exact ev_iret rfl rfl rfl rfl
    · refine ev_b0 (t := 24) (p' := 9) rfl rfl rfl (if_neg c_1) ?_
      refine ev_x (i := .aload_n 0) (len := 1) (p' := 10) (s' := [.ref 46]) rfl rfl rfl ?_
      refine ev_x (i := .iconst 5) (len := 1) (p' := 11) (s' := [.int 5, .ref 46]) rfl rfl rfl ?_
      refine ev_x (i := .aload_n 0) (len := 1) (p' := 12) (s' := [.ref 46, .int 5, .ref 46]) rfl rfl rfl ?_
      refine ev_gr (p' := 15) (v := 21) rfl rfl rfl ly_46 rfl rfl hr_46_3 ?_
      refine ev_gc (p' := 18) (v := 23) rfl rfl rfl ly_21 rfl rfl ?_
      refine ev_x (i := .iload_n 1) (len := 1) (p' := 19) (s' := [.int x_1, .ref 23, .int 5, .ref 46]) rfl rfl rfl ?_
      obtain ⟨b_7, H⟩ := F_gd H
      refine ev_ga (p' := 20) (v := (gE (σ) 23 (x_1 : Int32).toNatClampNeg)) rfl rfl ly_23 rfl (gd_in b_7) rfl ?_
      obtain ⟨p_8, G_8, H⟩ := F_bd H
      refine ev_cv (d := d + 2) (As := [.int 5, .int (gE (σ) 23 (x_1 : Int32).toNatClampNeg)]) (a := 46) (p' := 23) rfl rfl rfl ly_46 rfl rfl rfl rfl rfl rfl rfl (F_61_ok (d := d + 1)   G_8) ?_
      refine ev_st (st' := [.int p_8.1]) rfl ?_
      have e_8 := F_61_R G_8
      obtain rfl := Option.some.inj H
      exact ev_iret rfl rfl rfl rfl
/-- GameText$Checker.looksAtBranch(I)I -/
def F_88 (N : Nat) (t : Nat) (x_1 : Int32) (σ : st_S) : Option (Int32 × st_S) :=
  if (gI σ 46 11) < 8 then
    if aB (if (gI σ 46 11) = 0 then (gI σ 46 5) else (gI σ 46 10) : Int32) (gN σ (t + 6)) then
    some (0, st_i (st_i (st_i (st_e (σ) (t + 6) (((if (gI σ 46 11) = 0 then (gI σ 46 5) else (gI σ 46 10) : Int32) : Int32).toNatClampNeg) x_1) 46 10 x_1) 46 11 ((gI σ 46 11) + 1)) 46 12 (-1))
    else none
  else
    if aB x_1 (gN σ (t + 3)) then
    (F_61 N 5 (gE (σ) (t + 3) (x_1 : Int32).toNatClampNeg) (σ)).bind fun p_5 =>
    some (p_5.1, p_5.2)
    else none
set_option maxRecDepth 100000 in
theorem F_88_R {N : Nat} {t : Nat} {x_1 : Int32} {σ : st_S} {p : Int32 × st_S} (H : F_88 N t x_1 σ = some p) : gR p.2 = gR σ := by
  unfold F_88 at H
  refine F_if H (fun _ H => ?_) (fun _ H => ?_)
  · obtain ⟨_, H⟩ := F_gd H
    obtain rfl := Option.some.inj H
    exact rfl
  · obtain ⟨_, H⟩ := F_gd H
    obtain ⟨p_5, G_5, H⟩ := F_bd H
    obtain rfl := Option.some.inj H
    exact ((F_61_R G_5).trans rfl)
set_option maxHeartbeats 4000000 in
set_option maxRecDepth 100000 in
theorem F_88_ok {N d : Nat} {t : Nat} (ht : t = 4 ∨ t = 20) {x_1 : Int32} {σ : st_S} {p : Int32 × st_S} (hr_46_3 : gR σ 46 3 = (t + 1)) (H : F_88 N t x_1 σ = some p) : vz_ev P0 (d + 2) 88 0 (lv_args 0 [.ref 46, .int x_1]) [] (hp σ) (.inl (some (.int p.1)), hp p.2) := by
  unfold F_88 at H
  rcases ht with rfl | rfl
  · refine ev_x (i := .aload_n 0) (len := 1) (p' := 1) (s' := [.ref 46]) rfl rfl rfl ?_
    refine ev_gi (p' := 4) (v := (gI σ 46 11)) rfl rfl rfl ly_46 rfl rfl rfl ?_
    refine ev_x (i := .bipush 8) (len := 2) (p' := 6) (s' := [.int 8, .int (gI σ 46 11)]) rfl rfl rfl ?_
    refine F_if H (fun c_1 H => ?_) (fun c_1 H => ?_)
    · refine ev_b2 (t := 24) (p' := 24) rfl rfl rfl (if_pos c_1) ?_
      refine ev_x (i := .aload_n 0) (len := 1) (p' := 25) (s' := [.ref 46]) rfl rfl rfl ?_
      refine ev_gr (p' := 28) (v := 5) rfl rfl rfl ly_46 rfl rfl hr_46_3 ?_
      refine ev_gc (p' := 31) (v := 10) rfl rfl rfl ly_5 rfl rfl ?_
      refine ev_x (i := .aload_n 0) (len := 1) (p' := 32) (s' := [.ref 46, .ref 10]) rfl rfl rfl ?_
      refine ev_gi (p' := 35) (v := (gI σ 46 11)) rfl rfl rfl ly_46 rfl rfl rfl ?_
      refine F_jn (A := vz_ev P0 (d + 2) 88 49 [(0, .ref 46), (1, .int x_1)] [.int (if (gI σ 46 11) = 0 then (gI σ 46 5) else (gI σ 46 10) : Int32), .ref 10] (hp (σ)) (.inl (some (.int p.1)), hp p.2)) ?_ (fun J => ?_)
      · refine ev_x (i := .iload_n 1) (len := 1) (p' := 50) (s' := [.int x_1, .int (if (gI σ 46 11) = 0 then (gI σ 46 5) else (gI σ 46 10) : Int32), .ref 10]) rfl rfl rfl ?_
        obtain ⟨b_3, H⟩ := F_gd H
        refine ev_pa (j := ((if (gI σ 46 11) = 0 then (gI σ 46 5) else (gI σ 46 10) : Int32) : Int32).toNatClampNeg) (p' := 51) rfl rfl ly_10 rfl (gd_in b_3) rfl ?_
        refine ev_x (i := .aload_n 0) (len := 1) (p' := 52) (s' := [.ref 46]) rfl rfl rfl ?_
        refine ev_x (i := .iload_n 1) (len := 1) (p' := 53) (s' := [.int x_1, .ref 46]) rfl rfl rfl ?_
        refine ev_pi (p' := 56) rfl rfl rfl ly_46 rfl rfl rfl rfl ?_
        refine ev_x (i := .aload_n 0) (len := 1) (p' := 57) (s' := [.ref 46]) rfl rfl rfl ?_
        refine ev_x (i := .dup) (len := 1) (p' := 58) (s' := [.ref 46, .ref 46]) rfl rfl rfl ?_
        refine ev_gi (p' := 61) (v := (gI σ 46 11)) rfl rfl rfl ly_46 rfl rfl rfl ?_
        refine ev_x (i := .iconst 1) (len := 1) (p' := 62) (s' := [.int 1, .int (gI σ 46 11), .ref 46]) rfl rfl rfl ?_
        refine ev_x (i := .iadd) (len := 1) (p' := 63) (s' := [.int ((gI σ 46 11) + 1), .ref 46]) rfl rfl rfl ?_
        refine ev_pi (p' := 66) rfl rfl rfl ly_46 rfl rfl rfl rfl ?_
        refine ev_x (i := .aload_n 0) (len := 1) (p' := 67) (s' := [.ref 46]) rfl rfl rfl ?_
        refine ev_x (i := .iconst (-1)) (len := 1) (p' := 68) (s' := [.int (-1), .ref 46]) rfl rfl rfl ?_
        refine ev_pi (p' := 71) rfl rfl rfl ly_46 rfl rfl rfl rfl ?_
        refine ev_x (i := .iconst 0) (len := 1) (p' := 72) (s' := [.int 0]) rfl rfl rfl ?_
        obtain rfl := Option.some.inj H
        exact ev_iret rfl rfl rfl rfl
      · by_cases c_2 : (gI σ 46 11) = 0
        · refine ev_b0 (t := 45) (p' := 38) rfl rfl rfl (if_neg (fun q => q c_2)) ?_
          refine ev_x (i := .aload_n 0) (len := 1) (p' := 39) (s' := [.ref 46, .ref 10]) rfl rfl rfl ?_
          refine ev_gi (p' := 42) (v := (gI σ 46 5)) rfl rfl rfl ly_46 rfl rfl rfl ?_
          refine ev_x (i := .goto 7) (len := 3) (p' := 49) (s' := [.int (gI σ 46 5), .ref 10]) rfl rfl rfl ?_
          exact ev_st (congrArg (fun z => Value.int z :: [.ref 10]) (by rw [if_pos c_2])) J
        · refine ev_b0 (t := 45) (p' := 45) rfl rfl rfl (if_pos c_2) ?_
          refine ev_x (i := .aload_n 0) (len := 1) (p' := 46) (s' := [.ref 46, .ref 10]) rfl rfl rfl ?_
          refine ev_gi (p' := 49) (v := (gI σ 46 10)) rfl rfl rfl ly_46 rfl rfl rfl ?_
          exact ev_st (congrArg (fun z => Value.int z :: [.ref 10]) (by rw [if_neg c_2])) J
    · refine ev_b2 (t := 24) (p' := 9) rfl rfl rfl (if_neg c_1) ?_
      refine ev_x (i := .aload_n 0) (len := 1) (p' := 10) (s' := [.ref 46]) rfl rfl rfl ?_
      refine ev_x (i := .iconst 5) (len := 1) (p' := 11) (s' := [.int 5, .ref 46]) rfl rfl rfl ?_
      refine ev_x (i := .aload_n 0) (len := 1) (p' := 12) (s' := [.ref 46, .int 5, .ref 46]) rfl rfl rfl ?_
      refine ev_gr (p' := 15) (v := 5) rfl rfl rfl ly_46 rfl rfl hr_46_3 ?_
      refine ev_gc (p' := 18) (v := 7) rfl rfl rfl ly_5 rfl rfl ?_
      refine ev_x (i := .iload_n 1) (len := 1) (p' := 19) (s' := [.int x_1, .ref 7, .int 5, .ref 46]) rfl rfl rfl ?_
      obtain ⟨b_4, H⟩ := F_gd H
      refine ev_ga (p' := 20) (v := (gE (σ) 7 (x_1 : Int32).toNatClampNeg)) rfl rfl ly_7 rfl (gd_in b_4) rfl ?_
      obtain ⟨p_5, G_5, H⟩ := F_bd H
      refine ev_cv (d := d + 1) (As := [.int 5, .int (gE (σ) 7 (x_1 : Int32).toNatClampNeg)]) (a := 46) (p' := 23) rfl rfl rfl ly_46 rfl rfl rfl rfl rfl rfl rfl (F_61_ok (d := d + 0)   G_5) ?_
      refine ev_st (st' := [.int p_5.1]) rfl ?_
      have e_5 := F_61_R G_5
      obtain rfl := Option.some.inj H
      exact ev_iret rfl rfl rfl rfl
  · refine ev_x (i := .aload_n 0) (len := 1) (p' := 1) (s' := [.ref 46]) rfl rfl rfl ?_
    refine ev_gi (p' := 4) (v := (gI σ 46 11)) rfl rfl rfl ly_46 rfl rfl rfl ?_
    refine ev_x (i := .bipush 8) (len := 2) (p' := 6) (s' := [.int 8, .int (gI σ 46 11)]) rfl rfl rfl ?_
    refine F_if H (fun c_1 H => ?_) (fun c_1 H => ?_)
    · refine ev_b2 (t := 24) (p' := 24) rfl rfl rfl (if_pos c_1) ?_
      refine ev_x (i := .aload_n 0) (len := 1) (p' := 25) (s' := [.ref 46]) rfl rfl rfl ?_
      refine ev_gr (p' := 28) (v := 21) rfl rfl rfl ly_46 rfl rfl hr_46_3 ?_
      refine ev_gc (p' := 31) (v := 26) rfl rfl rfl ly_21 rfl rfl ?_
      refine ev_x (i := .aload_n 0) (len := 1) (p' := 32) (s' := [.ref 46, .ref 26]) rfl rfl rfl ?_
      refine ev_gi (p' := 35) (v := (gI σ 46 11)) rfl rfl rfl ly_46 rfl rfl rfl ?_
      refine F_jn (A := vz_ev P0 (d + 2) 88 49 [(0, .ref 46), (1, .int x_1)] [.int (if (gI σ 46 11) = 0 then (gI σ 46 5) else (gI σ 46 10) : Int32), .ref 26] (hp (σ)) (.inl (some (.int p.1)), hp p.2)) ?_ (fun J => ?_)
      · refine ev_x (i := .iload_n 1) (len := 1) (p' := 50) (s' := [.int x_1, .int (if (gI σ 46 11) = 0 then (gI σ 46 5) else (gI σ 46 10) : Int32), .ref 26]) rfl rfl rfl ?_
        obtain ⟨b_3, H⟩ := F_gd H
        refine ev_pa (j := ((if (gI σ 46 11) = 0 then (gI σ 46 5) else (gI σ 46 10) : Int32) : Int32).toNatClampNeg) (p' := 51) rfl rfl ly_26 rfl (gd_in b_3) rfl ?_
        refine ev_x (i := .aload_n 0) (len := 1) (p' := 52) (s' := [.ref 46]) rfl rfl rfl ?_
        refine ev_x (i := .iload_n 1) (len := 1) (p' := 53) (s' := [.int x_1, .ref 46]) rfl rfl rfl ?_
        refine ev_pi (p' := 56) rfl rfl rfl ly_46 rfl rfl rfl rfl ?_
        refine ev_x (i := .aload_n 0) (len := 1) (p' := 57) (s' := [.ref 46]) rfl rfl rfl ?_
        refine ev_x (i := .dup) (len := 1) (p' := 58) (s' := [.ref 46, .ref 46]) rfl rfl rfl ?_
        refine ev_gi (p' := 61) (v := (gI σ 46 11)) rfl rfl rfl ly_46 rfl rfl rfl ?_
        refine ev_x (i := .iconst 1) (len := 1) (p' := 62) (s' := [.int 1, .int (gI σ 46 11), .ref 46]) rfl rfl rfl ?_
        refine ev_x (i := .iadd) (len := 1) (p' := 63) (s' := [.int ((gI σ 46 11) + 1), .ref 46]) rfl rfl rfl ?_
        refine ev_pi (p' := 66) rfl rfl rfl ly_46 rfl rfl rfl rfl ?_
        refine ev_x (i := .aload_n 0) (len := 1) (p' := 67) (s' := [.ref 46]) rfl rfl rfl ?_
        refine ev_x (i := .iconst (-1)) (len := 1) (p' := 68) (s' := [.int (-1), .ref 46]) rfl rfl rfl ?_
        refine ev_pi (p' := 71) rfl rfl rfl ly_46 rfl rfl rfl rfl ?_
        refine ev_x (i := .iconst 0) (len := 1) (p' := 72) (s' := [.int 0]) rfl rfl rfl ?_
        obtain rfl := Option.some.inj H
        exact ev_iret rfl rfl rfl rfl
      · by_cases c_2 : (gI σ 46 11) = 0
        · refine ev_b0 (t := 45) (p' := 38) rfl rfl rfl (if_neg (fun q => q c_2)) ?_
          refine ev_x (i := .aload_n 0) (len := 1) (p' := 39) (s' := [.ref 46, .ref 26]) rfl rfl rfl ?_
          refine ev_gi (p' := 42) (v := (gI σ 46 5)) rfl rfl rfl ly_46 rfl rfl rfl ?_
          refine ev_x (i := .goto 7) (len := 3) (p' := 49) (s' := [.int (gI σ 46 5), .ref 26]) rfl rfl rfl ?_
          exact ev_st (congrArg (fun z => Value.int z :: [.ref 26]) (by rw [if_pos c_2])) J
        · refine ev_b0 (t := 45) (p' := 45) rfl rfl rfl (if_pos c_2) ?_
          refine ev_x (i := .aload_n 0) (len := 1) (p' := 46) (s' := [.ref 46, .ref 26]) rfl rfl rfl ?_
          refine ev_gi (p' := 49) (v := (gI σ 46 10)) rfl rfl rfl ly_46 rfl rfl rfl ?_
          exact ev_st (congrArg (fun z => Value.int z :: [.ref 26]) (by rw [if_neg c_2])) J
    · refine ev_b2 (t := 24) (p' := 9) rfl rfl rfl (if_neg c_1) ?_
      refine ev_x (i := .aload_n 0) (len := 1) (p' := 10) (s' := [.ref 46]) rfl rfl rfl ?_
      refine ev_x (i := .iconst 5) (len := 1) (p' := 11) (s' := [.int 5, .ref 46]) rfl rfl rfl ?_
      refine ev_x (i := .aload_n 0) (len := 1) (p' := 12) (s' := [.ref 46, .int 5, .ref 46]) rfl rfl rfl ?_
      refine ev_gr (p' := 15) (v := 21) rfl rfl rfl ly_46 rfl rfl hr_46_3 ?_
      refine ev_gc (p' := 18) (v := 23) rfl rfl rfl ly_21 rfl rfl ?_
      refine ev_x (i := .iload_n 1) (len := 1) (p' := 19) (s' := [.int x_1, .ref 23, .int 5, .ref 46]) rfl rfl rfl ?_
      obtain ⟨b_4, H⟩ := F_gd H
      refine ev_ga (p' := 20) (v := (gE (σ) 23 (x_1 : Int32).toNatClampNeg)) rfl rfl ly_23 rfl (gd_in b_4) rfl ?_
      obtain ⟨p_5, G_5, H⟩ := F_bd H
      refine ev_cv (d := d + 1) (As := [.int 5, .int (gE (σ) 23 (x_1 : Int32).toNatClampNeg)]) (a := 46) (p' := 23) rfl rfl rfl ly_46 rfl rfl rfl rfl rfl rfl rfl (F_61_ok (d := d + 0)   G_5) ?_
      refine ev_st (st' := [.int p_5.1]) rfl ?_
      have e_5 := F_61_R G_5
      obtain rfl := Option.some.inj H
      exact ev_iret rfl rfl rfl rfl
/-- GameText$Checker.looksAtSet(I)I, from 169 -/
def J_89_169 (N : Nat) (t : Nat) (l_1 : Int32) (l_4 : Int32) (σ : st_S) : Option (Int32 × st_S) :=
  if aB l_1 (gN σ (t + 4)) then
  some (0, st_i (st_e (σ) (t + 4) ((l_1 : Int32).toNatClampNeg) l_4) 46 12 l_1)
  else none
set_option maxRecDepth 100000 in
theorem J_89_169_R {N : Nat} {t : Nat} {l_1 : Int32} {l_4 : Int32} {σ : st_S} {p : Int32 × st_S} (H : J_89_169 N t l_1 l_4 σ = some p) : gR p.2 = gR σ := by
  unfold J_89_169 at H
  obtain ⟨_, H⟩ := F_gd H
  obtain rfl := Option.some.inj H
  exact rfl
set_option maxHeartbeats 4000000 in
set_option maxRecDepth 100000 in
theorem J_89_169_ok {N d : Nat} {t : Nat} (ht : t = 4 ∨ t = 20) {l_1 : Int32} {l_4 : Int32} {σ : st_S} {lv : vz_L} {p : Int32 × st_S} (g_0 : vz_g lv 0 = some (.ref 46)) (g_1 : vz_g lv 1 = some (.int l_1)) (g_4 : vz_g lv 4 = some (.int l_4)) (hnb : vz_nbL (vz_gr P0) lv = true) (hr_46_3 : gR σ 46 3 = (t + 1)) (H : J_89_169 N t l_1 l_4 σ = some p) : vz_ev P0 (d + 3) 89 169 lv [] (hp σ) (.inl (some (.int p.1)), hp p.2) := by
  unfold J_89_169 at H
  rcases ht with rfl | rfl
  · refine ev_x (i := .aload_n 0) (len := 1) (p' := 170) (s' := [.ref 46]) rfl rfl (ld_a g_0) ?_
    refine ev_gr (p' := 173) (v := 5) rfl rfl rfl ly_46 rfl rfl hr_46_3 ?_
    refine ev_gc (p' := 176) (v := 8) rfl rfl rfl ly_5 rfl rfl ?_
    refine ev_x (i := .iload_n 1) (len := 1) (p' := 177) (s' := [.int l_1, .ref 8]) rfl rfl (ld_i g_1) ?_
    refine ev_x (i := .iload 4) (len := 2) (p' := 179) (s' := [.int l_4, .int l_1, .ref 8]) rfl rfl (ld_i g_4) ?_
    obtain ⟨b_20, H⟩ := F_gd H
    refine ev_pa (j := (l_1 : Int32).toNatClampNeg) (p' := 180) rfl rfl ly_8 rfl (gd_in b_20) rfl ?_
    refine ev_x (i := .aload_n 0) (len := 1) (p' := 181) (s' := [.ref 46]) rfl rfl (ld_a g_0) ?_
    refine ev_x (i := .iload_n 1) (len := 1) (p' := 182) (s' := [.int l_1, .ref 46]) rfl rfl (ld_i g_1) ?_
    refine ev_pi (p' := 185) rfl rfl rfl ly_46 rfl rfl rfl rfl ?_
    refine ev_x (i := .iconst 0) (len := 1) (p' := 186) (s' := [.int 0]) rfl rfl rfl ?_
    obtain rfl := Option.some.inj H
    exact ev_iret rfl rfl rfl rfl
  · refine ev_x (i := .aload_n 0) (len := 1) (p' := 170) (s' := [.ref 46]) rfl rfl (ld_a g_0) ?_
    refine ev_gr (p' := 173) (v := 21) rfl rfl rfl ly_46 rfl rfl hr_46_3 ?_
    refine ev_gc (p' := 176) (v := 24) rfl rfl rfl ly_21 rfl rfl ?_
    refine ev_x (i := .iload_n 1) (len := 1) (p' := 177) (s' := [.int l_1, .ref 24]) rfl rfl (ld_i g_1) ?_
    refine ev_x (i := .iload 4) (len := 2) (p' := 179) (s' := [.int l_4, .int l_1, .ref 24]) rfl rfl (ld_i g_4) ?_
    obtain ⟨b_20, H⟩ := F_gd H
    refine ev_pa (j := (l_1 : Int32).toNatClampNeg) (p' := 180) rfl rfl ly_24 rfl (gd_in b_20) rfl ?_
    refine ev_x (i := .aload_n 0) (len := 1) (p' := 181) (s' := [.ref 46]) rfl rfl (ld_a g_0) ?_
    refine ev_x (i := .iload_n 1) (len := 1) (p' := 182) (s' := [.int l_1, .ref 46]) rfl rfl (ld_i g_1) ?_
    refine ev_pi (p' := 185) rfl rfl rfl ly_46 rfl rfl rfl rfl ?_
    refine ev_x (i := .iconst 0) (len := 1) (p' := 186) (s' := [.int 0]) rfl rfl rfl ?_
    obtain rfl := Option.some.inj H
    exact ev_iret rfl rfl rfl rfl
/-- GameText$Checker.looksAtSet(I)I, from 133 -/
def J_89_133 (N : Nat) (t : Nat) (l_1 : Int32) (l_4 : Int32) (σ : st_S) : Option (Int32 × st_S) :=
  if 0 ≤ (gI σ 46 12) then
    if aB (gI σ 46 12) (gN σ (t + 6)) then
    J_89_169 N t l_1 l_4 (st_e (σ) (t + 6) (((gI σ 46 12) : Int32).toNatClampNeg) l_1)
    else none
  else
    if aB (gI σ 46 10) (gN σ (t + 5)) then
    J_89_169 N t l_1 l_4 (st_e (σ) (t + 5) (((gI σ 46 10) : Int32).toNatClampNeg) l_1)
    else none
set_option maxRecDepth 100000 in
theorem J_89_133_R {N : Nat} {t : Nat} {l_1 : Int32} {l_4 : Int32} {σ : st_S} {p : Int32 × st_S} (H : J_89_133 N t l_1 l_4 σ = some p) : gR p.2 = gR σ := by
  unfold J_89_133 at H
  refine F_if H (fun _ H => ?_) (fun _ H => ?_)
  · obtain ⟨_, H⟩ := F_gd H
    exact (((J_89_169_R H)).trans rfl)
  · obtain ⟨_, H⟩ := F_gd H
    exact (((J_89_169_R H)).trans rfl)
set_option maxHeartbeats 4000000 in
set_option maxRecDepth 100000 in
theorem J_89_133_ok {N d : Nat} {t : Nat} (ht : t = 4 ∨ t = 20) {l_1 : Int32} {l_4 : Int32} {σ : st_S} {lv : vz_L} {p : Int32 × st_S} (g_0 : vz_g lv 0 = some (.ref 46)) (g_1 : vz_g lv 1 = some (.int l_1)) (g_4 : vz_g lv 4 = some (.int l_4)) (hnb : vz_nbL (vz_gr P0) lv = true) (hr_46_3 : gR σ 46 3 = (t + 1)) (H : J_89_133 N t l_1 l_4 σ = some p) : vz_ev P0 (d + 3) 89 133 lv [] (hp σ) (.inl (some (.int p.1)), hp p.2) := by
  unfold J_89_133 at H
  rcases ht with rfl | rfl
  · refine ev_x (i := .aload_n 0) (len := 1) (p' := 134) (s' := [.ref 46]) rfl rfl (ld_a g_0) ?_
    refine ev_gi (p' := 137) (v := (gI σ 46 12)) rfl rfl rfl ly_46 rfl rfl rfl ?_
    refine F_if H (fun c_17 H => ?_) (fun c_17 H => ?_)
    · refine ev_b0 (t := 156) (p' := 156) rfl rfl rfl (if_pos c_17) ?_
      refine ev_x (i := .aload_n 0) (len := 1) (p' := 157) (s' := [.ref 46]) rfl rfl (ld_a g_0) ?_
      refine ev_gr (p' := 160) (v := 5) rfl rfl rfl ly_46 rfl rfl hr_46_3 ?_
      refine ev_gc (p' := 163) (v := 10) rfl rfl rfl ly_5 rfl rfl ?_
      refine ev_x (i := .aload_n 0) (len := 1) (p' := 164) (s' := [.ref 46, .ref 10]) rfl rfl (ld_a g_0) ?_
      refine ev_gi (p' := 167) (v := (gI σ 46 12)) rfl rfl rfl ly_46 rfl rfl rfl ?_
      refine ev_x (i := .iload_n 1) (len := 1) (p' := 168) (s' := [.int l_1, .int (gI σ 46 12), .ref 10]) rfl rfl (ld_i g_1) ?_
      obtain ⟨b_18, H⟩ := F_gd H
      refine ev_pa (j := ((gI σ 46 12) : Int32).toNatClampNeg) (p' := 169) rfl rfl ly_10 rfl (gd_in b_18) rfl ?_
      exact J_89_169_ok (d := d) (Or.inl rfl) g_0 g_1 g_4 hnb hr_46_3 H
    · refine ev_b0 (t := 156) (p' := 140) rfl rfl rfl (if_neg c_17) ?_
      refine ev_x (i := .aload_n 0) (len := 1) (p' := 141) (s' := [.ref 46]) rfl rfl (ld_a g_0) ?_
      refine ev_gr (p' := 144) (v := 5) rfl rfl rfl ly_46 rfl rfl hr_46_3 ?_
      refine ev_gc (p' := 147) (v := 9) rfl rfl rfl ly_5 rfl rfl ?_
      refine ev_x (i := .aload_n 0) (len := 1) (p' := 148) (s' := [.ref 46, .ref 9]) rfl rfl (ld_a g_0) ?_
      refine ev_gi (p' := 151) (v := (gI σ 46 10)) rfl rfl rfl ly_46 rfl rfl rfl ?_
      refine ev_x (i := .iload_n 1) (len := 1) (p' := 152) (s' := [.int l_1, .int (gI σ 46 10), .ref 9]) rfl rfl (ld_i g_1) ?_
      obtain ⟨b_19, H⟩ := F_gd H
      refine ev_pa (j := ((gI σ 46 10) : Int32).toNatClampNeg) (p' := 153) rfl rfl ly_9 rfl (gd_in b_19) rfl ?_
      refine ev_x (i := .goto 16) (len := 3) (p' := 169) (s' := []) rfl rfl rfl ?_
      exact J_89_169_ok (d := d) (Or.inl rfl) g_0 g_1 g_4 hnb hr_46_3 H
  · refine ev_x (i := .aload_n 0) (len := 1) (p' := 134) (s' := [.ref 46]) rfl rfl (ld_a g_0) ?_
    refine ev_gi (p' := 137) (v := (gI σ 46 12)) rfl rfl rfl ly_46 rfl rfl rfl ?_
    refine F_if H (fun c_17 H => ?_) (fun c_17 H => ?_)
    · refine ev_b0 (t := 156) (p' := 156) rfl rfl rfl (if_pos c_17) ?_
      refine ev_x (i := .aload_n 0) (len := 1) (p' := 157) (s' := [.ref 46]) rfl rfl (ld_a g_0) ?_
      refine ev_gr (p' := 160) (v := 21) rfl rfl rfl ly_46 rfl rfl hr_46_3 ?_
      refine ev_gc (p' := 163) (v := 26) rfl rfl rfl ly_21 rfl rfl ?_
      refine ev_x (i := .aload_n 0) (len := 1) (p' := 164) (s' := [.ref 46, .ref 26]) rfl rfl (ld_a g_0) ?_
      refine ev_gi (p' := 167) (v := (gI σ 46 12)) rfl rfl rfl ly_46 rfl rfl rfl ?_
      refine ev_x (i := .iload_n 1) (len := 1) (p' := 168) (s' := [.int l_1, .int (gI σ 46 12), .ref 26]) rfl rfl (ld_i g_1) ?_
      obtain ⟨b_18, H⟩ := F_gd H
      refine ev_pa (j := ((gI σ 46 12) : Int32).toNatClampNeg) (p' := 169) rfl rfl ly_26 rfl (gd_in b_18) rfl ?_
      exact J_89_169_ok (d := d) (Or.inr rfl) g_0 g_1 g_4 hnb hr_46_3 H
    · refine ev_b0 (t := 156) (p' := 140) rfl rfl rfl (if_neg c_17) ?_
      refine ev_x (i := .aload_n 0) (len := 1) (p' := 141) (s' := [.ref 46]) rfl rfl (ld_a g_0) ?_
      refine ev_gr (p' := 144) (v := 21) rfl rfl rfl ly_46 rfl rfl hr_46_3 ?_
      refine ev_gc (p' := 147) (v := 25) rfl rfl rfl ly_21 rfl rfl ?_
      refine ev_x (i := .aload_n 0) (len := 1) (p' := 148) (s' := [.ref 46, .ref 25]) rfl rfl (ld_a g_0) ?_
      refine ev_gi (p' := 151) (v := (gI σ 46 10)) rfl rfl rfl ly_46 rfl rfl rfl ?_
      refine ev_x (i := .iload_n 1) (len := 1) (p' := 152) (s' := [.int l_1, .int (gI σ 46 10), .ref 25]) rfl rfl (ld_i g_1) ?_
      obtain ⟨b_19, H⟩ := F_gd H
      refine ev_pa (j := ((gI σ 46 10) : Int32).toNatClampNeg) (p' := 153) rfl rfl ly_25 rfl (gd_in b_19) rfl ?_
      refine ev_x (i := .goto 16) (len := 3) (p' := 169) (s' := []) rfl rfl rfl ?_
      exact J_89_169_ok (d := d) (Or.inr rfl) g_0 g_1 g_4 hnb hr_46_3 H
/-- GameText$Checker.looksAtSet(I)I, its loops -/
def L_89 (N : Nat) (t : Nat) : Nat → Int32 → Int32 → Int32 → Int32 → Int32 → st_S → Option (Int32 × st_S)
  | 0, _, _, _, _, _, _ => none
  | k + 1, l_1, l_2, l_4, l_5, l_6, σ =>
      if 12 ≤ l_6 then
        J_89_133 N t l_1 l_4 (σ)
      else
        if l_5 < 0 then
          J_89_133 N t l_1 l_4 (σ)
        else
          if aB l_5 (gN σ (t + 4)) then
          if (gE (σ) (t + 4) (l_5 : Int32).toNatClampNeg) = l_4 then
            (F_61 N 4 l_2 (σ)).bind fun p_15 =>
            some (p_15.1, p_15.2)
          else
            if aB l_5 (gN σ (t + 6)) then
            L_89 N t k l_1 l_2 l_4 (gE (σ) (t + 6) (l_5 : Int32).toNatClampNeg) (l_6 + 1) (σ)
            else none
          else none
set_option maxRecDepth 100000 in
theorem L_89_R {N : Nat} {t : Nat} : ∀ (k : Nat) (l_1 : Int32) (l_2 : Int32) (l_4 : Int32) (l_5 : Int32) (l_6 : Int32) (σ : st_S) (p : Int32 × st_S), L_89 N t k l_1 l_2 l_4 l_5 l_6 σ = some p → gR p.2 = gR σ := by
  intro k
  induction k with
  | zero => intro l_1 l_2 l_4 l_5 l_6 σ p H; unfold L_89 at H; cases H
  | succ k ih =>
    intro l_1 l_2 l_4 l_5 l_6 σ p H
    unfold L_89 at H
    refine F_if H (fun _ H => ?_) (fun _ H => ?_)
    · exact (((J_89_133_R H)).trans rfl)
    · refine F_if H (fun _ H => ?_) (fun _ H => ?_)
      · exact (((J_89_133_R H)).trans rfl)
      · obtain ⟨_, H⟩ := F_gd H
        refine F_if H (fun _ H => ?_) (fun _ H => ?_)
        · obtain ⟨p_15, G_15, H⟩ := F_bd H
          obtain rfl := Option.some.inj H
          exact ((F_61_R G_15).trans rfl)
        · obtain ⟨_, H⟩ := F_gd H
          exact (((ih _ _ _ _ _ _ _ H)).trans rfl)
set_option maxHeartbeats 4000000 in
set_option maxRecDepth 100000 in
theorem L_89_ok {N d : Nat} {t : Nat} (ht : t = 4 ∨ t = 20) : ∀ k : Nat, ∀ (l_1 : Int32) (l_2 : Int32) (l_4 : Int32) (l_5 : Int32) (l_6 : Int32) (σ : st_S) (lv : vz_L) (p : Int32 × st_S), vz_g lv 0 = some (.ref 46) → vz_g lv 1 = some (.int l_1) → vz_g lv 2 = some (.int l_2) → vz_g lv 4 = some (.int l_4) → vz_g lv 5 = some (.int l_5) → vz_g lv 6 = some (.int l_6) → vz_nbL (vz_gr P0) lv = true → gR σ 46 3 = (t + 1) → L_89 N t k l_1 l_2 l_4 l_5 l_6 σ = some p → vz_ev P0 (d + 3) 89 81 lv [] (hp σ) (.inl (some (.int p.1)), hp p.2) := by
  rcases ht with rfl | rfl
  · intro k
    induction k with
    | zero => intro l_1 l_2 l_4 l_5 l_6 σ lv p g_0 g_1 g_2 g_4 g_5 g_6 hnb hr_46_3 H; unfold L_89 at H; cases H
    | succ k ih =>
      intro l_1 l_2 l_4 l_5 l_6 σ lv p g_0 g_1 g_2 g_4 g_5 g_6 hnb hr_46_3 H
      unfold L_89 at H
      refine ev_x (i := .iload 6) (len := 2) (p' := 83) (s' := [.int l_6]) rfl rfl (ld_i g_6) ?_
      refine ev_x (i := .bipush 12) (len := 2) (p' := 85) (s' := [.int 12, .int l_6]) rfl rfl rfl ?_
      refine F_if H (fun c_11 H => ?_) (fun c_11 H => ?_)
      · refine ev_b2 (t := 133) (p' := 133) rfl rfl rfl (if_pos c_11) ?_
        exact J_89_133_ok (d := d) (Or.inl rfl) g_0 g_1 g_4 hnb hr_46_3 H
      · refine ev_b2 (t := 133) (p' := 88) rfl rfl rfl (if_neg c_11) ?_
        refine ev_x (i := .iload 5) (len := 2) (p' := 90) (s' := [.int l_5]) rfl rfl (ld_i g_5) ?_
        refine F_if H (fun c_12 H => ?_) (fun c_12 H => ?_)
        · refine ev_b0 (t := 133) (p' := 133) rfl rfl rfl (if_pos c_12) ?_
          exact J_89_133_ok (d := d) (Or.inl rfl) g_0 g_1 g_4 hnb hr_46_3 H
        · refine ev_b0 (t := 133) (p' := 93) rfl rfl rfl (if_neg c_12) ?_
          refine ev_x (i := .aload_n 0) (len := 1) (p' := 94) (s' := [.ref 46]) rfl rfl (ld_a g_0) ?_
          refine ev_gr (p' := 97) (v := 5) rfl rfl rfl ly_46 rfl rfl hr_46_3 ?_
          refine ev_gc (p' := 100) (v := 8) rfl rfl rfl ly_5 rfl rfl ?_
          refine ev_x (i := .iload 5) (len := 2) (p' := 102) (s' := [.int l_5, .ref 8]) rfl rfl (ld_i g_5) ?_
          obtain ⟨b_13, H⟩ := F_gd H
          refine ev_ga (p' := 103) (v := (gE (σ) 8 (l_5 : Int32).toNatClampNeg)) rfl rfl ly_8 rfl (gd_in b_13) rfl ?_
          refine ev_x (i := .iload 4) (len := 2) (p' := 105) (s' := [.int l_4, .int (gE (σ) 8 (l_5 : Int32).toNatClampNeg)]) rfl rfl (ld_i g_4) ?_
          refine F_if H (fun c_14 H => ?_) (fun c_14 H => ?_)
          · refine ev_b2 (t := 115) (p' := 108) rfl rfl rfl (if_neg (fun q => q c_14)) ?_
            refine ev_x (i := .aload_n 0) (len := 1) (p' := 109) (s' := [.ref 46]) rfl rfl (ld_a g_0) ?_
            refine ev_x (i := .iconst 4) (len := 1) (p' := 110) (s' := [.int 4, .ref 46]) rfl rfl rfl ?_
            refine ev_x (i := .iload_n 2) (len := 1) (p' := 111) (s' := [.int l_2, .int 4, .ref 46]) rfl rfl (ld_i g_2) ?_
            obtain ⟨p_15, G_15, H⟩ := F_bd H
            refine ev_cv (d := d + 2) (As := [.int 4, .int l_2]) (a := 46) (p' := 114) rfl rfl rfl ly_46 rfl rfl rfl rfl rfl hnb rfl (F_61_ok (d := d + 1)   G_15) ?_
            refine ev_st (st' := [.int p_15.1]) rfl ?_
            have e_15 := F_61_R G_15
            obtain rfl := Option.some.inj H
            exact ev_iret rfl rfl rfl rfl
          · refine ev_b2 (t := 115) (p' := 115) rfl rfl rfl (if_pos c_14) ?_
            refine ev_x (i := .aload_n 0) (len := 1) (p' := 116) (s' := [.ref 46]) rfl rfl (ld_a g_0) ?_
            refine ev_gr (p' := 119) (v := 5) rfl rfl rfl ly_46 rfl rfl hr_46_3 ?_
            refine ev_gc (p' := 122) (v := 10) rfl rfl rfl ly_5 rfl rfl ?_
            refine ev_x (i := .iload 5) (len := 2) (p' := 124) (s' := [.int l_5, .ref 10]) rfl rfl (ld_i g_5) ?_
            obtain ⟨b_16, H⟩ := F_gd H
            refine ev_ga (p' := 125) (v := (gE (σ) 10 (l_5 : Int32).toNatClampNeg)) rfl rfl ly_10 rfl (gd_in b_16) rfl ?_
            refine ev_x (i := .istore 5) (len := 2) (p' := 127) (s' := []) (l' := vz_s1 (lv) 5 (.int (gE (σ) 10 (l_5 : Int32).toNatClampNeg))) rfl rfl rfl ?_
            refine ev_x (i := .iinc 6 1) (len := 3) (p' := 130) (s' := []) (l' := vz_s1 (vz_s1 (lv) 5 (.int (gE (σ) 10 (l_5 : Int32).toNatClampNeg))) 6 (.int (l_6 + 1))) rfl rfl (ld_inc (vg_o (i := 5) (v := .int (gE (σ) 10 (l_5 : Int32).toNatClampNeg)) g_6 (by decide) (Or.inl rfl)) rfl) ?_
            refine ev_x (i := .goto (-49)) (len := 3) (p' := 81) (s' := []) rfl rfl rfl ?_
            exact ih _ _ _ _ _ _ _ _ (vg_o (i := 6) (v := .int (l_6 + 1)) (vg_o (i := 5) (v := .int (gE (σ) 10 (l_5 : Int32).toNatClampNeg)) g_0 (by decide) (Or.inl rfl)) (by decide) (Or.inl rfl)) (vg_o (i := 6) (v := .int (l_6 + 1)) (vg_o (i := 5) (v := .int (gE (σ) 10 (l_5 : Int32).toNatClampNeg)) g_1 (by decide) (Or.inl rfl)) (by decide) (Or.inl rfl)) (vg_o (i := 6) (v := .int (l_6 + 1)) (vg_o (i := 5) (v := .int (gE (σ) 10 (l_5 : Int32).toNatClampNeg)) g_2 (by decide) (Or.inl rfl)) (by decide) (Or.inl rfl)) (vg_o (i := 6) (v := .int (l_6 + 1)) (vg_o (i := 5) (v := .int (gE (σ) 10 (l_5 : Int32).toNatClampNeg)) g_4 (by decide) (Or.inl rfl)) (by decide) (Or.inl rfl)) (vg_o (i := 6) (v := .int (l_6 + 1)) (vg_s (lv) 5 (.int (gE (σ) 10 (l_5 : Int32).toNatClampNeg))) (by decide) (Or.inl rfl)) (vg_s (vz_s1 (lv) 5 (.int (gE (σ) 10 (l_5 : Int32).toNatClampNeg))) 6 (.int (l_6 + 1))) (nb_s1 (nb_s1 hnb rfl) rfl) hr_46_3 H
  · intro k
    induction k with
    | zero => intro l_1 l_2 l_4 l_5 l_6 σ lv p g_0 g_1 g_2 g_4 g_5 g_6 hnb hr_46_3 H; unfold L_89 at H; cases H
    | succ k ih =>
      intro l_1 l_2 l_4 l_5 l_6 σ lv p g_0 g_1 g_2 g_4 g_5 g_6 hnb hr_46_3 H
      unfold L_89 at H
      refine ev_x (i := .iload 6) (len := 2) (p' := 83) (s' := [.int l_6]) rfl rfl (ld_i g_6) ?_
      refine ev_x (i := .bipush 12) (len := 2) (p' := 85) (s' := [.int 12, .int l_6]) rfl rfl rfl ?_
      refine F_if H (fun c_11 H => ?_) (fun c_11 H => ?_)
      · refine ev_b2 (t := 133) (p' := 133) rfl rfl rfl (if_pos c_11) ?_
        exact J_89_133_ok (d := d) (Or.inr rfl) g_0 g_1 g_4 hnb hr_46_3 H
      · refine ev_b2 (t := 133) (p' := 88) rfl rfl rfl (if_neg c_11) ?_
        refine ev_x (i := .iload 5) (len := 2) (p' := 90) (s' := [.int l_5]) rfl rfl (ld_i g_5) ?_
        refine F_if H (fun c_12 H => ?_) (fun c_12 H => ?_)
        · refine ev_b0 (t := 133) (p' := 133) rfl rfl rfl (if_pos c_12) ?_
          exact J_89_133_ok (d := d) (Or.inr rfl) g_0 g_1 g_4 hnb hr_46_3 H
        · refine ev_b0 (t := 133) (p' := 93) rfl rfl rfl (if_neg c_12) ?_
          refine ev_x (i := .aload_n 0) (len := 1) (p' := 94) (s' := [.ref 46]) rfl rfl (ld_a g_0) ?_
          refine ev_gr (p' := 97) (v := 21) rfl rfl rfl ly_46 rfl rfl hr_46_3 ?_
          refine ev_gc (p' := 100) (v := 24) rfl rfl rfl ly_21 rfl rfl ?_
          refine ev_x (i := .iload 5) (len := 2) (p' := 102) (s' := [.int l_5, .ref 24]) rfl rfl (ld_i g_5) ?_
          obtain ⟨b_13, H⟩ := F_gd H
          refine ev_ga (p' := 103) (v := (gE (σ) 24 (l_5 : Int32).toNatClampNeg)) rfl rfl ly_24 rfl (gd_in b_13) rfl ?_
          refine ev_x (i := .iload 4) (len := 2) (p' := 105) (s' := [.int l_4, .int (gE (σ) 24 (l_5 : Int32).toNatClampNeg)]) rfl rfl (ld_i g_4) ?_
          refine F_if H (fun c_14 H => ?_) (fun c_14 H => ?_)
          · refine ev_b2 (t := 115) (p' := 108) rfl rfl rfl (if_neg (fun q => q c_14)) ?_
            refine ev_x (i := .aload_n 0) (len := 1) (p' := 109) (s' := [.ref 46]) rfl rfl (ld_a g_0) ?_
            refine ev_x (i := .iconst 4) (len := 1) (p' := 110) (s' := [.int 4, .ref 46]) rfl rfl rfl ?_
            refine ev_x (i := .iload_n 2) (len := 1) (p' := 111) (s' := [.int l_2, .int 4, .ref 46]) rfl rfl (ld_i g_2) ?_
            obtain ⟨p_15, G_15, H⟩ := F_bd H
            refine ev_cv (d := d + 2) (As := [.int 4, .int l_2]) (a := 46) (p' := 114) rfl rfl rfl ly_46 rfl rfl rfl rfl rfl hnb rfl (F_61_ok (d := d + 1)   G_15) ?_
            refine ev_st (st' := [.int p_15.1]) rfl ?_
            have e_15 := F_61_R G_15
            obtain rfl := Option.some.inj H
            exact ev_iret rfl rfl rfl rfl
          · refine ev_b2 (t := 115) (p' := 115) rfl rfl rfl (if_pos c_14) ?_
            refine ev_x (i := .aload_n 0) (len := 1) (p' := 116) (s' := [.ref 46]) rfl rfl (ld_a g_0) ?_
            refine ev_gr (p' := 119) (v := 21) rfl rfl rfl ly_46 rfl rfl hr_46_3 ?_
            refine ev_gc (p' := 122) (v := 26) rfl rfl rfl ly_21 rfl rfl ?_
            refine ev_x (i := .iload 5) (len := 2) (p' := 124) (s' := [.int l_5, .ref 26]) rfl rfl (ld_i g_5) ?_
            obtain ⟨b_16, H⟩ := F_gd H
            refine ev_ga (p' := 125) (v := (gE (σ) 26 (l_5 : Int32).toNatClampNeg)) rfl rfl ly_26 rfl (gd_in b_16) rfl ?_
            refine ev_x (i := .istore 5) (len := 2) (p' := 127) (s' := []) (l' := vz_s1 (lv) 5 (.int (gE (σ) 26 (l_5 : Int32).toNatClampNeg))) rfl rfl rfl ?_
            refine ev_x (i := .iinc 6 1) (len := 3) (p' := 130) (s' := []) (l' := vz_s1 (vz_s1 (lv) 5 (.int (gE (σ) 26 (l_5 : Int32).toNatClampNeg))) 6 (.int (l_6 + 1))) rfl rfl (ld_inc (vg_o (i := 5) (v := .int (gE (σ) 26 (l_5 : Int32).toNatClampNeg)) g_6 (by decide) (Or.inl rfl)) rfl) ?_
            refine ev_x (i := .goto (-49)) (len := 3) (p' := 81) (s' := []) rfl rfl rfl ?_
            exact ih _ _ _ _ _ _ _ _ (vg_o (i := 6) (v := .int (l_6 + 1)) (vg_o (i := 5) (v := .int (gE (σ) 26 (l_5 : Int32).toNatClampNeg)) g_0 (by decide) (Or.inl rfl)) (by decide) (Or.inl rfl)) (vg_o (i := 6) (v := .int (l_6 + 1)) (vg_o (i := 5) (v := .int (gE (σ) 26 (l_5 : Int32).toNatClampNeg)) g_1 (by decide) (Or.inl rfl)) (by decide) (Or.inl rfl)) (vg_o (i := 6) (v := .int (l_6 + 1)) (vg_o (i := 5) (v := .int (gE (σ) 26 (l_5 : Int32).toNatClampNeg)) g_2 (by decide) (Or.inl rfl)) (by decide) (Or.inl rfl)) (vg_o (i := 6) (v := .int (l_6 + 1)) (vg_o (i := 5) (v := .int (gE (σ) 26 (l_5 : Int32).toNatClampNeg)) g_4 (by decide) (Or.inl rfl)) (by decide) (Or.inl rfl)) (vg_o (i := 6) (v := .int (l_6 + 1)) (vg_s (lv) 5 (.int (gE (σ) 26 (l_5 : Int32).toNatClampNeg))) (by decide) (Or.inl rfl)) (vg_s (vz_s1 (lv) 5 (.int (gE (σ) 26 (l_5 : Int32).toNatClampNeg))) 6 (.int (l_6 + 1))) (nb_s1 (nb_s1 hnb rfl) rfl) hr_46_3 H
/-- GameText$Checker.looksAtSet(I)I -/
def F_89 (N : Nat) (t : Nat) (x_1 : Int32) (σ : st_S) : Option (Int32 × st_S) :=
  if aB x_1 (gN σ (t + 4)) then
  if aB x_1 (gN σ (t + 5)) then
  (F_59 N (gE (σ) (t + 4) (x_1 : Int32).toNatClampNeg) (gE (σ) (t + 5) (x_1 : Int32).toNatClampNeg) (σ)).bind fun p_3 =>
  if p_3.1 < 0 then
    (F_61 N 2 (gE (σ) (t + 4) (x_1 : Int32).toNatClampNeg) (p_3.2)).bind fun p_5 =>
    some (p_5.1, p_5.2)
  else
    if aB p_3.1 (gN p_3.2 50) then
    if (gE (p_3.2) 50 (p_3.1 : Int32).toNatClampNeg) = 29 then
      if aB p_3.1 (gN p_3.2 51) then
      if aB (gI p_3.2 46 10) (gN p_3.2 (t + 5)) then
      L_89 N t N x_1 (gE (σ) (t + 4) (x_1 : Int32).toNatClampNeg) (gE (p_3.2) 51 (p_3.1 : Int32).toNatClampNeg) (gE (p_3.2) (t + 5) ((gI p_3.2 46 10) : Int32).toNatClampNeg) 0 (p_3.2)
      else none
      else none
    else
      (F_61 N 2 (gE (σ) (t + 4) (x_1 : Int32).toNatClampNeg) (p_3.2)).bind fun p_10 =>
      some (p_10.1, p_10.2)
    else none
  else none
  else none
set_option maxRecDepth 100000 in
theorem F_89_R {N : Nat} {t : Nat} {x_1 : Int32} {σ : st_S} {p : Int32 × st_S} (H : F_89 N t x_1 σ = some p) : gR p.2 = gR σ := by
  unfold F_89 at H
  obtain ⟨_, H⟩ := F_gd H
  obtain ⟨_, H⟩ := F_gd H
  obtain ⟨p_3, G_3, H⟩ := F_bd H
  refine F_if H (fun _ H => ?_) (fun _ H => ?_)
  · obtain ⟨p_5, G_5, H⟩ := F_bd H
    obtain rfl := Option.some.inj H
    exact ((F_61_R G_5).trans ((F_59_R G_3).trans rfl))
  · obtain ⟨_, H⟩ := F_gd H
    refine F_if H (fun _ H => ?_) (fun _ H => ?_)
    · obtain ⟨_, H⟩ := F_gd H
      obtain ⟨_, H⟩ := F_gd H
      exact (((L_89_R _ _ _ _ _ _ _ _ H)).trans ((F_59_R G_3).trans rfl))
    · obtain ⟨p_10, G_10, H⟩ := F_bd H
      obtain rfl := Option.some.inj H
      exact ((F_61_R G_10).trans ((F_59_R G_3).trans rfl))
set_option maxHeartbeats 4000000 in
set_option maxRecDepth 100000 in
theorem F_89_ok {N d : Nat} {t : Nat} (ht : t = 4 ∨ t = 20) {x_1 : Int32} {σ : st_S} {p : Int32 × st_S} (hr_46_3 : gR σ 46 3 = (t + 1)) (H : F_89 N t x_1 σ = some p) : vz_ev P0 (d + 3) 89 0 (lv_args 0 [.ref 46, .int x_1]) [] (hp σ) (.inl (some (.int p.1)), hp p.2) := by
  unfold F_89 at H
  rcases ht with rfl | rfl
  · refine ev_x (i := .aload_n 0) (len := 1) (p' := 1) (s' := [.ref 46]) rfl rfl rfl ?_
    refine ev_gr (p' := 4) (v := 5) rfl rfl rfl ly_46 rfl rfl hr_46_3 ?_
    refine ev_gc (p' := 7) (v := 8) rfl rfl rfl ly_5 rfl rfl ?_
    refine ev_x (i := .iload_n 1) (len := 1) (p' := 8) (s' := [.int x_1, .ref 8]) rfl rfl rfl ?_
    obtain ⟨b_1, H⟩ := F_gd H
    refine ev_ga (p' := 9) (v := (gE (σ) 8 (x_1 : Int32).toNatClampNeg)) rfl rfl ly_8 rfl (gd_in b_1) rfl ?_
    refine ev_x (i := .istore_n 2) (len := 1) (p' := 10) (s' := []) (l' := [(2, .int (gE (σ) 8 (x_1 : Int32).toNatClampNeg)), (0, .ref 46), (1, .int x_1)]) rfl rfl rfl ?_
    refine ev_x (i := .aload_n 0) (len := 1) (p' := 11) (s' := [.ref 46]) rfl rfl rfl ?_
    refine ev_gc (p' := 14) (v := 47) rfl rfl rfl ly_46 rfl rfl ?_
    refine ev_x (i := .iload_n 2) (len := 1) (p' := 15) (s' := [.int (gE (σ) 8 (x_1 : Int32).toNatClampNeg), .ref 47]) rfl rfl rfl ?_
    refine ev_x (i := .aload_n 0) (len := 1) (p' := 16) (s' := [.ref 46, .int (gE (σ) 8 (x_1 : Int32).toNatClampNeg), .ref 47]) rfl rfl rfl ?_
    refine ev_gr (p' := 19) (v := 5) rfl rfl rfl ly_46 rfl rfl hr_46_3 ?_
    refine ev_gc (p' := 22) (v := 9) rfl rfl rfl ly_5 rfl rfl ?_
    refine ev_x (i := .iload_n 1) (len := 1) (p' := 23) (s' := [.int x_1, .ref 9, .int (gE (σ) 8 (x_1 : Int32).toNatClampNeg), .ref 47]) rfl rfl rfl ?_
    obtain ⟨b_2, H⟩ := F_gd H
    refine ev_ga (p' := 24) (v := (gE (σ) 9 (x_1 : Int32).toNatClampNeg)) rfl rfl ly_9 rfl (gd_in b_2) rfl ?_
    obtain ⟨p_3, G_3, H⟩ := F_bd H
    refine ev_cv (d := d + 2) (As := [.int (gE (σ) 8 (x_1 : Int32).toNatClampNeg), .int (gE (σ) 9 (x_1 : Int32).toNatClampNeg)]) (a := 47) (p' := 27) rfl rfl rfl ly_47 rfl rfl rfl rfl rfl rfl rfl (F_59_ok (d := d + 0)   G_3) ?_
    refine ev_st (st' := [.int p_3.1]) rfl ?_
    have e_3 := F_59_R G_3
    refine ev_x (i := .istore_n 3) (len := 1) (p' := 28) (s' := []) (l' := [(3, .int p_3.1), (2, .int (gE (σ) 8 (x_1 : Int32).toNatClampNeg)), (0, .ref 46), (1, .int x_1)]) rfl rfl rfl ?_
    refine ev_x (i := .iload_n 3) (len := 1) (p' := 29) (s' := [.int p_3.1]) rfl rfl rfl ?_
    refine F_if H (fun c_4 H => ?_) (fun c_4 H => ?_)
    · refine ev_b0 (t := 46) (p' := 46) rfl rfl rfl (if_pos c_4) ?_
      refine ev_x (i := .aload_n 0) (len := 1) (p' := 47) (s' := [.ref 46]) rfl rfl rfl ?_
      refine ev_x (i := .iconst 2) (len := 1) (p' := 48) (s' := [.int 2, .ref 46]) rfl rfl rfl ?_
      refine ev_x (i := .iload_n 2) (len := 1) (p' := 49) (s' := [.int (gE (σ) 8 (x_1 : Int32).toNatClampNeg), .int 2, .ref 46]) rfl rfl rfl ?_
      obtain ⟨p_5, G_5, H⟩ := F_bd H
      refine ev_cv (d := d + 2) (As := [.int 2, .int (gE (σ) 8 (x_1 : Int32).toNatClampNeg)]) (a := 46) (p' := 52) rfl rfl rfl ly_46 rfl rfl rfl rfl rfl rfl rfl (F_61_ok (d := d + 1)   G_5) ?_
      refine ev_st (st' := [.int p_5.1]) rfl ?_
      have e_5 := F_61_R G_5
      obtain rfl := Option.some.inj H
      exact ev_iret rfl rfl rfl rfl
    · refine ev_b0 (t := 46) (p' := 32) rfl rfl rfl (if_neg c_4) ?_
      refine ev_x (i := .aload_n 0) (len := 1) (p' := 33) (s' := [.ref 46]) rfl rfl rfl ?_
      refine ev_gc (p' := 36) (v := 47) rfl rfl rfl ly_46 rfl rfl ?_
      refine ev_gc (p' := 39) (v := 50) rfl rfl rfl ly_47 rfl rfl ?_
      refine ev_x (i := .iload_n 3) (len := 1) (p' := 40) (s' := [.int p_3.1, .ref 50]) rfl rfl rfl ?_
      obtain ⟨b_6, H⟩ := F_gd H
      refine ev_ga (p' := 41) (v := (gE (p_3.2) 50 (p_3.1 : Int32).toNatClampNeg)) rfl rfl ly_50 rfl (gd_in b_6) rfl ?_
      refine ev_x (i := .bipush 29) (len := 2) (p' := 43) (s' := [.int 29, .int (gE (p_3.2) 50 (p_3.1 : Int32).toNatClampNeg)]) rfl rfl rfl ?_
      refine F_if H (fun c_7 H => ?_) (fun c_7 H => ?_)
      · refine ev_b2 (t := 53) (p' := 53) rfl rfl rfl (if_pos c_7) ?_
        refine ev_x (i := .aload_n 0) (len := 1) (p' := 54) (s' := [.ref 46]) rfl rfl rfl ?_
        refine ev_gc (p' := 57) (v := 47) rfl rfl rfl ly_46 rfl rfl ?_
        refine ev_gc (p' := 60) (v := 51) rfl rfl rfl ly_47 rfl rfl ?_
        refine ev_x (i := .iload_n 3) (len := 1) (p' := 61) (s' := [.int p_3.1, .ref 51]) rfl rfl rfl ?_
        obtain ⟨b_8, H⟩ := F_gd H
        refine ev_ga (p' := 62) (v := (gE (p_3.2) 51 (p_3.1 : Int32).toNatClampNeg)) rfl rfl ly_51 rfl (gd_in b_8) rfl ?_
        refine ev_x (i := .istore 4) (len := 2) (p' := 64) (s' := []) (l' := [(4, .int (gE (p_3.2) 51 (p_3.1 : Int32).toNatClampNeg)), (3, .int p_3.1), (2, .int (gE (σ) 8 (x_1 : Int32).toNatClampNeg)), (0, .ref 46), (1, .int x_1)]) rfl rfl rfl ?_
        refine ev_x (i := .aload_n 0) (len := 1) (p' := 65) (s' := [.ref 46]) rfl rfl rfl ?_
        refine ev_gr (p' := 68) (v := 5) rfl rfl rfl ly_46 rfl rfl ((congrFun (congrFun e_3 46) 3).trans hr_46_3) ?_
        refine ev_gc (p' := 71) (v := 9) rfl rfl rfl ly_5 rfl rfl ?_
        refine ev_x (i := .aload_n 0) (len := 1) (p' := 72) (s' := [.ref 46, .ref 9]) rfl rfl rfl ?_
        refine ev_gi (p' := 75) (v := (gI p_3.2 46 10)) rfl rfl rfl ly_46 rfl rfl rfl ?_
        obtain ⟨b_9, H⟩ := F_gd H
        refine ev_ga (p' := 76) (v := (gE (p_3.2) 9 ((gI p_3.2 46 10) : Int32).toNatClampNeg)) rfl rfl ly_9 rfl (gd_in b_9) rfl ?_
        refine ev_x (i := .istore 5) (len := 2) (p' := 78) (s' := []) (l' := [(5, .int (gE (p_3.2) 9 ((gI p_3.2 46 10) : Int32).toNatClampNeg)), (4, .int (gE (p_3.2) 51 (p_3.1 : Int32).toNatClampNeg)), (3, .int p_3.1), (2, .int (gE (σ) 8 (x_1 : Int32).toNatClampNeg)), (0, .ref 46), (1, .int x_1)]) rfl rfl rfl ?_
        refine ev_x (i := .iconst 0) (len := 1) (p' := 79) (s' := [.int 0]) rfl rfl rfl ?_
        refine ev_x (i := .istore 6) (len := 2) (p' := 81) (s' := []) (l' := [(6, .int 0), (5, .int (gE (p_3.2) 9 ((gI p_3.2 46 10) : Int32).toNatClampNeg)), (4, .int (gE (p_3.2) 51 (p_3.1 : Int32).toNatClampNeg)), (3, .int p_3.1), (2, .int (gE (σ) 8 (x_1 : Int32).toNatClampNeg)), (0, .ref 46), (1, .int x_1)]) rfl rfl rfl ?_
        exact (L_89_ok (d := d) (Or.inl rfl) N) _ _ _ _ _ _ _ _ rfl rfl rfl rfl rfl rfl rfl ((congrFun (congrFun e_3 46) 3).trans hr_46_3) H
      · refine ev_b2 (t := 53) (p' := 46) rfl rfl rfl (if_neg c_7) ?_
        refine ev_x (i := .aload_n 0) (len := 1) (p' := 47) (s' := [.ref 46]) rfl rfl rfl ?_
        refine ev_x (i := .iconst 2) (len := 1) (p' := 48) (s' := [.int 2, .ref 46]) rfl rfl rfl ?_
        refine ev_x (i := .iload_n 2) (len := 1) (p' := 49) (s' := [.int (gE (σ) 8 (x_1 : Int32).toNatClampNeg), .int 2, .ref 46]) rfl rfl rfl ?_
        obtain ⟨p_10, G_10, H⟩ := F_bd H
        refine ev_cv (d := d + 2) (As := [.int 2, .int (gE (σ) 8 (x_1 : Int32).toNatClampNeg)]) (a := 46) (p' := 52) rfl rfl rfl ly_46 rfl rfl rfl rfl rfl rfl rfl (F_61_ok (d := d + 1)   G_10) ?_
        refine ev_st (st' := [.int p_10.1]) rfl ?_
        have e_10 := F_61_R G_10
        obtain rfl := Option.some.inj H
        exact ev_iret rfl rfl rfl rfl
  · refine ev_x (i := .aload_n 0) (len := 1) (p' := 1) (s' := [.ref 46]) rfl rfl rfl ?_
    refine ev_gr (p' := 4) (v := 21) rfl rfl rfl ly_46 rfl rfl hr_46_3 ?_
    refine ev_gc (p' := 7) (v := 24) rfl rfl rfl ly_21 rfl rfl ?_
    refine ev_x (i := .iload_n 1) (len := 1) (p' := 8) (s' := [.int x_1, .ref 24]) rfl rfl rfl ?_
    obtain ⟨b_1, H⟩ := F_gd H
    refine ev_ga (p' := 9) (v := (gE (σ) 24 (x_1 : Int32).toNatClampNeg)) rfl rfl ly_24 rfl (gd_in b_1) rfl ?_
    refine ev_x (i := .istore_n 2) (len := 1) (p' := 10) (s' := []) (l' := [(2, .int (gE (σ) 24 (x_1 : Int32).toNatClampNeg)), (0, .ref 46), (1, .int x_1)]) rfl rfl rfl ?_
    refine ev_x (i := .aload_n 0) (len := 1) (p' := 11) (s' := [.ref 46]) rfl rfl rfl ?_
    refine ev_gc (p' := 14) (v := 47) rfl rfl rfl ly_46 rfl rfl ?_
    refine ev_x (i := .iload_n 2) (len := 1) (p' := 15) (s' := [.int (gE (σ) 24 (x_1 : Int32).toNatClampNeg), .ref 47]) rfl rfl rfl ?_
    refine ev_x (i := .aload_n 0) (len := 1) (p' := 16) (s' := [.ref 46, .int (gE (σ) 24 (x_1 : Int32).toNatClampNeg), .ref 47]) rfl rfl rfl ?_
    refine ev_gr (p' := 19) (v := 21) rfl rfl rfl ly_46 rfl rfl hr_46_3 ?_
    refine ev_gc (p' := 22) (v := 25) rfl rfl rfl ly_21 rfl rfl ?_
    refine ev_x (i := .iload_n 1) (len := 1) (p' := 23) (s' := [.int x_1, .ref 25, .int (gE (σ) 24 (x_1 : Int32).toNatClampNeg), .ref 47]) rfl rfl rfl ?_
    obtain ⟨b_2, H⟩ := F_gd H
    refine ev_ga (p' := 24) (v := (gE (σ) 25 (x_1 : Int32).toNatClampNeg)) rfl rfl ly_25 rfl (gd_in b_2) rfl ?_
    obtain ⟨p_3, G_3, H⟩ := F_bd H
    refine ev_cv (d := d + 2) (As := [.int (gE (σ) 24 (x_1 : Int32).toNatClampNeg), .int (gE (σ) 25 (x_1 : Int32).toNatClampNeg)]) (a := 47) (p' := 27) rfl rfl rfl ly_47 rfl rfl rfl rfl rfl rfl rfl (F_59_ok (d := d + 0)   G_3) ?_
    refine ev_st (st' := [.int p_3.1]) rfl ?_
    have e_3 := F_59_R G_3
    refine ev_x (i := .istore_n 3) (len := 1) (p' := 28) (s' := []) (l' := [(3, .int p_3.1), (2, .int (gE (σ) 24 (x_1 : Int32).toNatClampNeg)), (0, .ref 46), (1, .int x_1)]) rfl rfl rfl ?_
    refine ev_x (i := .iload_n 3) (len := 1) (p' := 29) (s' := [.int p_3.1]) rfl rfl rfl ?_
    refine F_if H (fun c_4 H => ?_) (fun c_4 H => ?_)
    · refine ev_b0 (t := 46) (p' := 46) rfl rfl rfl (if_pos c_4) ?_
      refine ev_x (i := .aload_n 0) (len := 1) (p' := 47) (s' := [.ref 46]) rfl rfl rfl ?_
      refine ev_x (i := .iconst 2) (len := 1) (p' := 48) (s' := [.int 2, .ref 46]) rfl rfl rfl ?_
      refine ev_x (i := .iload_n 2) (len := 1) (p' := 49) (s' := [.int (gE (σ) 24 (x_1 : Int32).toNatClampNeg), .int 2, .ref 46]) rfl rfl rfl ?_
      obtain ⟨p_5, G_5, H⟩ := F_bd H
      refine ev_cv (d := d + 2) (As := [.int 2, .int (gE (σ) 24 (x_1 : Int32).toNatClampNeg)]) (a := 46) (p' := 52) rfl rfl rfl ly_46 rfl rfl rfl rfl rfl rfl rfl (F_61_ok (d := d + 1)   G_5) ?_
      refine ev_st (st' := [.int p_5.1]) rfl ?_
      have e_5 := F_61_R G_5
      obtain rfl := Option.some.inj H
      exact ev_iret rfl rfl rfl rfl
    · refine ev_b0 (t := 46) (p' := 32) rfl rfl rfl (if_neg c_4) ?_
      refine ev_x (i := .aload_n 0) (len := 1) (p' := 33) (s' := [.ref 46]) rfl rfl rfl ?_
      refine ev_gc (p' := 36) (v := 47) rfl rfl rfl ly_46 rfl rfl ?_
      refine ev_gc (p' := 39) (v := 50) rfl rfl rfl ly_47 rfl rfl ?_
      refine ev_x (i := .iload_n 3) (len := 1) (p' := 40) (s' := [.int p_3.1, .ref 50]) rfl rfl rfl ?_
      obtain ⟨b_6, H⟩ := F_gd H
      refine ev_ga (p' := 41) (v := (gE (p_3.2) 50 (p_3.1 : Int32).toNatClampNeg)) rfl rfl ly_50 rfl (gd_in b_6) rfl ?_
      refine ev_x (i := .bipush 29) (len := 2) (p' := 43) (s' := [.int 29, .int (gE (p_3.2) 50 (p_3.1 : Int32).toNatClampNeg)]) rfl rfl rfl ?_
      refine F_if H (fun c_7 H => ?_) (fun c_7 H => ?_)
      · refine ev_b2 (t := 53) (p' := 53) rfl rfl rfl (if_pos c_7) ?_
        refine ev_x (i := .aload_n 0) (len := 1) (p' := 54) (s' := [.ref 46]) rfl rfl rfl ?_
        refine ev_gc (p' := 57) (v := 47) rfl rfl rfl ly_46 rfl rfl ?_
        refine ev_gc (p' := 60) (v := 51) rfl rfl rfl ly_47 rfl rfl ?_
        refine ev_x (i := .iload_n 3) (len := 1) (p' := 61) (s' := [.int p_3.1, .ref 51]) rfl rfl rfl ?_
        obtain ⟨b_8, H⟩ := F_gd H
        refine ev_ga (p' := 62) (v := (gE (p_3.2) 51 (p_3.1 : Int32).toNatClampNeg)) rfl rfl ly_51 rfl (gd_in b_8) rfl ?_
        refine ev_x (i := .istore 4) (len := 2) (p' := 64) (s' := []) (l' := [(4, .int (gE (p_3.2) 51 (p_3.1 : Int32).toNatClampNeg)), (3, .int p_3.1), (2, .int (gE (σ) 24 (x_1 : Int32).toNatClampNeg)), (0, .ref 46), (1, .int x_1)]) rfl rfl rfl ?_
        refine ev_x (i := .aload_n 0) (len := 1) (p' := 65) (s' := [.ref 46]) rfl rfl rfl ?_
        refine ev_gr (p' := 68) (v := 21) rfl rfl rfl ly_46 rfl rfl ((congrFun (congrFun e_3 46) 3).trans hr_46_3) ?_
        refine ev_gc (p' := 71) (v := 25) rfl rfl rfl ly_21 rfl rfl ?_
        refine ev_x (i := .aload_n 0) (len := 1) (p' := 72) (s' := [.ref 46, .ref 25]) rfl rfl rfl ?_
        refine ev_gi (p' := 75) (v := (gI p_3.2 46 10)) rfl rfl rfl ly_46 rfl rfl rfl ?_
        obtain ⟨b_9, H⟩ := F_gd H
        refine ev_ga (p' := 76) (v := (gE (p_3.2) 25 ((gI p_3.2 46 10) : Int32).toNatClampNeg)) rfl rfl ly_25 rfl (gd_in b_9) rfl ?_
        refine ev_x (i := .istore 5) (len := 2) (p' := 78) (s' := []) (l' := [(5, .int (gE (p_3.2) 25 ((gI p_3.2 46 10) : Int32).toNatClampNeg)), (4, .int (gE (p_3.2) 51 (p_3.1 : Int32).toNatClampNeg)), (3, .int p_3.1), (2, .int (gE (σ) 24 (x_1 : Int32).toNatClampNeg)), (0, .ref 46), (1, .int x_1)]) rfl rfl rfl ?_
        refine ev_x (i := .iconst 0) (len := 1) (p' := 79) (s' := [.int 0]) rfl rfl rfl ?_
        refine ev_x (i := .istore 6) (len := 2) (p' := 81) (s' := []) (l' := [(6, .int 0), (5, .int (gE (p_3.2) 25 ((gI p_3.2 46 10) : Int32).toNatClampNeg)), (4, .int (gE (p_3.2) 51 (p_3.1 : Int32).toNatClampNeg)), (3, .int p_3.1), (2, .int (gE (σ) 24 (x_1 : Int32).toNatClampNeg)), (0, .ref 46), (1, .int x_1)]) rfl rfl rfl ?_
        exact (L_89_ok (d := d) (Or.inr rfl) N) _ _ _ _ _ _ _ _ rfl rfl rfl rfl rfl rfl rfl ((congrFun (congrFun e_3 46) 3).trans hr_46_3) H
      · refine ev_b2 (t := 53) (p' := 46) rfl rfl rfl (if_neg c_7) ?_
        refine ev_x (i := .aload_n 0) (len := 1) (p' := 47) (s' := [.ref 46]) rfl rfl rfl ?_
        refine ev_x (i := .iconst 2) (len := 1) (p' := 48) (s' := [.int 2, .ref 46]) rfl rfl rfl ?_
        refine ev_x (i := .iload_n 2) (len := 1) (p' := 49) (s' := [.int (gE (σ) 24 (x_1 : Int32).toNatClampNeg), .int 2, .ref 46]) rfl rfl rfl ?_
        obtain ⟨p_10, G_10, H⟩ := F_bd H
        refine ev_cv (d := d + 2) (As := [.int 2, .int (gE (σ) 24 (x_1 : Int32).toNatClampNeg)]) (a := 46) (p' := 52) rfl rfl rfl ly_46 rfl rfl rfl rfl rfl rfl rfl (F_61_ok (d := d + 1)   G_10) ?_
        refine ev_st (st' := [.int p_10.1]) rfl ?_
        have e_10 := F_61_R G_10
        obtain rfl := Option.some.inj H
        exact ev_iret rfl rfl rfl rfl
/-- GameText$Checker.looksAtPart(I)I -/
def F_84 (N : Nat) (t : Nat) (x_1 : Int32) (σ : st_S) : Option (Int32 × st_S) :=
  if aB x_1 (gN σ (t + 2)) then
  if (gE (σ) (t + 2) (x_1 : Int32).toNatClampNeg) = 26 then
    (F_85 N t x_1 (σ)).bind fun p_3 =>
    some (p_3.1, p_3.2)
  else
  if (gE (σ) (t + 2) (x_1 : Int32).toNatClampNeg) = 27 then
    (F_87 N t x_1 (if (gI σ t 8) < 60 then 0 else 1 : Int32) (σ)).bind fun p_6 =>
    some (p_6.1, p_6.2)
  else
  if (gE (σ) (t + 2) (x_1 : Int32).toNatClampNeg) = 28 then
    (F_87 N t x_1 (if (gI σ t 8) < 60 then 0 else 1 : Int32) (σ)).bind fun p_9 =>
    some (p_9.1, p_9.2)
  else
  if (gE (σ) (t + 2) (x_1 : Int32).toNatClampNeg) = 29 then
    (F_87 N t x_1 (if (gI σ t 7) < 12 then 0 else 1 : Int32) (st_i (σ) 46 9 (-1))).bind fun p_12 =>
    some (p_12.1, p_12.2)
  else
  if (gE (σ) (t + 2) (x_1 : Int32).toNatClampNeg) = 30 then
    if (gI σ t 11) < 0 then
      some (0, st_i (σ) 46 5 x_1)
    else
      if aB x_1 (gN σ (t + 3)) then
      (F_61 N 4 (gE (σ) (t + 3) (x_1 : Int32).toNatClampNeg) (st_i (σ) 46 5 x_1)).bind fun p_16 =>
      some (p_16.1, p_16.2)
      else none
  else
  if (gE (σ) (t + 2) (x_1 : Int32).toNatClampNeg) = 31 then
    if (gI σ t 10) < 60 then
      some (0, st_i (st_i (st_i (σ) 46 5 x_1) 46 10 (-1)) 46 11 0)
    else
      if aB x_1 (gN σ (t + 3)) then
      (F_61 N 5 (gE (σ) (t + 3) (x_1 : Int32).toNatClampNeg) (st_i (st_i (st_i (σ) 46 5 x_1) 46 10 (-1)) 46 11 0)).bind fun p_20 =>
      some (p_20.1, p_20.2)
      else none
  else
  if (gE (σ) (t + 2) (x_1 : Int32).toNatClampNeg) = 32 then
    (F_88 N t x_1 (σ)).bind fun p_22 =>
    some (p_22.1, p_22.2)
  else
    (F_89 N t x_1 (σ)).bind fun p_23 =>
    some (p_23.1, p_23.2)
  else none
set_option maxRecDepth 100000 in
theorem F_84_R {N : Nat} {t : Nat} {x_1 : Int32} {σ : st_S} {p : Int32 × st_S} (H : F_84 N t x_1 σ = some p) : gR p.2 = gR σ := by
  unfold F_84 at H
  obtain ⟨_, H⟩ := F_gd H
  refine F_if H (fun _ H => ?_) (fun _ H => ?_)
  · obtain ⟨p_3, G_3, H⟩ := F_bd H
    obtain rfl := Option.some.inj H
    exact ((F_85_R G_3).trans rfl)
  · refine F_if H (fun _ H => ?_) (fun _ H => ?_)
    · obtain ⟨p_6, G_6, H⟩ := F_bd H
      obtain rfl := Option.some.inj H
      exact ((F_87_R G_6).trans rfl)
    · refine F_if H (fun _ H => ?_) (fun _ H => ?_)
      · obtain ⟨p_9, G_9, H⟩ := F_bd H
        obtain rfl := Option.some.inj H
        exact ((F_87_R G_9).trans rfl)
      · refine F_if H (fun _ H => ?_) (fun _ H => ?_)
        · obtain ⟨p_12, G_12, H⟩ := F_bd H
          obtain rfl := Option.some.inj H
          exact ((F_87_R G_12).trans rfl)
        · refine F_if H (fun _ H => ?_) (fun _ H => ?_)
          · refine F_if H (fun _ H => ?_) (fun _ H => ?_)
            · obtain rfl := Option.some.inj H
              exact rfl
            · obtain ⟨_, H⟩ := F_gd H
              obtain ⟨p_16, G_16, H⟩ := F_bd H
              obtain rfl := Option.some.inj H
              exact ((F_61_R G_16).trans rfl)
          · refine F_if H (fun _ H => ?_) (fun _ H => ?_)
            · refine F_if H (fun _ H => ?_) (fun _ H => ?_)
              · obtain rfl := Option.some.inj H
                exact rfl
              · obtain ⟨_, H⟩ := F_gd H
                obtain ⟨p_20, G_20, H⟩ := F_bd H
                obtain rfl := Option.some.inj H
                exact ((F_61_R G_20).trans rfl)
            · refine F_if H (fun _ H => ?_) (fun _ H => ?_)
              · obtain ⟨p_22, G_22, H⟩ := F_bd H
                obtain rfl := Option.some.inj H
                exact ((F_88_R G_22).trans rfl)
              · obtain ⟨p_23, G_23, H⟩ := F_bd H
                obtain rfl := Option.some.inj H
                exact ((F_89_R G_23).trans rfl)
set_option maxHeartbeats 4000000 in
set_option maxRecDepth 100000 in
theorem F_84_ok {N d : Nat} {t : Nat} (ht : t = 4 ∨ t = 20) {x_1 : Int32} {σ : st_S} {p : Int32 × st_S} (hr_46_2 : gR σ 46 2 = t) (hr_46_3 : gR σ 46 3 = (t + 1)) (H : F_84 N t x_1 σ = some p) : vz_ev P0 (d + 4) 84 0 (lv_args 0 [.ref 46, .int x_1]) [] (hp σ) (.inl (some (.int p.1)), hp p.2) := by
  unfold F_84 at H
  rcases ht with rfl | rfl
  · refine ev_x (i := .aload_n 0) (len := 1) (p' := 1) (s' := [.ref 46]) rfl rfl rfl ?_
    refine ev_gr (p' := 4) (v := 5) rfl rfl rfl ly_46 rfl rfl hr_46_3 ?_
    refine ev_gc (p' := 7) (v := 6) rfl rfl rfl ly_5 rfl rfl ?_
    refine ev_x (i := .iload_n 1) (len := 1) (p' := 8) (s' := [.int x_1, .ref 6]) rfl rfl rfl ?_
    obtain ⟨b_1, H⟩ := F_gd H
    refine ev_ga (p' := 9) (v := (gE (σ) 6 (x_1 : Int32).toNatClampNeg)) rfl rfl ly_6 rfl (gd_in b_1) rfl ?_
    refine F_if H (fun c_2 H => ?_) (fun c_2 H => ?_)
    · refine ev_st (st' := [.int 26]) (congrArg (fun z => Value.int z :: []) c_2) ?_
      refine ev_ts (off := 43) (t := 52) rfl rfl (by decide) rfl ?_
      refine ev_x (i := .aload_n 0) (len := 1) (p' := 53) (s' := [.ref 46]) rfl rfl rfl ?_
      refine ev_x (i := .iload_n 1) (len := 1) (p' := 54) (s' := [.int x_1, .ref 46]) rfl rfl rfl ?_
      obtain ⟨p_3, G_3, H⟩ := F_bd H
      refine ev_cv (d := d + 3) (As := [.int x_1]) (a := 46) (p' := 57) rfl rfl rfl ly_46 rfl rfl rfl rfl rfl rfl rfl (F_85_ok (d := d + 1) (ht := (Or.inl rfl)) (hr_46_2 := hr_46_2) (hr_46_3 := hr_46_3) G_3) ?_
      refine ev_st (st' := [.int p_3.1]) rfl ?_
      have e_3 := F_85_R G_3
      obtain rfl := Option.some.inj H
      exact ev_iret rfl rfl rfl rfl
    · refine F_if H (fun c_4 H => ?_) (fun c_4 H => ?_)
      · refine ev_st (st' := [.int 27]) (congrArg (fun z => Value.int z :: []) c_4) ?_
        refine ev_ts (off := 49) (t := 58) rfl rfl (by decide) rfl ?_
        refine ev_x (i := .aload_n 0) (len := 1) (p' := 59) (s' := [.ref 46]) rfl rfl rfl ?_
        refine ev_x (i := .iload_n 1) (len := 1) (p' := 60) (s' := [.int x_1, .ref 46]) rfl rfl rfl ?_
        refine ev_x (i := .aload_n 0) (len := 1) (p' := 61) (s' := [.ref 46, .int x_1, .ref 46]) rfl rfl rfl ?_
        refine ev_gr (p' := 64) (v := 4) rfl rfl rfl ly_46 rfl rfl hr_46_2 ?_
        refine ev_gi (p' := 67) (v := (gI σ 4 8)) rfl rfl rfl ly_4 rfl rfl rfl ?_
        refine ev_x (i := .bipush 60) (len := 2) (p' := 69) (s' := [.int 60, .int (gI σ 4 8), .int x_1, .ref 46]) rfl rfl rfl ?_
        refine F_jn (A := vz_ev P0 (d + 4) 84 77 [(0, .ref 46), (1, .int x_1)] [.int (if (gI σ 4 8) < 60 then 0 else 1 : Int32), .int x_1, .ref 46] (hp (σ)) (.inl (some (.int p.1)), hp p.2)) ?_ (fun J => ?_)
        · obtain ⟨p_6, G_6, H⟩ := F_bd H
          refine ev_cv (d := d + 3) (As := [.int x_1, .int (if (gI σ 4 8) < 60 then 0 else 1 : Int32)]) (a := 46) (p' := 80) rfl rfl rfl ly_46 rfl rfl rfl rfl rfl rfl rfl (F_87_ok (d := d + 0) (ht := (Or.inl rfl)) (hr_46_3 := hr_46_3) G_6) ?_
          refine ev_st (st' := [.int p_6.1]) rfl ?_
          have e_6 := F_87_R G_6
          obtain rfl := Option.some.inj H
          exact ev_iret rfl rfl rfl rfl
        · by_cases c_5 : (gI σ 4 8) < 60
          · refine ev_b2 (t := 76) (p' := 76) rfl rfl rfl (if_pos c_5) ?_
            refine ev_x (i := .iconst 0) (len := 1) (p' := 77) (s' := [.int 0, .int x_1, .ref 46]) rfl rfl rfl ?_
            exact ev_st (congrArg (fun z => Value.int z :: [.int x_1, .ref 46]) (by rw [if_pos c_5])) J
          · refine ev_b2 (t := 76) (p' := 72) rfl rfl rfl (if_neg c_5) ?_
            refine ev_x (i := .iconst 1) (len := 1) (p' := 73) (s' := [.int 1, .int x_1, .ref 46]) rfl rfl rfl ?_
            refine ev_x (i := .goto 4) (len := 3) (p' := 77) (s' := [.int 1, .int x_1, .ref 46]) rfl rfl rfl ?_
            exact ev_st (congrArg (fun z => Value.int z :: [.int x_1, .ref 46]) (by rw [if_neg c_5])) J
      · refine F_if H (fun c_7 H => ?_) (fun c_7 H => ?_)
        · refine ev_st (st' := [.int 28]) (congrArg (fun z => Value.int z :: []) c_7) ?_
          refine ev_ts (off := 49) (t := 58) rfl rfl (by decide) rfl ?_
          refine ev_x (i := .aload_n 0) (len := 1) (p' := 59) (s' := [.ref 46]) rfl rfl rfl ?_
          refine ev_x (i := .iload_n 1) (len := 1) (p' := 60) (s' := [.int x_1, .ref 46]) rfl rfl rfl ?_
          refine ev_x (i := .aload_n 0) (len := 1) (p' := 61) (s' := [.ref 46, .int x_1, .ref 46]) rfl rfl rfl ?_
          refine ev_gr (p' := 64) (v := 4) rfl rfl rfl ly_46 rfl rfl hr_46_2 ?_
          refine ev_gi (p' := 67) (v := (gI σ 4 8)) rfl rfl rfl ly_4 rfl rfl rfl ?_
          refine ev_x (i := .bipush 60) (len := 2) (p' := 69) (s' := [.int 60, .int (gI σ 4 8), .int x_1, .ref 46]) rfl rfl rfl ?_
          refine F_jn (A := vz_ev P0 (d + 4) 84 77 [(0, .ref 46), (1, .int x_1)] [.int (if (gI σ 4 8) < 60 then 0 else 1 : Int32), .int x_1, .ref 46] (hp (σ)) (.inl (some (.int p.1)), hp p.2)) ?_ (fun J => ?_)
          · obtain ⟨p_9, G_9, H⟩ := F_bd H
            refine ev_cv (d := d + 3) (As := [.int x_1, .int (if (gI σ 4 8) < 60 then 0 else 1 : Int32)]) (a := 46) (p' := 80) rfl rfl rfl ly_46 rfl rfl rfl rfl rfl rfl rfl (F_87_ok (d := d + 0) (ht := (Or.inl rfl)) (hr_46_3 := hr_46_3) G_9) ?_
            refine ev_st (st' := [.int p_9.1]) rfl ?_
            have e_9 := F_87_R G_9
            obtain rfl := Option.some.inj H
            exact ev_iret rfl rfl rfl rfl
          · by_cases c_8 : (gI σ 4 8) < 60
            · refine ev_b2 (t := 76) (p' := 76) rfl rfl rfl (if_pos c_8) ?_
              refine ev_x (i := .iconst 0) (len := 1) (p' := 77) (s' := [.int 0, .int x_1, .ref 46]) rfl rfl rfl ?_
              exact ev_st (congrArg (fun z => Value.int z :: [.int x_1, .ref 46]) (by rw [if_pos c_8])) J
            · refine ev_b2 (t := 76) (p' := 72) rfl rfl rfl (if_neg c_8) ?_
              refine ev_x (i := .iconst 1) (len := 1) (p' := 73) (s' := [.int 1, .int x_1, .ref 46]) rfl rfl rfl ?_
              refine ev_x (i := .goto 4) (len := 3) (p' := 77) (s' := [.int 1, .int x_1, .ref 46]) rfl rfl rfl ?_
              exact ev_st (congrArg (fun z => Value.int z :: [.int x_1, .ref 46]) (by rw [if_neg c_8])) J
        · refine F_if H (fun c_10 H => ?_) (fun c_10 H => ?_)
          · refine ev_st (st' := [.int 29]) (congrArg (fun z => Value.int z :: []) c_10) ?_
            refine ev_ts (off := 72) (t := 81) rfl rfl (by decide) rfl ?_
            refine ev_x (i := .aload_n 0) (len := 1) (p' := 82) (s' := [.ref 46]) rfl rfl rfl ?_
            refine ev_x (i := .iconst (-1)) (len := 1) (p' := 83) (s' := [.int (-1), .ref 46]) rfl rfl rfl ?_
            refine ev_pi (p' := 86) rfl rfl rfl ly_46 rfl rfl rfl rfl ?_
            refine ev_x (i := .aload_n 0) (len := 1) (p' := 87) (s' := [.ref 46]) rfl rfl rfl ?_
            refine ev_x (i := .iload_n 1) (len := 1) (p' := 88) (s' := [.int x_1, .ref 46]) rfl rfl rfl ?_
            refine ev_x (i := .aload_n 0) (len := 1) (p' := 89) (s' := [.ref 46, .int x_1, .ref 46]) rfl rfl rfl ?_
            refine ev_gr (p' := 92) (v := 4) rfl rfl rfl ly_46 rfl rfl hr_46_2 ?_
            refine ev_gi (p' := 95) (v := (gI σ 4 7)) rfl rfl rfl ly_4 rfl rfl rfl ?_
            refine ev_x (i := .bipush 12) (len := 2) (p' := 97) (s' := [.int 12, .int (gI σ 4 7), .int x_1, .ref 46]) rfl rfl rfl ?_
            refine F_jn (A := vz_ev P0 (d + 4) 84 105 [(0, .ref 46), (1, .int x_1)] [.int (if (gI σ 4 7) < 12 then 0 else 1 : Int32), .int x_1, .ref 46] (hp (st_i (σ) 46 9 (-1))) (.inl (some (.int p.1)), hp p.2)) ?_ (fun J => ?_)
            · obtain ⟨p_12, G_12, H⟩ := F_bd H
              refine ev_cv (d := d + 3) (As := [.int x_1, .int (if (gI σ 4 7) < 12 then 0 else 1 : Int32)]) (a := 46) (p' := 108) rfl rfl rfl ly_46 rfl rfl rfl rfl rfl rfl rfl (F_87_ok (d := d + 0) (ht := (Or.inl rfl)) (hr_46_3 := hr_46_3) G_12) ?_
              refine ev_st (st' := [.int p_12.1]) rfl ?_
              have e_12 := F_87_R G_12
              obtain rfl := Option.some.inj H
              exact ev_iret rfl rfl rfl rfl
            · by_cases c_11 : (gI σ 4 7) < 12
              · refine ev_b2 (t := 104) (p' := 104) rfl rfl rfl (if_pos c_11) ?_
                refine ev_x (i := .iconst 0) (len := 1) (p' := 105) (s' := [.int 0, .int x_1, .ref 46]) rfl rfl rfl ?_
                exact ev_st (congrArg (fun z => Value.int z :: [.int x_1, .ref 46]) (by rw [if_pos c_11])) J
              · refine ev_b2 (t := 104) (p' := 100) rfl rfl rfl (if_neg c_11) ?_
                refine ev_x (i := .iconst 1) (len := 1) (p' := 101) (s' := [.int 1, .int x_1, .ref 46]) rfl rfl rfl ?_
                refine ev_x (i := .goto 4) (len := 3) (p' := 105) (s' := [.int 1, .int x_1, .ref 46]) rfl rfl rfl ?_
                exact ev_st (congrArg (fun z => Value.int z :: [.int x_1, .ref 46]) (by rw [if_neg c_11])) J
          · refine F_if H (fun c_13 H => ?_) (fun c_13 H => ?_)
            · refine ev_st (st' := [.int 30]) (congrArg (fun z => Value.int z :: []) c_13) ?_
              refine ev_ts (off := 100) (t := 109) rfl rfl (by decide) rfl ?_
              refine ev_x (i := .aload_n 0) (len := 1) (p' := 110) (s' := [.ref 46]) rfl rfl rfl ?_
              refine ev_x (i := .iload_n 1) (len := 1) (p' := 111) (s' := [.int x_1, .ref 46]) rfl rfl rfl ?_
              refine ev_pi (p' := 114) rfl rfl rfl ly_46 rfl rfl rfl rfl ?_
              refine ev_x (i := .aload_n 0) (len := 1) (p' := 115) (s' := [.ref 46]) rfl rfl rfl ?_
              refine ev_gr (p' := 118) (v := 4) rfl rfl rfl ly_46 rfl rfl hr_46_2 ?_
              refine ev_gi (p' := 121) (v := (gI σ 4 11)) rfl rfl rfl ly_4 rfl rfl rfl ?_
              refine F_if H (fun c_14 H => ?_) (fun c_14 H => ?_)
              · refine ev_b0 (t := 141) (p' := 141) rfl rfl rfl (if_pos c_14) ?_
                refine ev_x (i := .iconst 0) (len := 1) (p' := 142) (s' := [.int 0]) rfl rfl rfl ?_
                obtain rfl := Option.some.inj H
                exact ev_iret rfl rfl rfl rfl
              · refine ev_b0 (t := 141) (p' := 124) rfl rfl rfl (if_neg c_14) ?_
                refine ev_x (i := .aload_n 0) (len := 1) (p' := 125) (s' := [.ref 46]) rfl rfl rfl ?_
                refine ev_x (i := .iconst 4) (len := 1) (p' := 126) (s' := [.int 4, .ref 46]) rfl rfl rfl ?_
                refine ev_x (i := .aload_n 0) (len := 1) (p' := 127) (s' := [.ref 46, .int 4, .ref 46]) rfl rfl rfl ?_
                refine ev_gr (p' := 130) (v := 5) rfl rfl rfl ly_46 rfl rfl hr_46_3 ?_
                refine ev_gc (p' := 133) (v := 7) rfl rfl rfl ly_5 rfl rfl ?_
                refine ev_x (i := .iload_n 1) (len := 1) (p' := 134) (s' := [.int x_1, .ref 7, .int 4, .ref 46]) rfl rfl rfl ?_
                obtain ⟨b_15, H⟩ := F_gd H
                refine ev_ga (p' := 135) (v := (gE (σ) 7 (x_1 : Int32).toNatClampNeg)) rfl rfl ly_7 rfl (gd_in b_15) rfl ?_
                obtain ⟨p_16, G_16, H⟩ := F_bd H
                refine ev_cv (d := d + 3) (As := [.int 4, .int (gE (σ) 7 (x_1 : Int32).toNatClampNeg)]) (a := 46) (p' := 138) rfl rfl rfl ly_46 rfl rfl rfl rfl rfl rfl rfl (F_61_ok (d := d + 2)   G_16) ?_
                refine ev_st (st' := [.int p_16.1]) rfl ?_
                have e_16 := F_61_R G_16
                refine ev_x (i := .goto 4) (len := 3) (p' := 142) (s' := [.int p_16.1]) rfl rfl rfl ?_
                obtain rfl := Option.some.inj H
                exact ev_iret rfl rfl rfl rfl
            · refine F_if H (fun c_17 H => ?_) (fun c_17 H => ?_)
              · refine ev_st (st' := [.int 31]) (congrArg (fun z => Value.int z :: []) c_17) ?_
                refine ev_ts (off := 134) (t := 143) rfl rfl (by decide) rfl ?_
                refine ev_x (i := .aload_n 0) (len := 1) (p' := 144) (s' := [.ref 46]) rfl rfl rfl ?_
                refine ev_x (i := .iload_n 1) (len := 1) (p' := 145) (s' := [.int x_1, .ref 46]) rfl rfl rfl ?_
                refine ev_pi (p' := 148) rfl rfl rfl ly_46 rfl rfl rfl rfl ?_
                refine ev_x (i := .aload_n 0) (len := 1) (p' := 149) (s' := [.ref 46]) rfl rfl rfl ?_
                refine ev_x (i := .iconst (-1)) (len := 1) (p' := 150) (s' := [.int (-1), .ref 46]) rfl rfl rfl ?_
                refine ev_pi (p' := 153) rfl rfl rfl ly_46 rfl rfl rfl rfl ?_
                refine ev_x (i := .aload_n 0) (len := 1) (p' := 154) (s' := [.ref 46]) rfl rfl rfl ?_
                refine ev_x (i := .iconst 0) (len := 1) (p' := 155) (s' := [.int 0, .ref 46]) rfl rfl rfl ?_
                refine ev_pi (p' := 158) rfl rfl rfl ly_46 rfl rfl rfl rfl ?_
                refine ev_x (i := .aload_n 0) (len := 1) (p' := 159) (s' := [.ref 46]) rfl rfl rfl ?_
                refine ev_gr (p' := 162) (v := 4) rfl rfl rfl ly_46 rfl rfl hr_46_2 ?_
                refine ev_gi (p' := 165) (v := (gI σ 4 10)) rfl rfl rfl ly_4 rfl rfl rfl ?_
                refine ev_x (i := .bipush 60) (len := 2) (p' := 167) (s' := [.int 60, .int (gI σ 4 10)]) rfl rfl rfl ?_
                refine F_if H (fun c_18 H => ?_) (fun c_18 H => ?_)
                · refine ev_b2 (t := 187) (p' := 187) rfl rfl rfl (if_pos c_18) ?_
                  refine ev_x (i := .iconst 0) (len := 1) (p' := 188) (s' := [.int 0]) rfl rfl rfl ?_
                  obtain rfl := Option.some.inj H
                  exact ev_iret rfl rfl rfl rfl
                · refine ev_b2 (t := 187) (p' := 170) rfl rfl rfl (if_neg c_18) ?_
                  refine ev_x (i := .aload_n 0) (len := 1) (p' := 171) (s' := [.ref 46]) rfl rfl rfl ?_
                  refine ev_x (i := .iconst 5) (len := 1) (p' := 172) (s' := [.int 5, .ref 46]) rfl rfl rfl ?_
                  refine ev_x (i := .aload_n 0) (len := 1) (p' := 173) (s' := [.ref 46, .int 5, .ref 46]) rfl rfl rfl ?_
                  refine ev_gr (p' := 176) (v := 5) rfl rfl rfl ly_46 rfl rfl hr_46_3 ?_
                  refine ev_gc (p' := 179) (v := 7) rfl rfl rfl ly_5 rfl rfl ?_
                  refine ev_x (i := .iload_n 1) (len := 1) (p' := 180) (s' := [.int x_1, .ref 7, .int 5, .ref 46]) rfl rfl rfl ?_
                  obtain ⟨b_19, H⟩ := F_gd H
                  refine ev_ga (p' := 181) (v := (gE (σ) 7 (x_1 : Int32).toNatClampNeg)) rfl rfl ly_7 rfl (gd_in b_19) rfl ?_
                  obtain ⟨p_20, G_20, H⟩ := F_bd H
                  refine ev_cv (d := d + 3) (As := [.int 5, .int (gE (σ) 7 (x_1 : Int32).toNatClampNeg)]) (a := 46) (p' := 184) rfl rfl rfl ly_46 rfl rfl rfl rfl rfl rfl rfl (F_61_ok (d := d + 2)   G_20) ?_
                  refine ev_st (st' := [.int p_20.1]) rfl ?_
                  have e_20 := F_61_R G_20
                  refine ev_x (i := .goto 4) (len := 3) (p' := 188) (s' := [.int p_20.1]) rfl rfl rfl ?_
                  obtain rfl := Option.some.inj H
                  exact ev_iret rfl rfl rfl rfl
              · refine F_if H (fun c_21 H => ?_) (fun c_21 H => ?_)
                · refine ev_st (st' := [.int 32]) (congrArg (fun z => Value.int z :: []) c_21) ?_
                  refine ev_ts (off := 180) (t := 189) rfl rfl (by decide) rfl ?_
                  refine ev_x (i := .aload_n 0) (len := 1) (p' := 190) (s' := [.ref 46]) rfl rfl rfl ?_
                  refine ev_x (i := .iload_n 1) (len := 1) (p' := 191) (s' := [.int x_1, .ref 46]) rfl rfl rfl ?_
                  obtain ⟨p_22, G_22, H⟩ := F_bd H
                  refine ev_cv (d := d + 3) (As := [.int x_1]) (a := 46) (p' := 194) rfl rfl rfl ly_46 rfl rfl rfl rfl rfl rfl rfl (F_88_ok (d := d + 1) (ht := (Or.inl rfl)) (hr_46_3 := hr_46_3) G_22) ?_
                  refine ev_st (st' := [.int p_22.1]) rfl ?_
                  have e_22 := F_88_R G_22
                  obtain rfl := Option.some.inj H
                  exact ev_iret rfl rfl rfl rfl
                · have n_26 : (26 : Int) ≠ ((gE (σ) 6 (x_1 : Int32).toNatClampNeg) : Int32).toInt := i32_ne (k := 26) (by decide) c_2
                  have n_27 : (27 : Int) ≠ ((gE (σ) 6 (x_1 : Int32).toNatClampNeg) : Int32).toInt := i32_ne (k := 27) (by decide) c_4
                  have n_28 : (28 : Int) ≠ ((gE (σ) 6 (x_1 : Int32).toNatClampNeg) : Int32).toInt := i32_ne (k := 28) (by decide) c_7
                  have n_29 : (29 : Int) ≠ ((gE (σ) 6 (x_1 : Int32).toNatClampNeg) : Int32).toInt := i32_ne (k := 29) (by decide) c_10
                  have n_30 : (30 : Int) ≠ ((gE (σ) 6 (x_1 : Int32).toNatClampNeg) : Int32).toInt := i32_ne (k := 30) (by decide) c_13
                  have n_31 : (31 : Int) ≠ ((gE (σ) 6 (x_1 : Int32).toNatClampNeg) : Int32).toInt := i32_ne (k := 31) (by decide) c_17
                  have n_32 : (32 : Int) ≠ ((gE (σ) 6 (x_1 : Int32).toNatClampNeg) : Int32).toInt := i32_ne (k := 32) (by decide) c_21
                  refine ev_ts (off := 186) (t := 195) rfl rfl ?hsw rfl ?_
                  case hsw =>
                    by_cases hq : ((gE (σ) 6 (x_1 : Int32).toNatClampNeg) : Int32).toInt < 26 ∨ 32 < ((gE (σ) 6 (x_1 : Int32).toNatClampNeg) : Int32).toInt
                    · exact if_pos hq
                    · rw [if_neg hq]
                      exact absurd hq (by omega)
                  refine ev_x (i := .aload_n 0) (len := 1) (p' := 196) (s' := [.ref 46]) rfl rfl rfl ?_
                  refine ev_x (i := .iload_n 1) (len := 1) (p' := 197) (s' := [.int x_1, .ref 46]) rfl rfl rfl ?_
                  obtain ⟨p_23, G_23, H⟩ := F_bd H
                  refine ev_cv (d := d + 3) (As := [.int x_1]) (a := 46) (p' := 200) rfl rfl rfl ly_46 rfl rfl rfl rfl rfl rfl rfl (F_89_ok (d := d + 0) (ht := (Or.inl rfl)) (hr_46_3 := hr_46_3) G_23) ?_
                  refine ev_st (st' := [.int p_23.1]) rfl ?_
                  have e_23 := F_89_R G_23
                  obtain rfl := Option.some.inj H
                  exact ev_iret rfl rfl rfl rfl
  · refine ev_x (i := .aload_n 0) (len := 1) (p' := 1) (s' := [.ref 46]) rfl rfl rfl ?_
    refine ev_gr (p' := 4) (v := 21) rfl rfl rfl ly_46 rfl rfl hr_46_3 ?_
    refine ev_gc (p' := 7) (v := 22) rfl rfl rfl ly_21 rfl rfl ?_
    refine ev_x (i := .iload_n 1) (len := 1) (p' := 8) (s' := [.int x_1, .ref 22]) rfl rfl rfl ?_
    obtain ⟨b_1, H⟩ := F_gd H
    refine ev_ga (p' := 9) (v := (gE (σ) 22 (x_1 : Int32).toNatClampNeg)) rfl rfl ly_22 rfl (gd_in b_1) rfl ?_
    refine F_if H (fun c_2 H => ?_) (fun c_2 H => ?_)
    · refine ev_st (st' := [.int 26]) (congrArg (fun z => Value.int z :: []) c_2) ?_
      refine ev_ts (off := 43) (t := 52) rfl rfl (by decide) rfl ?_
      refine ev_x (i := .aload_n 0) (len := 1) (p' := 53) (s' := [.ref 46]) rfl rfl rfl ?_
      refine ev_x (i := .iload_n 1) (len := 1) (p' := 54) (s' := [.int x_1, .ref 46]) rfl rfl rfl ?_
      obtain ⟨p_3, G_3, H⟩ := F_bd H
      refine ev_cv (d := d + 3) (As := [.int x_1]) (a := 46) (p' := 57) rfl rfl rfl ly_46 rfl rfl rfl rfl rfl rfl rfl (F_85_ok (d := d + 1) (ht := (Or.inr rfl)) (hr_46_2 := hr_46_2) (hr_46_3 := hr_46_3) G_3) ?_
      refine ev_st (st' := [.int p_3.1]) rfl ?_
      have e_3 := F_85_R G_3
      obtain rfl := Option.some.inj H
      exact ev_iret rfl rfl rfl rfl
    · refine F_if H (fun c_4 H => ?_) (fun c_4 H => ?_)
      · refine ev_st (st' := [.int 27]) (congrArg (fun z => Value.int z :: []) c_4) ?_
        refine ev_ts (off := 49) (t := 58) rfl rfl (by decide) rfl ?_
        refine ev_x (i := .aload_n 0) (len := 1) (p' := 59) (s' := [.ref 46]) rfl rfl rfl ?_
        refine ev_x (i := .iload_n 1) (len := 1) (p' := 60) (s' := [.int x_1, .ref 46]) rfl rfl rfl ?_
        refine ev_x (i := .aload_n 0) (len := 1) (p' := 61) (s' := [.ref 46, .int x_1, .ref 46]) rfl rfl rfl ?_
        refine ev_gr (p' := 64) (v := 20) rfl rfl rfl ly_46 rfl rfl hr_46_2 ?_
        refine ev_gi (p' := 67) (v := (gI σ 20 8)) rfl rfl rfl ly_20 rfl rfl rfl ?_
        refine ev_x (i := .bipush 60) (len := 2) (p' := 69) (s' := [.int 60, .int (gI σ 20 8), .int x_1, .ref 46]) rfl rfl rfl ?_
        refine F_jn (A := vz_ev P0 (d + 4) 84 77 [(0, .ref 46), (1, .int x_1)] [.int (if (gI σ 20 8) < 60 then 0 else 1 : Int32), .int x_1, .ref 46] (hp (σ)) (.inl (some (.int p.1)), hp p.2)) ?_ (fun J => ?_)
        · obtain ⟨p_6, G_6, H⟩ := F_bd H
          refine ev_cv (d := d + 3) (As := [.int x_1, .int (if (gI σ 20 8) < 60 then 0 else 1 : Int32)]) (a := 46) (p' := 80) rfl rfl rfl ly_46 rfl rfl rfl rfl rfl rfl rfl (F_87_ok (d := d + 0) (ht := (Or.inr rfl)) (hr_46_3 := hr_46_3) G_6) ?_
          refine ev_st (st' := [.int p_6.1]) rfl ?_
          have e_6 := F_87_R G_6
          obtain rfl := Option.some.inj H
          exact ev_iret rfl rfl rfl rfl
        · by_cases c_5 : (gI σ 20 8) < 60
          · refine ev_b2 (t := 76) (p' := 76) rfl rfl rfl (if_pos c_5) ?_
            refine ev_x (i := .iconst 0) (len := 1) (p' := 77) (s' := [.int 0, .int x_1, .ref 46]) rfl rfl rfl ?_
            exact ev_st (congrArg (fun z => Value.int z :: [.int x_1, .ref 46]) (by rw [if_pos c_5])) J
          · refine ev_b2 (t := 76) (p' := 72) rfl rfl rfl (if_neg c_5) ?_
            refine ev_x (i := .iconst 1) (len := 1) (p' := 73) (s' := [.int 1, .int x_1, .ref 46]) rfl rfl rfl ?_
            refine ev_x (i := .goto 4) (len := 3) (p' := 77) (s' := [.int 1, .int x_1, .ref 46]) rfl rfl rfl ?_
            exact ev_st (congrArg (fun z => Value.int z :: [.int x_1, .ref 46]) (by rw [if_neg c_5])) J
      · refine F_if H (fun c_7 H => ?_) (fun c_7 H => ?_)
        · refine ev_st (st' := [.int 28]) (congrArg (fun z => Value.int z :: []) c_7) ?_
          refine ev_ts (off := 49) (t := 58) rfl rfl (by decide) rfl ?_
          refine ev_x (i := .aload_n 0) (len := 1) (p' := 59) (s' := [.ref 46]) rfl rfl rfl ?_
          refine ev_x (i := .iload_n 1) (len := 1) (p' := 60) (s' := [.int x_1, .ref 46]) rfl rfl rfl ?_
          refine ev_x (i := .aload_n 0) (len := 1) (p' := 61) (s' := [.ref 46, .int x_1, .ref 46]) rfl rfl rfl ?_
          refine ev_gr (p' := 64) (v := 20) rfl rfl rfl ly_46 rfl rfl hr_46_2 ?_
          refine ev_gi (p' := 67) (v := (gI σ 20 8)) rfl rfl rfl ly_20 rfl rfl rfl ?_
          refine ev_x (i := .bipush 60) (len := 2) (p' := 69) (s' := [.int 60, .int (gI σ 20 8), .int x_1, .ref 46]) rfl rfl rfl ?_
          refine F_jn (A := vz_ev P0 (d + 4) 84 77 [(0, .ref 46), (1, .int x_1)] [.int (if (gI σ 20 8) < 60 then 0 else 1 : Int32), .int x_1, .ref 46] (hp (σ)) (.inl (some (.int p.1)), hp p.2)) ?_ (fun J => ?_)
          · obtain ⟨p_9, G_9, H⟩ := F_bd H
            refine ev_cv (d := d + 3) (As := [.int x_1, .int (if (gI σ 20 8) < 60 then 0 else 1 : Int32)]) (a := 46) (p' := 80) rfl rfl rfl ly_46 rfl rfl rfl rfl rfl rfl rfl (F_87_ok (d := d + 0) (ht := (Or.inr rfl)) (hr_46_3 := hr_46_3) G_9) ?_
            refine ev_st (st' := [.int p_9.1]) rfl ?_
            have e_9 := F_87_R G_9
            obtain rfl := Option.some.inj H
            exact ev_iret rfl rfl rfl rfl
          · by_cases c_8 : (gI σ 20 8) < 60
            · refine ev_b2 (t := 76) (p' := 76) rfl rfl rfl (if_pos c_8) ?_
              refine ev_x (i := .iconst 0) (len := 1) (p' := 77) (s' := [.int 0, .int x_1, .ref 46]) rfl rfl rfl ?_
              exact ev_st (congrArg (fun z => Value.int z :: [.int x_1, .ref 46]) (by rw [if_pos c_8])) J
            · refine ev_b2 (t := 76) (p' := 72) rfl rfl rfl (if_neg c_8) ?_
              refine ev_x (i := .iconst 1) (len := 1) (p' := 73) (s' := [.int 1, .int x_1, .ref 46]) rfl rfl rfl ?_
              refine ev_x (i := .goto 4) (len := 3) (p' := 77) (s' := [.int 1, .int x_1, .ref 46]) rfl rfl rfl ?_
              exact ev_st (congrArg (fun z => Value.int z :: [.int x_1, .ref 46]) (by rw [if_neg c_8])) J
        · refine F_if H (fun c_10 H => ?_) (fun c_10 H => ?_)
          · refine ev_st (st' := [.int 29]) (congrArg (fun z => Value.int z :: []) c_10) ?_
            refine ev_ts (off := 72) (t := 81) rfl rfl (by decide) rfl ?_
            refine ev_x (i := .aload_n 0) (len := 1) (p' := 82) (s' := [.ref 46]) rfl rfl rfl ?_
            refine ev_x (i := .iconst (-1)) (len := 1) (p' := 83) (s' := [.int (-1), .ref 46]) rfl rfl rfl ?_
            refine ev_pi (p' := 86) rfl rfl rfl ly_46 rfl rfl rfl rfl ?_
            refine ev_x (i := .aload_n 0) (len := 1) (p' := 87) (s' := [.ref 46]) rfl rfl rfl ?_
            refine ev_x (i := .iload_n 1) (len := 1) (p' := 88) (s' := [.int x_1, .ref 46]) rfl rfl rfl ?_
            refine ev_x (i := .aload_n 0) (len := 1) (p' := 89) (s' := [.ref 46, .int x_1, .ref 46]) rfl rfl rfl ?_
            refine ev_gr (p' := 92) (v := 20) rfl rfl rfl ly_46 rfl rfl hr_46_2 ?_
            refine ev_gi (p' := 95) (v := (gI σ 20 7)) rfl rfl rfl ly_20 rfl rfl rfl ?_
            refine ev_x (i := .bipush 12) (len := 2) (p' := 97) (s' := [.int 12, .int (gI σ 20 7), .int x_1, .ref 46]) rfl rfl rfl ?_
            refine F_jn (A := vz_ev P0 (d + 4) 84 105 [(0, .ref 46), (1, .int x_1)] [.int (if (gI σ 20 7) < 12 then 0 else 1 : Int32), .int x_1, .ref 46] (hp (st_i (σ) 46 9 (-1))) (.inl (some (.int p.1)), hp p.2)) ?_ (fun J => ?_)
            · obtain ⟨p_12, G_12, H⟩ := F_bd H
              refine ev_cv (d := d + 3) (As := [.int x_1, .int (if (gI σ 20 7) < 12 then 0 else 1 : Int32)]) (a := 46) (p' := 108) rfl rfl rfl ly_46 rfl rfl rfl rfl rfl rfl rfl (F_87_ok (d := d + 0) (ht := (Or.inr rfl)) (hr_46_3 := hr_46_3) G_12) ?_
              refine ev_st (st' := [.int p_12.1]) rfl ?_
              have e_12 := F_87_R G_12
              obtain rfl := Option.some.inj H
              exact ev_iret rfl rfl rfl rfl
            · by_cases c_11 : (gI σ 20 7) < 12
              · refine ev_b2 (t := 104) (p' := 104) rfl rfl rfl (if_pos c_11) ?_
                refine ev_x (i := .iconst 0) (len := 1) (p' := 105) (s' := [.int 0, .int x_1, .ref 46]) rfl rfl rfl ?_
                exact ev_st (congrArg (fun z => Value.int z :: [.int x_1, .ref 46]) (by rw [if_pos c_11])) J
              · refine ev_b2 (t := 104) (p' := 100) rfl rfl rfl (if_neg c_11) ?_
                refine ev_x (i := .iconst 1) (len := 1) (p' := 101) (s' := [.int 1, .int x_1, .ref 46]) rfl rfl rfl ?_
                refine ev_x (i := .goto 4) (len := 3) (p' := 105) (s' := [.int 1, .int x_1, .ref 46]) rfl rfl rfl ?_
                exact ev_st (congrArg (fun z => Value.int z :: [.int x_1, .ref 46]) (by rw [if_neg c_11])) J
          · refine F_if H (fun c_13 H => ?_) (fun c_13 H => ?_)
            · refine ev_st (st' := [.int 30]) (congrArg (fun z => Value.int z :: []) c_13) ?_
              refine ev_ts (off := 100) (t := 109) rfl rfl (by decide) rfl ?_
              refine ev_x (i := .aload_n 0) (len := 1) (p' := 110) (s' := [.ref 46]) rfl rfl rfl ?_
              refine ev_x (i := .iload_n 1) (len := 1) (p' := 111) (s' := [.int x_1, .ref 46]) rfl rfl rfl ?_
              refine ev_pi (p' := 114) rfl rfl rfl ly_46 rfl rfl rfl rfl ?_
              refine ev_x (i := .aload_n 0) (len := 1) (p' := 115) (s' := [.ref 46]) rfl rfl rfl ?_
              refine ev_gr (p' := 118) (v := 20) rfl rfl rfl ly_46 rfl rfl hr_46_2 ?_
              refine ev_gi (p' := 121) (v := (gI σ 20 11)) rfl rfl rfl ly_20 rfl rfl rfl ?_
              refine F_if H (fun c_14 H => ?_) (fun c_14 H => ?_)
              · refine ev_b0 (t := 141) (p' := 141) rfl rfl rfl (if_pos c_14) ?_
                refine ev_x (i := .iconst 0) (len := 1) (p' := 142) (s' := [.int 0]) rfl rfl rfl ?_
                obtain rfl := Option.some.inj H
                exact ev_iret rfl rfl rfl rfl
              · refine ev_b0 (t := 141) (p' := 124) rfl rfl rfl (if_neg c_14) ?_
                refine ev_x (i := .aload_n 0) (len := 1) (p' := 125) (s' := [.ref 46]) rfl rfl rfl ?_
                refine ev_x (i := .iconst 4) (len := 1) (p' := 126) (s' := [.int 4, .ref 46]) rfl rfl rfl ?_
                refine ev_x (i := .aload_n 0) (len := 1) (p' := 127) (s' := [.ref 46, .int 4, .ref 46]) rfl rfl rfl ?_
                refine ev_gr (p' := 130) (v := 21) rfl rfl rfl ly_46 rfl rfl hr_46_3 ?_
                refine ev_gc (p' := 133) (v := 23) rfl rfl rfl ly_21 rfl rfl ?_
                refine ev_x (i := .iload_n 1) (len := 1) (p' := 134) (s' := [.int x_1, .ref 23, .int 4, .ref 46]) rfl rfl rfl ?_
                obtain ⟨b_15, H⟩ := F_gd H
                refine ev_ga (p' := 135) (v := (gE (σ) 23 (x_1 : Int32).toNatClampNeg)) rfl rfl ly_23 rfl (gd_in b_15) rfl ?_
                obtain ⟨p_16, G_16, H⟩ := F_bd H
                refine ev_cv (d := d + 3) (As := [.int 4, .int (gE (σ) 23 (x_1 : Int32).toNatClampNeg)]) (a := 46) (p' := 138) rfl rfl rfl ly_46 rfl rfl rfl rfl rfl rfl rfl (F_61_ok (d := d + 2)   G_16) ?_
                refine ev_st (st' := [.int p_16.1]) rfl ?_
                have e_16 := F_61_R G_16
                refine ev_x (i := .goto 4) (len := 3) (p' := 142) (s' := [.int p_16.1]) rfl rfl rfl ?_
                obtain rfl := Option.some.inj H
                exact ev_iret rfl rfl rfl rfl
            · refine F_if H (fun c_17 H => ?_) (fun c_17 H => ?_)
              · refine ev_st (st' := [.int 31]) (congrArg (fun z => Value.int z :: []) c_17) ?_
                refine ev_ts (off := 134) (t := 143) rfl rfl (by decide) rfl ?_
                refine ev_x (i := .aload_n 0) (len := 1) (p' := 144) (s' := [.ref 46]) rfl rfl rfl ?_
                refine ev_x (i := .iload_n 1) (len := 1) (p' := 145) (s' := [.int x_1, .ref 46]) rfl rfl rfl ?_
                refine ev_pi (p' := 148) rfl rfl rfl ly_46 rfl rfl rfl rfl ?_
                refine ev_x (i := .aload_n 0) (len := 1) (p' := 149) (s' := [.ref 46]) rfl rfl rfl ?_
                refine ev_x (i := .iconst (-1)) (len := 1) (p' := 150) (s' := [.int (-1), .ref 46]) rfl rfl rfl ?_
                refine ev_pi (p' := 153) rfl rfl rfl ly_46 rfl rfl rfl rfl ?_
                refine ev_x (i := .aload_n 0) (len := 1) (p' := 154) (s' := [.ref 46]) rfl rfl rfl ?_
                refine ev_x (i := .iconst 0) (len := 1) (p' := 155) (s' := [.int 0, .ref 46]) rfl rfl rfl ?_
                refine ev_pi (p' := 158) rfl rfl rfl ly_46 rfl rfl rfl rfl ?_
                refine ev_x (i := .aload_n 0) (len := 1) (p' := 159) (s' := [.ref 46]) rfl rfl rfl ?_
                refine ev_gr (p' := 162) (v := 20) rfl rfl rfl ly_46 rfl rfl hr_46_2 ?_
                refine ev_gi (p' := 165) (v := (gI σ 20 10)) rfl rfl rfl ly_20 rfl rfl rfl ?_
                refine ev_x (i := .bipush 60) (len := 2) (p' := 167) (s' := [.int 60, .int (gI σ 20 10)]) rfl rfl rfl ?_
                refine F_if H (fun c_18 H => ?_) (fun c_18 H => ?_)
                · refine ev_b2 (t := 187) (p' := 187) rfl rfl rfl (if_pos c_18) ?_
                  refine ev_x (i := .iconst 0) (len := 1) (p' := 188) (s' := [.int 0]) rfl rfl rfl ?_
                  obtain rfl := Option.some.inj H
                  exact ev_iret rfl rfl rfl rfl
                · refine ev_b2 (t := 187) (p' := 170) rfl rfl rfl (if_neg c_18) ?_
                  refine ev_x (i := .aload_n 0) (len := 1) (p' := 171) (s' := [.ref 46]) rfl rfl rfl ?_
                  refine ev_x (i := .iconst 5) (len := 1) (p' := 172) (s' := [.int 5, .ref 46]) rfl rfl rfl ?_
                  refine ev_x (i := .aload_n 0) (len := 1) (p' := 173) (s' := [.ref 46, .int 5, .ref 46]) rfl rfl rfl ?_
                  refine ev_gr (p' := 176) (v := 21) rfl rfl rfl ly_46 rfl rfl hr_46_3 ?_
                  refine ev_gc (p' := 179) (v := 23) rfl rfl rfl ly_21 rfl rfl ?_
                  refine ev_x (i := .iload_n 1) (len := 1) (p' := 180) (s' := [.int x_1, .ref 23, .int 5, .ref 46]) rfl rfl rfl ?_
                  obtain ⟨b_19, H⟩ := F_gd H
                  refine ev_ga (p' := 181) (v := (gE (σ) 23 (x_1 : Int32).toNatClampNeg)) rfl rfl ly_23 rfl (gd_in b_19) rfl ?_
                  obtain ⟨p_20, G_20, H⟩ := F_bd H
                  refine ev_cv (d := d + 3) (As := [.int 5, .int (gE (σ) 23 (x_1 : Int32).toNatClampNeg)]) (a := 46) (p' := 184) rfl rfl rfl ly_46 rfl rfl rfl rfl rfl rfl rfl (F_61_ok (d := d + 2)   G_20) ?_
                  refine ev_st (st' := [.int p_20.1]) rfl ?_
                  have e_20 := F_61_R G_20
                  refine ev_x (i := .goto 4) (len := 3) (p' := 188) (s' := [.int p_20.1]) rfl rfl rfl ?_
                  obtain rfl := Option.some.inj H
                  exact ev_iret rfl rfl rfl rfl
              · refine F_if H (fun c_21 H => ?_) (fun c_21 H => ?_)
                · refine ev_st (st' := [.int 32]) (congrArg (fun z => Value.int z :: []) c_21) ?_
                  refine ev_ts (off := 180) (t := 189) rfl rfl (by decide) rfl ?_
                  refine ev_x (i := .aload_n 0) (len := 1) (p' := 190) (s' := [.ref 46]) rfl rfl rfl ?_
                  refine ev_x (i := .iload_n 1) (len := 1) (p' := 191) (s' := [.int x_1, .ref 46]) rfl rfl rfl ?_
                  obtain ⟨p_22, G_22, H⟩ := F_bd H
                  refine ev_cv (d := d + 3) (As := [.int x_1]) (a := 46) (p' := 194) rfl rfl rfl ly_46 rfl rfl rfl rfl rfl rfl rfl (F_88_ok (d := d + 1) (ht := (Or.inr rfl)) (hr_46_3 := hr_46_3) G_22) ?_
                  refine ev_st (st' := [.int p_22.1]) rfl ?_
                  have e_22 := F_88_R G_22
                  obtain rfl := Option.some.inj H
                  exact ev_iret rfl rfl rfl rfl
                · have n_26 : (26 : Int) ≠ ((gE (σ) 22 (x_1 : Int32).toNatClampNeg) : Int32).toInt := i32_ne (k := 26) (by decide) c_2
                  have n_27 : (27 : Int) ≠ ((gE (σ) 22 (x_1 : Int32).toNatClampNeg) : Int32).toInt := i32_ne (k := 27) (by decide) c_4
                  have n_28 : (28 : Int) ≠ ((gE (σ) 22 (x_1 : Int32).toNatClampNeg) : Int32).toInt := i32_ne (k := 28) (by decide) c_7
                  have n_29 : (29 : Int) ≠ ((gE (σ) 22 (x_1 : Int32).toNatClampNeg) : Int32).toInt := i32_ne (k := 29) (by decide) c_10
                  have n_30 : (30 : Int) ≠ ((gE (σ) 22 (x_1 : Int32).toNatClampNeg) : Int32).toInt := i32_ne (k := 30) (by decide) c_13
                  have n_31 : (31 : Int) ≠ ((gE (σ) 22 (x_1 : Int32).toNatClampNeg) : Int32).toInt := i32_ne (k := 31) (by decide) c_17
                  have n_32 : (32 : Int) ≠ ((gE (σ) 22 (x_1 : Int32).toNatClampNeg) : Int32).toInt := i32_ne (k := 32) (by decide) c_21
                  refine ev_ts (off := 186) (t := 195) rfl rfl ?hsw rfl ?_
                  case hsw =>
                    by_cases hq : ((gE (σ) 22 (x_1 : Int32).toNatClampNeg) : Int32).toInt < 26 ∨ 32 < ((gE (σ) 22 (x_1 : Int32).toNatClampNeg) : Int32).toInt
                    · exact if_pos hq
                    · rw [if_neg hq]
                      exact absurd hq (by omega)
                  refine ev_x (i := .aload_n 0) (len := 1) (p' := 196) (s' := [.ref 46]) rfl rfl rfl ?_
                  refine ev_x (i := .iload_n 1) (len := 1) (p' := 197) (s' := [.int x_1, .ref 46]) rfl rfl rfl ?_
                  obtain ⟨p_23, G_23, H⟩ := F_bd H
                  refine ev_cv (d := d + 3) (As := [.int x_1]) (a := 46) (p' := 200) rfl rfl rfl ly_46 rfl rfl rfl rfl rfl rfl rfl (F_89_ok (d := d + 0) (ht := (Or.inr rfl)) (hr_46_3 := hr_46_3) G_23) ?_
                  refine ev_st (st' := [.int p_23.1]) rfl ?_
                  have e_23 := F_89_R G_23
                  obtain rfl := Option.some.inj H
                  exact ev_iret rfl rfl rfl rfl
/-- GameText$Machine.load(LGameText$Text;)V -/
def F_55 (N : Nat) (t : Nat) (σ : st_S) : Option (st_S) :=
  if 0 < gN σ 44 ∧ gN σ 44 < 2 ^ 31 then
  some (st_fl (st_i (st_r (st_r (σ) 42 3 t) 42 4 (t + 1)) 42 5 1) 44 0)
  else none
set_option maxRecDepth 100000 in
theorem F_55_R {N : Nat} {t : Nat} {σ : st_S} {p : st_S} (H : F_55 N t σ = some p) : gR p = gR (st_r (st_r (σ) 42 3 t) 42 4 (t + 1)) := by
  unfold F_55 at H
  obtain ⟨_, H⟩ := F_gd H
  obtain rfl := Option.some.inj H
  exact rfl
set_option maxHeartbeats 4000000 in
set_option maxRecDepth 100000 in
theorem F_55_ok {N d : Nat} {t : Nat} (ht : t = 4 ∨ t = 20) {σ : st_S} {p : st_S}  (H : F_55 N t σ = some p) : vz_ev P0 (d + 2) 55 0 (lv_args 0 [.ref 42, .ref t]) [] (hp σ) (.inl none, hp p) := by
  unfold F_55 at H
  rcases ht with rfl | rfl
  · refine ev_x (i := .aload_n 0) (len := 1) (p' := 1) (s' := [.ref 42]) rfl rfl rfl ?_
    refine ev_x (i := .aload_n 1) (len := 1) (p' := 2) (s' := [.ref 4, .ref 42]) rfl rfl rfl ?_
    refine ev_pr (p' := 5) rfl rfl rfl ly_42 rfl rfl rfl rfl rfl ?_
    refine ev_x (i := .aload_n 0) (len := 1) (p' := 6) (s' := [.ref 42]) rfl rfl rfl ?_
    refine ev_x (i := .aload_n 1) (len := 1) (p' := 7) (s' := [.ref 4, .ref 42]) rfl rfl rfl ?_
    refine ev_gc (p' := 10) (v := 5) rfl rfl rfl ly_4 rfl rfl ?_
    refine ev_pr (p' := 13) rfl rfl rfl ly_42 rfl rfl rfl rfl rfl ?_
    refine ev_x (i := .aload_n 0) (len := 1) (p' := 14) (s' := [.ref 42]) rfl rfl rfl ?_
    refine ev_x (i := .iconst 1) (len := 1) (p' := 15) (s' := [.int 1, .ref 42]) rfl rfl rfl ?_
    refine ev_pi (p' := 18) rfl rfl rfl ly_42 rfl rfl rfl rfl ?_
    refine ev_x (i := .aload_n 0) (len := 1) (p' := 19) (s' := [.ref 42]) rfl rfl rfl ?_
    refine ev_gc (p' := 22) (v := 44) rfl rfl rfl ly_42 rfl rfl ?_
    refine ev_x (i := .iconst 0) (len := 1) (p' := 23) (s' := [.int 0, .ref 44]) rfl rfl rfl ?_
    obtain ⟨b_1, H⟩ := F_gd H
    refine ev_callS (d := d + 1) (As := [.ref 44, .int 0]) rfl rfl rfl (by decide) rfl rfl rfl rfl rfl (fl_ok (d := d + 1) ly_44 rfl b_1.2 b_1.1) ?_
    refine ev_st (st' := []) rfl ?_
    refine ev_pc (pc' := 26) rfl ?_
    obtain rfl := Option.some.inj H
    exact ev_vret rfl rfl rfl
  · refine ev_x (i := .aload_n 0) (len := 1) (p' := 1) (s' := [.ref 42]) rfl rfl rfl ?_
    refine ev_x (i := .aload_n 1) (len := 1) (p' := 2) (s' := [.ref 20, .ref 42]) rfl rfl rfl ?_
    refine ev_pr (p' := 5) rfl rfl rfl ly_42 rfl rfl rfl rfl rfl ?_
    refine ev_x (i := .aload_n 0) (len := 1) (p' := 6) (s' := [.ref 42]) rfl rfl rfl ?_
    refine ev_x (i := .aload_n 1) (len := 1) (p' := 7) (s' := [.ref 20, .ref 42]) rfl rfl rfl ?_
    refine ev_gc (p' := 10) (v := 21) rfl rfl rfl ly_20 rfl rfl ?_
    refine ev_pr (p' := 13) rfl rfl rfl ly_42 rfl rfl rfl rfl rfl ?_
    refine ev_x (i := .aload_n 0) (len := 1) (p' := 14) (s' := [.ref 42]) rfl rfl rfl ?_
    refine ev_x (i := .iconst 1) (len := 1) (p' := 15) (s' := [.int 1, .ref 42]) rfl rfl rfl ?_
    refine ev_pi (p' := 18) rfl rfl rfl ly_42 rfl rfl rfl rfl ?_
    refine ev_x (i := .aload_n 0) (len := 1) (p' := 19) (s' := [.ref 42]) rfl rfl rfl ?_
    refine ev_gc (p' := 22) (v := 44) rfl rfl rfl ly_42 rfl rfl ?_
    refine ev_x (i := .iconst 0) (len := 1) (p' := 23) (s' := [.int 0, .ref 44]) rfl rfl rfl ?_
    obtain ⟨b_1, H⟩ := F_gd H
    refine ev_callS (d := d + 1) (As := [.ref 44, .int 0]) rfl rfl rfl (by decide) rfl rfl rfl rfl rfl (fl_ok (d := d + 1) ly_44 rfl b_1.2 b_1.1) ?_
    refine ev_st (st' := []) rfl ?_
    refine ev_pc (pc' := 26) rfl ?_
    obtain rfl := Option.some.inj H
    exact ev_vret rfl rfl rfl
/-- GameText$Checker.checks(LGameText$Text;)I, its loops -/
def L_53 (N : Nat) (t : Nat) : Nat → Int32 → st_S → Option (Int32 × st_S)
  | 0, _, _ => none
  | k + 1, l_2, σ =>
      if (gI σ (t + 1) 8) ≤ l_2 then
        if 0 ≤ (gI σ t 11) then
          some (0, σ)
        else
          (F_61 N 10 (gI σ 2 1) (σ)).bind fun p_5 =>
          some (p_5.1, p_5.2)
      else
        if aB l_2 (gN σ (t + 2)) then
        if 26 ≤ (gE (σ) (t + 2) (l_2 : Int32).toNatClampNeg) then
          if (gE (σ) (t + 2) (l_2 : Int32).toNatClampNeg) = 34 then
            (F_67 N t (σ)).bind fun p_9 =>
            if p_9.1 = 0 then
              L_53 N t k (l_2 + 1) (p_9.2)
            else
              some (p_9.1, p_9.2)
          else
            (F_84 N t l_2 (σ)).bind fun p_11 =>
            if p_11.1 = 0 then
              L_53 N t k (l_2 + 1) (p_11.2)
            else
              some (p_11.1, p_11.2)
        else
          (F_57 N t l_2 (σ)).bind fun p_13 =>
          if p_13.1 = 0 then
            L_53 N t k (l_2 + 1) (p_13.2)
          else
            some (p_13.1, p_13.2)
        else none
set_option maxRecDepth 100000 in
theorem L_53_R {N : Nat} {t : Nat} : ∀ (k : Nat) (l_2 : Int32) (σ : st_S) (p : Int32 × st_S), L_53 N t k l_2 σ = some p → gR p.2 = gR σ := by
  intro k
  induction k with
  | zero => intro l_2 σ p H; unfold L_53 at H; cases H
  | succ k ih =>
    intro l_2 σ p H
    unfold L_53 at H
    refine F_if H (fun _ H => ?_) (fun _ H => ?_)
    · refine F_if H (fun _ H => ?_) (fun _ H => ?_)
      · obtain rfl := Option.some.inj H
        exact rfl
      · obtain ⟨p_5, G_5, H⟩ := F_bd H
        obtain rfl := Option.some.inj H
        exact ((F_61_R G_5).trans rfl)
    · obtain ⟨_, H⟩ := F_gd H
      refine F_if H (fun _ H => ?_) (fun _ H => ?_)
      · refine F_if H (fun _ H => ?_) (fun _ H => ?_)
        · obtain ⟨p_9, G_9, H⟩ := F_bd H
          refine F_if H (fun _ H => ?_) (fun _ H => ?_)
          · exact (((ih _ _ _ H)).trans ((F_67_R G_9).trans rfl))
          · obtain rfl := Option.some.inj H
            exact ((F_67_R G_9).trans rfl)
        · obtain ⟨p_11, G_11, H⟩ := F_bd H
          refine F_if H (fun _ H => ?_) (fun _ H => ?_)
          · exact (((ih _ _ _ H)).trans ((F_84_R G_11).trans rfl))
          · obtain rfl := Option.some.inj H
            exact ((F_84_R G_11).trans rfl)
      · obtain ⟨p_13, G_13, H⟩ := F_bd H
        refine F_if H (fun _ H => ?_) (fun _ H => ?_)
        · exact (((ih _ _ _ H)).trans ((F_57_R G_13).trans rfl))
        · obtain rfl := Option.some.inj H
          exact ((F_57_R G_13).trans rfl)
set_option maxHeartbeats 4000000 in
set_option maxRecDepth 100000 in
theorem L_53_ok {N d : Nat} {t : Nat} (ht : t = 4 ∨ t = 20) : ∀ k : Nat, ∀ (l_2 : Int32) (σ : st_S) (lv : vz_L) (p : Int32 × st_S), vz_g lv 0 = some (.ref 46) → vz_g lv 2 = some (.int l_2) → vz_nbL (vz_gr P0) lv = true → gR σ 42 3 = t → gR σ 42 4 = (t + 1) → gR σ 46 2 = t → gR σ 46 3 = (t + 1) → L_53 N t k l_2 σ = some p → vz_ev P0 (d + 7) 53 46 lv [] (hp σ) (.inl (some (.int p.1)), hp p.2) := by
  rcases ht with rfl | rfl
  · intro k
    induction k with
    | zero => intro l_2 σ lv p g_0 g_2 hnb hr_42_3 hr_42_4 hr_46_2 hr_46_3 H; unfold L_53 at H; cases H
    | succ k ih =>
      intro l_2 σ lv p g_0 g_2 hnb hr_42_3 hr_42_4 hr_46_2 hr_46_3 H
      unfold L_53 at H
      refine ev_x (i := .iload_n 2) (len := 1) (p' := 47) (s' := [.int l_2]) rfl rfl (ld_i g_2) ?_
      refine ev_x (i := .aload_n 0) (len := 1) (p' := 48) (s' := [.ref 46, .int l_2]) rfl rfl (ld_a g_0) ?_
      refine ev_gr (p' := 51) (v := 5) rfl rfl rfl ly_46 rfl rfl hr_46_3 ?_
      refine ev_gi (p' := 54) (v := (gI σ 5 8)) rfl rfl rfl ly_5 rfl rfl rfl ?_
      refine F_if H (fun c_3 H => ?_) (fun c_3 H => ?_)
      · refine ev_b2 (t := 120) (p' := 120) rfl rfl rfl (if_pos c_3) ?_
        refine ev_x (i := .aload_n 0) (len := 1) (p' := 121) (s' := [.ref 46]) rfl rfl (ld_a g_0) ?_
        refine ev_gr (p' := 124) (v := 4) rfl rfl rfl ly_46 rfl rfl hr_46_2 ?_
        refine ev_gi (p' := 127) (v := (gI σ 4 11)) rfl rfl rfl ly_4 rfl rfl rfl ?_
        refine F_if H (fun c_4 H => ?_) (fun c_4 H => ?_)
        · refine ev_b0 (t := 149) (p' := 149) rfl rfl rfl (if_pos c_4) ?_
          refine ev_x (i := .iconst 0) (len := 1) (p' := 150) (s' := [.int 0]) rfl rfl rfl ?_
          obtain rfl := Option.some.inj H
          exact ev_iret rfl rfl rfl rfl
        · refine ev_b0 (t := 149) (p' := 130) rfl rfl rfl (if_neg c_4) ?_
          refine ev_x (i := .aload_n 0) (len := 1) (p' := 131) (s' := [.ref 46]) rfl rfl (ld_a g_0) ?_
          refine ev_x (i := .bipush 10) (len := 2) (p' := 133) (s' := [.int 10, .ref 46]) rfl rfl rfl ?_
          refine ev_x (i := .aload_n 0) (len := 1) (p' := 134) (s' := [.ref 46, .int 10, .ref 46]) rfl rfl (ld_a g_0) ?_
          refine ev_gc (p' := 137) (v := 47) rfl rfl rfl ly_46 rfl rfl ?_
          refine ev_gc (p' := 140) (v := 2) rfl rfl rfl ly_47 rfl rfl ?_
          refine ev_gi (p' := 143) (v := (gI σ 2 1)) rfl rfl rfl ly_2 rfl rfl rfl ?_
          obtain ⟨p_5, G_5, H⟩ := F_bd H
          refine ev_cv (d := d + 6) (As := [.int 10, .int (gI σ 2 1)]) (a := 46) (p' := 146) rfl rfl rfl ly_46 rfl rfl rfl rfl rfl hnb rfl (F_61_ok (d := d + 5)   G_5) ?_
          refine ev_st (st' := [.int p_5.1]) rfl ?_
          have e_5 := F_61_R G_5
          refine ev_x (i := .goto 4) (len := 3) (p' := 150) (s' := [.int p_5.1]) rfl rfl rfl ?_
          obtain rfl := Option.some.inj H
          exact ev_iret rfl rfl rfl rfl
      · refine ev_b2 (t := 120) (p' := 57) rfl rfl rfl (if_neg c_3) ?_
        refine ev_x (i := .aload_n 0) (len := 1) (p' := 58) (s' := [.ref 46]) rfl rfl (ld_a g_0) ?_
        refine ev_gr (p' := 61) (v := 5) rfl rfl rfl ly_46 rfl rfl hr_46_3 ?_
        refine ev_gc (p' := 64) (v := 6) rfl rfl rfl ly_5 rfl rfl ?_
        refine ev_x (i := .iload_n 2) (len := 1) (p' := 65) (s' := [.int l_2, .ref 6]) rfl rfl (ld_i g_2) ?_
        obtain ⟨b_6, H⟩ := F_gd H
        refine ev_ga (p' := 66) (v := (gE (σ) 6 (l_2 : Int32).toNatClampNeg)) rfl rfl ly_6 rfl (gd_in b_6) rfl ?_
        refine ev_x (i := .istore_n 3) (len := 1) (p' := 67) (s' := []) (l' := vz_s1 (lv) 3 (.int (gE (σ) 6 (l_2 : Int32).toNatClampNeg))) rfl rfl rfl ?_
        refine ev_x (i := .iconst 0) (len := 1) (p' := 68) (s' := [.int 0]) rfl rfl rfl ?_
        refine ev_x (i := .istore 4) (len := 2) (p' := 70) (s' := []) (l' := vz_s1 (vz_s1 (lv) 3 (.int (gE (σ) 6 (l_2 : Int32).toNatClampNeg))) 4 (.int 0)) rfl rfl rfl ?_
        refine ev_x (i := .iload_n 3) (len := 1) (p' := 71) (s' := [.int (gE (σ) 6 (l_2 : Int32).toNatClampNeg)]) rfl rfl (ld_i (vg_o (i := 4) (v := .int 0) (vg_s (lv) 3 (.int (gE (σ) 6 (l_2 : Int32).toNatClampNeg))) (by decide) (Or.inl rfl))) ?_
        refine ev_x (i := .bipush 26) (len := 2) (p' := 73) (s' := [.int 26, .int (gE (σ) 6 (l_2 : Int32).toNatClampNeg)]) rfl rfl rfl ?_
        refine F_if H (fun c_7 H => ?_) (fun c_7 H => ?_)
        · refine ev_b2 (t := 86) (p' := 86) rfl rfl rfl (if_pos c_7) ?_
          refine ev_x (i := .iload_n 3) (len := 1) (p' := 87) (s' := [.int (gE (σ) 6 (l_2 : Int32).toNatClampNeg)]) rfl rfl (ld_i (vg_o (i := 4) (v := .int 0) (vg_s (lv) 3 (.int (gE (σ) 6 (l_2 : Int32).toNatClampNeg))) (by decide) (Or.inl rfl))) ?_
          refine ev_x (i := .bipush 34) (len := 2) (p' := 89) (s' := [.int 34, .int (gE (σ) 6 (l_2 : Int32).toNatClampNeg)]) rfl rfl rfl ?_
          refine F_if H (fun c_8 H => ?_) (fun c_8 H => ?_)
          · refine ev_b2 (t := 99) (p' := 92) rfl rfl rfl (if_neg (fun q => q c_8)) ?_
            refine ev_x (i := .aload_n 0) (len := 1) (p' := 93) (s' := [.ref 46]) rfl rfl (ld_a (vg_o (i := 4) (v := .int 0) (vg_o (i := 3) (v := .int (gE (σ) 6 (l_2 : Int32).toNatClampNeg)) g_0 (by decide) (Or.inl rfl)) (by decide) (Or.inl rfl))) ?_
            obtain ⟨p_9, G_9, H⟩ := F_bd H
            refine ev_cv (d := d + 6) (As := []) (a := 46) (p' := 96) rfl rfl rfl ly_46 rfl rfl rfl rfl rfl (nb_s1 (nb_s1 hnb rfl) rfl) rfl (F_67_ok (d := d + 0) (ht := (Or.inl rfl)) (hr_42_3 := hr_42_3) (hr_42_4 := hr_42_4) (hr_46_2 := hr_46_2) (hr_46_3 := hr_46_3) G_9) ?_
            refine ev_st (st' := [.int p_9.1]) rfl ?_
            have e_9 := F_67_R G_9
            refine ev_x (i := .goto 8) (len := 3) (p' := 104) (s' := [.int p_9.1]) rfl rfl rfl ?_
            refine ev_x (i := .istore 4) (len := 2) (p' := 106) (s' := []) (l' := vz_s1 (vz_s1 (vz_s1 (lv) 3 (.int (gE (σ) 6 (l_2 : Int32).toNatClampNeg))) 4 (.int 0)) 4 (.int p_9.1)) rfl rfl rfl ?_
            refine ev_x (i := .iload 4) (len := 2) (p' := 108) (s' := [.int p_9.1]) rfl rfl (ld_i (vg_s (vz_s1 (vz_s1 (lv) 3 (.int (gE (σ) 6 (l_2 : Int32).toNatClampNeg))) 4 (.int 0)) 4 (.int p_9.1))) ?_
            refine F_if H (fun c_10 H => ?_) (fun c_10 H => ?_)
            · refine ev_b0 (t := 114) (p' := 114) rfl rfl rfl (if_pos c_10) ?_
              refine ev_x (i := .iinc 2 1) (len := 3) (p' := 117) (s' := []) (l' := vz_s1 (vz_s1 (vz_s1 (vz_s1 (lv) 3 (.int (gE (σ) 6 (l_2 : Int32).toNatClampNeg))) 4 (.int 0)) 4 (.int p_9.1)) 2 (.int (l_2 + 1))) rfl rfl (ld_inc (vg_o (i := 4) (v := .int p_9.1) (vg_o (i := 4) (v := .int 0) (vg_o (i := 3) (v := .int (gE (σ) 6 (l_2 : Int32).toNatClampNeg)) g_2 (by decide) (Or.inl rfl)) (by decide) (Or.inl rfl)) (by decide) (Or.inl rfl)) rfl) ?_
              refine ev_x (i := .goto (-71)) (len := 3) (p' := 46) (s' := []) rfl rfl rfl ?_
              exact ih _ _ _ _ (vg_o (i := 2) (v := .int (l_2 + 1)) (vg_o (i := 4) (v := .int p_9.1) (vg_o (i := 4) (v := .int 0) (vg_o (i := 3) (v := .int (gE (σ) 6 (l_2 : Int32).toNatClampNeg)) g_0 (by decide) (Or.inl rfl)) (by decide) (Or.inl rfl)) (by decide) (Or.inl rfl)) (by decide) (Or.inl rfl)) (vg_s (vz_s1 (vz_s1 (vz_s1 (lv) 3 (.int (gE (σ) 6 (l_2 : Int32).toNatClampNeg))) 4 (.int 0)) 4 (.int p_9.1)) 2 (.int (l_2 + 1))) (nb_s1 (nb_s1 (nb_s1 (nb_s1 hnb rfl) rfl) rfl) rfl) ((congrFun (congrFun e_9 42) 3).trans hr_42_3) ((congrFun (congrFun e_9 42) 4).trans hr_42_4) ((congrFun (congrFun e_9 46) 2).trans hr_46_2) ((congrFun (congrFun e_9 46) 3).trans hr_46_3) H
            · refine ev_b0 (t := 114) (p' := 111) rfl rfl rfl (if_neg c_10) ?_
              refine ev_x (i := .iload 4) (len := 2) (p' := 113) (s' := [.int p_9.1]) rfl rfl (ld_i (vg_s (vz_s1 (vz_s1 (lv) 3 (.int (gE (σ) 6 (l_2 : Int32).toNatClampNeg))) 4 (.int 0)) 4 (.int p_9.1))) ?_
              obtain rfl := Option.some.inj H
              exact ev_iret rfl rfl rfl rfl
          · refine ev_b2 (t := 99) (p' := 99) rfl rfl rfl (if_pos c_8) ?_
            refine ev_x (i := .aload_n 0) (len := 1) (p' := 100) (s' := [.ref 46]) rfl rfl (ld_a (vg_o (i := 4) (v := .int 0) (vg_o (i := 3) (v := .int (gE (σ) 6 (l_2 : Int32).toNatClampNeg)) g_0 (by decide) (Or.inl rfl)) (by decide) (Or.inl rfl))) ?_
            refine ev_x (i := .iload_n 2) (len := 1) (p' := 101) (s' := [.int l_2, .ref 46]) rfl rfl (ld_i (vg_o (i := 4) (v := .int 0) (vg_o (i := 3) (v := .int (gE (σ) 6 (l_2 : Int32).toNatClampNeg)) g_2 (by decide) (Or.inl rfl)) (by decide) (Or.inl rfl))) ?_
            obtain ⟨p_11, G_11, H⟩ := F_bd H
            refine ev_cv (d := d + 6) (As := [.int l_2]) (a := 46) (p' := 104) rfl rfl rfl ly_46 rfl rfl rfl rfl rfl (nb_s1 (nb_s1 hnb rfl) rfl) rfl (F_84_ok (d := d + 2) (ht := (Or.inl rfl)) (hr_46_2 := hr_46_2) (hr_46_3 := hr_46_3) G_11) ?_
            refine ev_st (st' := [.int p_11.1]) rfl ?_
            have e_11 := F_84_R G_11
            refine ev_x (i := .istore 4) (len := 2) (p' := 106) (s' := []) (l' := vz_s1 (vz_s1 (vz_s1 (lv) 3 (.int (gE (σ) 6 (l_2 : Int32).toNatClampNeg))) 4 (.int 0)) 4 (.int p_11.1)) rfl rfl rfl ?_
            refine ev_x (i := .iload 4) (len := 2) (p' := 108) (s' := [.int p_11.1]) rfl rfl (ld_i (vg_s (vz_s1 (vz_s1 (lv) 3 (.int (gE (σ) 6 (l_2 : Int32).toNatClampNeg))) 4 (.int 0)) 4 (.int p_11.1))) ?_
            refine F_if H (fun c_12 H => ?_) (fun c_12 H => ?_)
            · refine ev_b0 (t := 114) (p' := 114) rfl rfl rfl (if_pos c_12) ?_
              refine ev_x (i := .iinc 2 1) (len := 3) (p' := 117) (s' := []) (l' := vz_s1 (vz_s1 (vz_s1 (vz_s1 (lv) 3 (.int (gE (σ) 6 (l_2 : Int32).toNatClampNeg))) 4 (.int 0)) 4 (.int p_11.1)) 2 (.int (l_2 + 1))) rfl rfl (ld_inc (vg_o (i := 4) (v := .int p_11.1) (vg_o (i := 4) (v := .int 0) (vg_o (i := 3) (v := .int (gE (σ) 6 (l_2 : Int32).toNatClampNeg)) g_2 (by decide) (Or.inl rfl)) (by decide) (Or.inl rfl)) (by decide) (Or.inl rfl)) rfl) ?_
              refine ev_x (i := .goto (-71)) (len := 3) (p' := 46) (s' := []) rfl rfl rfl ?_
              exact ih _ _ _ _ (vg_o (i := 2) (v := .int (l_2 + 1)) (vg_o (i := 4) (v := .int p_11.1) (vg_o (i := 4) (v := .int 0) (vg_o (i := 3) (v := .int (gE (σ) 6 (l_2 : Int32).toNatClampNeg)) g_0 (by decide) (Or.inl rfl)) (by decide) (Or.inl rfl)) (by decide) (Or.inl rfl)) (by decide) (Or.inl rfl)) (vg_s (vz_s1 (vz_s1 (vz_s1 (lv) 3 (.int (gE (σ) 6 (l_2 : Int32).toNatClampNeg))) 4 (.int 0)) 4 (.int p_11.1)) 2 (.int (l_2 + 1))) (nb_s1 (nb_s1 (nb_s1 (nb_s1 hnb rfl) rfl) rfl) rfl) ((congrFun (congrFun e_11 42) 3).trans hr_42_3) ((congrFun (congrFun e_11 42) 4).trans hr_42_4) ((congrFun (congrFun e_11 46) 2).trans hr_46_2) ((congrFun (congrFun e_11 46) 3).trans hr_46_3) H
            · refine ev_b0 (t := 114) (p' := 111) rfl rfl rfl (if_neg c_12) ?_
              refine ev_x (i := .iload 4) (len := 2) (p' := 113) (s' := [.int p_11.1]) rfl rfl (ld_i (vg_s (vz_s1 (vz_s1 (lv) 3 (.int (gE (σ) 6 (l_2 : Int32).toNatClampNeg))) 4 (.int 0)) 4 (.int p_11.1))) ?_
              obtain rfl := Option.some.inj H
              exact ev_iret rfl rfl rfl rfl
        · refine ev_b2 (t := 86) (p' := 76) rfl rfl rfl (if_neg c_7) ?_
          refine ev_x (i := .aload_n 0) (len := 1) (p' := 77) (s' := [.ref 46]) rfl rfl (ld_a (vg_o (i := 4) (v := .int 0) (vg_o (i := 3) (v := .int (gE (σ) 6 (l_2 : Int32).toNatClampNeg)) g_0 (by decide) (Or.inl rfl)) (by decide) (Or.inl rfl))) ?_
          refine ev_x (i := .iload_n 2) (len := 1) (p' := 78) (s' := [.int l_2, .ref 46]) rfl rfl (ld_i (vg_o (i := 4) (v := .int 0) (vg_o (i := 3) (v := .int (gE (σ) 6 (l_2 : Int32).toNatClampNeg)) g_2 (by decide) (Or.inl rfl)) (by decide) (Or.inl rfl))) ?_
          obtain ⟨p_13, G_13, H⟩ := F_bd H
          refine ev_cv (d := d + 6) (As := [.int l_2]) (a := 46) (p' := 81) rfl rfl rfl ly_46 rfl rfl rfl rfl rfl (nb_s1 (nb_s1 hnb rfl) rfl) rfl (F_57_ok (d := d + 2) (ht := (Or.inl rfl)) (hr_46_2 := hr_46_2) (hr_46_3 := hr_46_3) G_13) ?_
          refine ev_st (st' := [.int p_13.1]) rfl ?_
          have e_13 := F_57_R G_13
          refine ev_x (i := .istore 4) (len := 2) (p' := 83) (s' := []) (l' := vz_s1 (vz_s1 (vz_s1 (lv) 3 (.int (gE (σ) 6 (l_2 : Int32).toNatClampNeg))) 4 (.int 0)) 4 (.int p_13.1)) rfl rfl rfl ?_
          refine ev_x (i := .goto 23) (len := 3) (p' := 106) (s' := []) rfl rfl rfl ?_
          refine ev_x (i := .iload 4) (len := 2) (p' := 108) (s' := [.int p_13.1]) rfl rfl (ld_i (vg_s (vz_s1 (vz_s1 (lv) 3 (.int (gE (σ) 6 (l_2 : Int32).toNatClampNeg))) 4 (.int 0)) 4 (.int p_13.1))) ?_
          refine F_if H (fun c_14 H => ?_) (fun c_14 H => ?_)
          · refine ev_b0 (t := 114) (p' := 114) rfl rfl rfl (if_pos c_14) ?_
            refine ev_x (i := .iinc 2 1) (len := 3) (p' := 117) (s' := []) (l' := vz_s1 (vz_s1 (vz_s1 (vz_s1 (lv) 3 (.int (gE (σ) 6 (l_2 : Int32).toNatClampNeg))) 4 (.int 0)) 4 (.int p_13.1)) 2 (.int (l_2 + 1))) rfl rfl (ld_inc (vg_o (i := 4) (v := .int p_13.1) (vg_o (i := 4) (v := .int 0) (vg_o (i := 3) (v := .int (gE (σ) 6 (l_2 : Int32).toNatClampNeg)) g_2 (by decide) (Or.inl rfl)) (by decide) (Or.inl rfl)) (by decide) (Or.inl rfl)) rfl) ?_
            refine ev_x (i := .goto (-71)) (len := 3) (p' := 46) (s' := []) rfl rfl rfl ?_
            exact ih _ _ _ _ (vg_o (i := 2) (v := .int (l_2 + 1)) (vg_o (i := 4) (v := .int p_13.1) (vg_o (i := 4) (v := .int 0) (vg_o (i := 3) (v := .int (gE (σ) 6 (l_2 : Int32).toNatClampNeg)) g_0 (by decide) (Or.inl rfl)) (by decide) (Or.inl rfl)) (by decide) (Or.inl rfl)) (by decide) (Or.inl rfl)) (vg_s (vz_s1 (vz_s1 (vz_s1 (lv) 3 (.int (gE (σ) 6 (l_2 : Int32).toNatClampNeg))) 4 (.int 0)) 4 (.int p_13.1)) 2 (.int (l_2 + 1))) (nb_s1 (nb_s1 (nb_s1 (nb_s1 hnb rfl) rfl) rfl) rfl) ((congrFun (congrFun e_13 42) 3).trans hr_42_3) ((congrFun (congrFun e_13 42) 4).trans hr_42_4) ((congrFun (congrFun e_13 46) 2).trans hr_46_2) ((congrFun (congrFun e_13 46) 3).trans hr_46_3) H
          · refine ev_b0 (t := 114) (p' := 111) rfl rfl rfl (if_neg c_14) ?_
            refine ev_x (i := .iload 4) (len := 2) (p' := 113) (s' := [.int p_13.1]) rfl rfl (ld_i (vg_s (vz_s1 (vz_s1 (lv) 3 (.int (gE (σ) 6 (l_2 : Int32).toNatClampNeg))) 4 (.int 0)) 4 (.int p_13.1))) ?_
            obtain rfl := Option.some.inj H
            exact ev_iret rfl rfl rfl rfl
  · intro k
    induction k with
    | zero => intro l_2 σ lv p g_0 g_2 hnb hr_42_3 hr_42_4 hr_46_2 hr_46_3 H; unfold L_53 at H; cases H
    | succ k ih =>
      intro l_2 σ lv p g_0 g_2 hnb hr_42_3 hr_42_4 hr_46_2 hr_46_3 H
      unfold L_53 at H
      refine ev_x (i := .iload_n 2) (len := 1) (p' := 47) (s' := [.int l_2]) rfl rfl (ld_i g_2) ?_
      refine ev_x (i := .aload_n 0) (len := 1) (p' := 48) (s' := [.ref 46, .int l_2]) rfl rfl (ld_a g_0) ?_
      refine ev_gr (p' := 51) (v := 21) rfl rfl rfl ly_46 rfl rfl hr_46_3 ?_
      refine ev_gi (p' := 54) (v := (gI σ 21 8)) rfl rfl rfl ly_21 rfl rfl rfl ?_
      refine F_if H (fun c_3 H => ?_) (fun c_3 H => ?_)
      · refine ev_b2 (t := 120) (p' := 120) rfl rfl rfl (if_pos c_3) ?_
        refine ev_x (i := .aload_n 0) (len := 1) (p' := 121) (s' := [.ref 46]) rfl rfl (ld_a g_0) ?_
        refine ev_gr (p' := 124) (v := 20) rfl rfl rfl ly_46 rfl rfl hr_46_2 ?_
        refine ev_gi (p' := 127) (v := (gI σ 20 11)) rfl rfl rfl ly_20 rfl rfl rfl ?_
        refine F_if H (fun c_4 H => ?_) (fun c_4 H => ?_)
        · refine ev_b0 (t := 149) (p' := 149) rfl rfl rfl (if_pos c_4) ?_
          refine ev_x (i := .iconst 0) (len := 1) (p' := 150) (s' := [.int 0]) rfl rfl rfl ?_
          obtain rfl := Option.some.inj H
          exact ev_iret rfl rfl rfl rfl
        · refine ev_b0 (t := 149) (p' := 130) rfl rfl rfl (if_neg c_4) ?_
          refine ev_x (i := .aload_n 0) (len := 1) (p' := 131) (s' := [.ref 46]) rfl rfl (ld_a g_0) ?_
          refine ev_x (i := .bipush 10) (len := 2) (p' := 133) (s' := [.int 10, .ref 46]) rfl rfl rfl ?_
          refine ev_x (i := .aload_n 0) (len := 1) (p' := 134) (s' := [.ref 46, .int 10, .ref 46]) rfl rfl (ld_a g_0) ?_
          refine ev_gc (p' := 137) (v := 47) rfl rfl rfl ly_46 rfl rfl ?_
          refine ev_gc (p' := 140) (v := 2) rfl rfl rfl ly_47 rfl rfl ?_
          refine ev_gi (p' := 143) (v := (gI σ 2 1)) rfl rfl rfl ly_2 rfl rfl rfl ?_
          obtain ⟨p_5, G_5, H⟩ := F_bd H
          refine ev_cv (d := d + 6) (As := [.int 10, .int (gI σ 2 1)]) (a := 46) (p' := 146) rfl rfl rfl ly_46 rfl rfl rfl rfl rfl hnb rfl (F_61_ok (d := d + 5)   G_5) ?_
          refine ev_st (st' := [.int p_5.1]) rfl ?_
          have e_5 := F_61_R G_5
          refine ev_x (i := .goto 4) (len := 3) (p' := 150) (s' := [.int p_5.1]) rfl rfl rfl ?_
          obtain rfl := Option.some.inj H
          exact ev_iret rfl rfl rfl rfl
      · refine ev_b2 (t := 120) (p' := 57) rfl rfl rfl (if_neg c_3) ?_
        refine ev_x (i := .aload_n 0) (len := 1) (p' := 58) (s' := [.ref 46]) rfl rfl (ld_a g_0) ?_
        refine ev_gr (p' := 61) (v := 21) rfl rfl rfl ly_46 rfl rfl hr_46_3 ?_
        refine ev_gc (p' := 64) (v := 22) rfl rfl rfl ly_21 rfl rfl ?_
        refine ev_x (i := .iload_n 2) (len := 1) (p' := 65) (s' := [.int l_2, .ref 22]) rfl rfl (ld_i g_2) ?_
        obtain ⟨b_6, H⟩ := F_gd H
        refine ev_ga (p' := 66) (v := (gE (σ) 22 (l_2 : Int32).toNatClampNeg)) rfl rfl ly_22 rfl (gd_in b_6) rfl ?_
        refine ev_x (i := .istore_n 3) (len := 1) (p' := 67) (s' := []) (l' := vz_s1 (lv) 3 (.int (gE (σ) 22 (l_2 : Int32).toNatClampNeg))) rfl rfl rfl ?_
        refine ev_x (i := .iconst 0) (len := 1) (p' := 68) (s' := [.int 0]) rfl rfl rfl ?_
        refine ev_x (i := .istore 4) (len := 2) (p' := 70) (s' := []) (l' := vz_s1 (vz_s1 (lv) 3 (.int (gE (σ) 22 (l_2 : Int32).toNatClampNeg))) 4 (.int 0)) rfl rfl rfl ?_
        refine ev_x (i := .iload_n 3) (len := 1) (p' := 71) (s' := [.int (gE (σ) 22 (l_2 : Int32).toNatClampNeg)]) rfl rfl (ld_i (vg_o (i := 4) (v := .int 0) (vg_s (lv) 3 (.int (gE (σ) 22 (l_2 : Int32).toNatClampNeg))) (by decide) (Or.inl rfl))) ?_
        refine ev_x (i := .bipush 26) (len := 2) (p' := 73) (s' := [.int 26, .int (gE (σ) 22 (l_2 : Int32).toNatClampNeg)]) rfl rfl rfl ?_
        refine F_if H (fun c_7 H => ?_) (fun c_7 H => ?_)
        · refine ev_b2 (t := 86) (p' := 86) rfl rfl rfl (if_pos c_7) ?_
          refine ev_x (i := .iload_n 3) (len := 1) (p' := 87) (s' := [.int (gE (σ) 22 (l_2 : Int32).toNatClampNeg)]) rfl rfl (ld_i (vg_o (i := 4) (v := .int 0) (vg_s (lv) 3 (.int (gE (σ) 22 (l_2 : Int32).toNatClampNeg))) (by decide) (Or.inl rfl))) ?_
          refine ev_x (i := .bipush 34) (len := 2) (p' := 89) (s' := [.int 34, .int (gE (σ) 22 (l_2 : Int32).toNatClampNeg)]) rfl rfl rfl ?_
          refine F_if H (fun c_8 H => ?_) (fun c_8 H => ?_)
          · refine ev_b2 (t := 99) (p' := 92) rfl rfl rfl (if_neg (fun q => q c_8)) ?_
            refine ev_x (i := .aload_n 0) (len := 1) (p' := 93) (s' := [.ref 46]) rfl rfl (ld_a (vg_o (i := 4) (v := .int 0) (vg_o (i := 3) (v := .int (gE (σ) 22 (l_2 : Int32).toNatClampNeg)) g_0 (by decide) (Or.inl rfl)) (by decide) (Or.inl rfl))) ?_
            obtain ⟨p_9, G_9, H⟩ := F_bd H
            refine ev_cv (d := d + 6) (As := []) (a := 46) (p' := 96) rfl rfl rfl ly_46 rfl rfl rfl rfl rfl (nb_s1 (nb_s1 hnb rfl) rfl) rfl (F_67_ok (d := d + 0) (ht := (Or.inr rfl)) (hr_42_3 := hr_42_3) (hr_42_4 := hr_42_4) (hr_46_2 := hr_46_2) (hr_46_3 := hr_46_3) G_9) ?_
            refine ev_st (st' := [.int p_9.1]) rfl ?_
            have e_9 := F_67_R G_9
            refine ev_x (i := .goto 8) (len := 3) (p' := 104) (s' := [.int p_9.1]) rfl rfl rfl ?_
            refine ev_x (i := .istore 4) (len := 2) (p' := 106) (s' := []) (l' := vz_s1 (vz_s1 (vz_s1 (lv) 3 (.int (gE (σ) 22 (l_2 : Int32).toNatClampNeg))) 4 (.int 0)) 4 (.int p_9.1)) rfl rfl rfl ?_
            refine ev_x (i := .iload 4) (len := 2) (p' := 108) (s' := [.int p_9.1]) rfl rfl (ld_i (vg_s (vz_s1 (vz_s1 (lv) 3 (.int (gE (σ) 22 (l_2 : Int32).toNatClampNeg))) 4 (.int 0)) 4 (.int p_9.1))) ?_
            refine F_if H (fun c_10 H => ?_) (fun c_10 H => ?_)
            · refine ev_b0 (t := 114) (p' := 114) rfl rfl rfl (if_pos c_10) ?_
              refine ev_x (i := .iinc 2 1) (len := 3) (p' := 117) (s' := []) (l' := vz_s1 (vz_s1 (vz_s1 (vz_s1 (lv) 3 (.int (gE (σ) 22 (l_2 : Int32).toNatClampNeg))) 4 (.int 0)) 4 (.int p_9.1)) 2 (.int (l_2 + 1))) rfl rfl (ld_inc (vg_o (i := 4) (v := .int p_9.1) (vg_o (i := 4) (v := .int 0) (vg_o (i := 3) (v := .int (gE (σ) 22 (l_2 : Int32).toNatClampNeg)) g_2 (by decide) (Or.inl rfl)) (by decide) (Or.inl rfl)) (by decide) (Or.inl rfl)) rfl) ?_
              refine ev_x (i := .goto (-71)) (len := 3) (p' := 46) (s' := []) rfl rfl rfl ?_
              exact ih _ _ _ _ (vg_o (i := 2) (v := .int (l_2 + 1)) (vg_o (i := 4) (v := .int p_9.1) (vg_o (i := 4) (v := .int 0) (vg_o (i := 3) (v := .int (gE (σ) 22 (l_2 : Int32).toNatClampNeg)) g_0 (by decide) (Or.inl rfl)) (by decide) (Or.inl rfl)) (by decide) (Or.inl rfl)) (by decide) (Or.inl rfl)) (vg_s (vz_s1 (vz_s1 (vz_s1 (lv) 3 (.int (gE (σ) 22 (l_2 : Int32).toNatClampNeg))) 4 (.int 0)) 4 (.int p_9.1)) 2 (.int (l_2 + 1))) (nb_s1 (nb_s1 (nb_s1 (nb_s1 hnb rfl) rfl) rfl) rfl) ((congrFun (congrFun e_9 42) 3).trans hr_42_3) ((congrFun (congrFun e_9 42) 4).trans hr_42_4) ((congrFun (congrFun e_9 46) 2).trans hr_46_2) ((congrFun (congrFun e_9 46) 3).trans hr_46_3) H
            · refine ev_b0 (t := 114) (p' := 111) rfl rfl rfl (if_neg c_10) ?_
              refine ev_x (i := .iload 4) (len := 2) (p' := 113) (s' := [.int p_9.1]) rfl rfl (ld_i (vg_s (vz_s1 (vz_s1 (lv) 3 (.int (gE (σ) 22 (l_2 : Int32).toNatClampNeg))) 4 (.int 0)) 4 (.int p_9.1))) ?_
              obtain rfl := Option.some.inj H
              exact ev_iret rfl rfl rfl rfl
          · refine ev_b2 (t := 99) (p' := 99) rfl rfl rfl (if_pos c_8) ?_
            refine ev_x (i := .aload_n 0) (len := 1) (p' := 100) (s' := [.ref 46]) rfl rfl (ld_a (vg_o (i := 4) (v := .int 0) (vg_o (i := 3) (v := .int (gE (σ) 22 (l_2 : Int32).toNatClampNeg)) g_0 (by decide) (Or.inl rfl)) (by decide) (Or.inl rfl))) ?_
            refine ev_x (i := .iload_n 2) (len := 1) (p' := 101) (s' := [.int l_2, .ref 46]) rfl rfl (ld_i (vg_o (i := 4) (v := .int 0) (vg_o (i := 3) (v := .int (gE (σ) 22 (l_2 : Int32).toNatClampNeg)) g_2 (by decide) (Or.inl rfl)) (by decide) (Or.inl rfl))) ?_
            obtain ⟨p_11, G_11, H⟩ := F_bd H
            refine ev_cv (d := d + 6) (As := [.int l_2]) (a := 46) (p' := 104) rfl rfl rfl ly_46 rfl rfl rfl rfl rfl (nb_s1 (nb_s1 hnb rfl) rfl) rfl (F_84_ok (d := d + 2) (ht := (Or.inr rfl)) (hr_46_2 := hr_46_2) (hr_46_3 := hr_46_3) G_11) ?_
            refine ev_st (st' := [.int p_11.1]) rfl ?_
            have e_11 := F_84_R G_11
            refine ev_x (i := .istore 4) (len := 2) (p' := 106) (s' := []) (l' := vz_s1 (vz_s1 (vz_s1 (lv) 3 (.int (gE (σ) 22 (l_2 : Int32).toNatClampNeg))) 4 (.int 0)) 4 (.int p_11.1)) rfl rfl rfl ?_
            refine ev_x (i := .iload 4) (len := 2) (p' := 108) (s' := [.int p_11.1]) rfl rfl (ld_i (vg_s (vz_s1 (vz_s1 (lv) 3 (.int (gE (σ) 22 (l_2 : Int32).toNatClampNeg))) 4 (.int 0)) 4 (.int p_11.1))) ?_
            refine F_if H (fun c_12 H => ?_) (fun c_12 H => ?_)
            · refine ev_b0 (t := 114) (p' := 114) rfl rfl rfl (if_pos c_12) ?_
              refine ev_x (i := .iinc 2 1) (len := 3) (p' := 117) (s' := []) (l' := vz_s1 (vz_s1 (vz_s1 (vz_s1 (lv) 3 (.int (gE (σ) 22 (l_2 : Int32).toNatClampNeg))) 4 (.int 0)) 4 (.int p_11.1)) 2 (.int (l_2 + 1))) rfl rfl (ld_inc (vg_o (i := 4) (v := .int p_11.1) (vg_o (i := 4) (v := .int 0) (vg_o (i := 3) (v := .int (gE (σ) 22 (l_2 : Int32).toNatClampNeg)) g_2 (by decide) (Or.inl rfl)) (by decide) (Or.inl rfl)) (by decide) (Or.inl rfl)) rfl) ?_
              refine ev_x (i := .goto (-71)) (len := 3) (p' := 46) (s' := []) rfl rfl rfl ?_
              exact ih _ _ _ _ (vg_o (i := 2) (v := .int (l_2 + 1)) (vg_o (i := 4) (v := .int p_11.1) (vg_o (i := 4) (v := .int 0) (vg_o (i := 3) (v := .int (gE (σ) 22 (l_2 : Int32).toNatClampNeg)) g_0 (by decide) (Or.inl rfl)) (by decide) (Or.inl rfl)) (by decide) (Or.inl rfl)) (by decide) (Or.inl rfl)) (vg_s (vz_s1 (vz_s1 (vz_s1 (lv) 3 (.int (gE (σ) 22 (l_2 : Int32).toNatClampNeg))) 4 (.int 0)) 4 (.int p_11.1)) 2 (.int (l_2 + 1))) (nb_s1 (nb_s1 (nb_s1 (nb_s1 hnb rfl) rfl) rfl) rfl) ((congrFun (congrFun e_11 42) 3).trans hr_42_3) ((congrFun (congrFun e_11 42) 4).trans hr_42_4) ((congrFun (congrFun e_11 46) 2).trans hr_46_2) ((congrFun (congrFun e_11 46) 3).trans hr_46_3) H
            · refine ev_b0 (t := 114) (p' := 111) rfl rfl rfl (if_neg c_12) ?_
              refine ev_x (i := .iload 4) (len := 2) (p' := 113) (s' := [.int p_11.1]) rfl rfl (ld_i (vg_s (vz_s1 (vz_s1 (lv) 3 (.int (gE (σ) 22 (l_2 : Int32).toNatClampNeg))) 4 (.int 0)) 4 (.int p_11.1))) ?_
              obtain rfl := Option.some.inj H
              exact ev_iret rfl rfl rfl rfl
        · refine ev_b2 (t := 86) (p' := 76) rfl rfl rfl (if_neg c_7) ?_
          refine ev_x (i := .aload_n 0) (len := 1) (p' := 77) (s' := [.ref 46]) rfl rfl (ld_a (vg_o (i := 4) (v := .int 0) (vg_o (i := 3) (v := .int (gE (σ) 22 (l_2 : Int32).toNatClampNeg)) g_0 (by decide) (Or.inl rfl)) (by decide) (Or.inl rfl))) ?_
          refine ev_x (i := .iload_n 2) (len := 1) (p' := 78) (s' := [.int l_2, .ref 46]) rfl rfl (ld_i (vg_o (i := 4) (v := .int 0) (vg_o (i := 3) (v := .int (gE (σ) 22 (l_2 : Int32).toNatClampNeg)) g_2 (by decide) (Or.inl rfl)) (by decide) (Or.inl rfl))) ?_
          obtain ⟨p_13, G_13, H⟩ := F_bd H
          refine ev_cv (d := d + 6) (As := [.int l_2]) (a := 46) (p' := 81) rfl rfl rfl ly_46 rfl rfl rfl rfl rfl (nb_s1 (nb_s1 hnb rfl) rfl) rfl (F_57_ok (d := d + 2) (ht := (Or.inr rfl)) (hr_46_2 := hr_46_2) (hr_46_3 := hr_46_3) G_13) ?_
          refine ev_st (st' := [.int p_13.1]) rfl ?_
          have e_13 := F_57_R G_13
          refine ev_x (i := .istore 4) (len := 2) (p' := 83) (s' := []) (l' := vz_s1 (vz_s1 (vz_s1 (lv) 3 (.int (gE (σ) 22 (l_2 : Int32).toNatClampNeg))) 4 (.int 0)) 4 (.int p_13.1)) rfl rfl rfl ?_
          refine ev_x (i := .goto 23) (len := 3) (p' := 106) (s' := []) rfl rfl rfl ?_
          refine ev_x (i := .iload 4) (len := 2) (p' := 108) (s' := [.int p_13.1]) rfl rfl (ld_i (vg_s (vz_s1 (vz_s1 (lv) 3 (.int (gE (σ) 22 (l_2 : Int32).toNatClampNeg))) 4 (.int 0)) 4 (.int p_13.1))) ?_
          refine F_if H (fun c_14 H => ?_) (fun c_14 H => ?_)
          · refine ev_b0 (t := 114) (p' := 114) rfl rfl rfl (if_pos c_14) ?_
            refine ev_x (i := .iinc 2 1) (len := 3) (p' := 117) (s' := []) (l' := vz_s1 (vz_s1 (vz_s1 (vz_s1 (lv) 3 (.int (gE (σ) 22 (l_2 : Int32).toNatClampNeg))) 4 (.int 0)) 4 (.int p_13.1)) 2 (.int (l_2 + 1))) rfl rfl (ld_inc (vg_o (i := 4) (v := .int p_13.1) (vg_o (i := 4) (v := .int 0) (vg_o (i := 3) (v := .int (gE (σ) 22 (l_2 : Int32).toNatClampNeg)) g_2 (by decide) (Or.inl rfl)) (by decide) (Or.inl rfl)) (by decide) (Or.inl rfl)) rfl) ?_
            refine ev_x (i := .goto (-71)) (len := 3) (p' := 46) (s' := []) rfl rfl rfl ?_
            exact ih _ _ _ _ (vg_o (i := 2) (v := .int (l_2 + 1)) (vg_o (i := 4) (v := .int p_13.1) (vg_o (i := 4) (v := .int 0) (vg_o (i := 3) (v := .int (gE (σ) 22 (l_2 : Int32).toNatClampNeg)) g_0 (by decide) (Or.inl rfl)) (by decide) (Or.inl rfl)) (by decide) (Or.inl rfl)) (by decide) (Or.inl rfl)) (vg_s (vz_s1 (vz_s1 (vz_s1 (lv) 3 (.int (gE (σ) 22 (l_2 : Int32).toNatClampNeg))) 4 (.int 0)) 4 (.int p_13.1)) 2 (.int (l_2 + 1))) (nb_s1 (nb_s1 (nb_s1 (nb_s1 hnb rfl) rfl) rfl) rfl) ((congrFun (congrFun e_13 42) 3).trans hr_42_3) ((congrFun (congrFun e_13 42) 4).trans hr_42_4) ((congrFun (congrFun e_13 46) 2).trans hr_46_2) ((congrFun (congrFun e_13 46) 3).trans hr_46_3) H
          · refine ev_b0 (t := 114) (p' := 111) rfl rfl rfl (if_neg c_14) ?_
            refine ev_x (i := .iload 4) (len := 2) (p' := 113) (s' := [.int p_13.1]) rfl rfl (ld_i (vg_s (vz_s1 (vz_s1 (lv) 3 (.int (gE (σ) 22 (l_2 : Int32).toNatClampNeg))) 4 (.int 0)) 4 (.int p_13.1))) ?_
            obtain rfl := Option.some.inj H
            exact ev_iret rfl rfl rfl rfl
/-- GameText$Checker.checks(LGameText$Text;)I -/
def F_53 (N : Nat) (t : Nat) (σ : st_S) : Option (Int32 × st_S) :=
  (F_54 N t (st_r (st_r (σ) 46 2 t) 46 3 (t + 1))).bind fun p_1 =>
  (F_55 N t (st_i (p_1) 47 5 0)).bind fun p_2 =>
  L_53 N t N 0 (st_i (p_2) 46 4 (-1))
set_option maxRecDepth 100000 in
theorem F_53_R {N : Nat} {t : Nat} {σ : st_S} {p : Int32 × st_S} (H : F_53 N t σ = some p) : gR p.2 = gR (st_r (st_r (st_r (st_r (σ) 46 2 t) 46 3 (t + 1)) 42 3 t) 42 4 (t + 1)) := by
  unfold F_53 at H
  obtain ⟨p_1, G_1, H⟩ := F_bd H
  obtain ⟨p_2, G_2, H⟩ := F_bd H
  exact (((L_53_R _ _ _ _ H)).trans ((F_55_R G_2).trans ((congrArg (fun f => (st_u (st_u f 42 3 t) 42 4 (t + 1))) (F_54_R G_1)).trans rfl)))
set_option maxHeartbeats 4000000 in
set_option maxRecDepth 100000 in
theorem F_53_ok {N d : Nat} {t : Nat} (ht : t = 4 ∨ t = 20) {σ : st_S} {p : Int32 × st_S}  (H : F_53 N t σ = some p) : vz_ev P0 (d + 7) 53 0 (lv_args 0 [.ref 46, .ref t]) [] (hp σ) (.inl (some (.int p.1)), hp p.2) := by
  unfold F_53 at H
  rcases ht with rfl | rfl
  · refine ev_x (i := .aload_n 0) (len := 1) (p' := 1) (s' := [.ref 46]) rfl rfl rfl ?_
    refine ev_x (i := .aload_n 1) (len := 1) (p' := 2) (s' := [.ref 4, .ref 46]) rfl rfl rfl ?_
    refine ev_pr (p' := 5) rfl rfl rfl ly_46 rfl rfl rfl rfl rfl ?_
    refine ev_x (i := .aload_n 0) (len := 1) (p' := 6) (s' := [.ref 46]) rfl rfl rfl ?_
    refine ev_x (i := .aload_n 1) (len := 1) (p' := 7) (s' := [.ref 4, .ref 46]) rfl rfl rfl ?_
    refine ev_gc (p' := 10) (v := 5) rfl rfl rfl ly_4 rfl rfl ?_
    refine ev_pr (p' := 13) rfl rfl rfl ly_46 rfl rfl rfl rfl rfl ?_
    refine ev_x (i := .aload_n 0) (len := 1) (p' := 14) (s' := [.ref 46]) rfl rfl rfl ?_
    refine ev_gr (p' := 17) (v := 4) rfl rfl rfl ly_46 rfl rfl rfl ?_
    obtain ⟨p_1, G_1, H⟩ := F_bd H
    refine ev_cv (d := d + 6) (As := []) (a := 4) (p' := 20) rfl rfl rfl ly_4 rfl rfl rfl rfl rfl rfl rfl (F_54_ok (d := d + 5) (ht := (Or.inl rfl))  G_1) ?_
    refine ev_st (st' := []) rfl ?_
    have e_1 := F_54_R G_1
    refine ev_x (i := .aload_n 0) (len := 1) (p' := 21) (s' := [.ref 46]) rfl rfl rfl ?_
    refine ev_gc (p' := 24) (v := 47) rfl rfl rfl ly_46 rfl rfl ?_
    refine ev_x (i := .iconst 0) (len := 1) (p' := 25) (s' := [.int 0, .ref 47]) rfl rfl rfl ?_
    refine ev_pi (p' := 28) rfl rfl rfl ly_47 rfl rfl rfl rfl ?_
    refine ev_x (i := .aload_n 0) (len := 1) (p' := 29) (s' := [.ref 46]) rfl rfl rfl ?_
    refine ev_gc (p' := 32) (v := 42) rfl rfl rfl ly_46 rfl rfl ?_
    refine ev_x (i := .aload_n 0) (len := 1) (p' := 33) (s' := [.ref 46, .ref 42]) rfl rfl rfl ?_
    refine ev_gr (p' := 36) (v := 4) rfl rfl rfl ly_46 rfl rfl ((congrFun (congrFun e_1 46) 2).trans rfl) ?_
    obtain ⟨p_2, G_2, H⟩ := F_bd H
    refine ev_cv (d := d + 6) (As := [.ref 4]) (a := 42) (p' := 39) rfl rfl rfl ly_42 rfl rfl rfl rfl rfl rfl rfl (F_55_ok (d := d + 4) (ht := (Or.inl rfl))  G_2) ?_
    refine ev_st (st' := []) rfl ?_
    have e_2 := F_55_R G_2
    refine ev_x (i := .aload_n 0) (len := 1) (p' := 40) (s' := [.ref 46]) rfl rfl rfl ?_
    refine ev_x (i := .iconst (-1)) (len := 1) (p' := 41) (s' := [.int (-1), .ref 46]) rfl rfl rfl ?_
    refine ev_pi (p' := 44) rfl rfl rfl ly_46 rfl rfl rfl rfl ?_
    refine ev_x (i := .iconst 0) (len := 1) (p' := 45) (s' := [.int 0]) rfl rfl rfl ?_
    refine ev_x (i := .istore_n 2) (len := 1) (p' := 46) (s' := []) (l' := [(2, .int 0), (0, .ref 46), (1, .ref 4)]) rfl rfl rfl ?_
    exact (L_53_ok (d := d) (Or.inl rfl) N) _ _ _ _ rfl rfl rfl ((congrFun (congrFun e_2 42) 3).trans rfl) ((congrFun (congrFun e_2 42) 4).trans rfl) ((congrFun (congrFun e_2 46) 2).trans ((congrFun (congrFun e_1 46) 2).trans rfl)) ((congrFun (congrFun e_2 46) 3).trans ((congrFun (congrFun e_1 46) 3).trans rfl)) H
  · refine ev_x (i := .aload_n 0) (len := 1) (p' := 1) (s' := [.ref 46]) rfl rfl rfl ?_
    refine ev_x (i := .aload_n 1) (len := 1) (p' := 2) (s' := [.ref 20, .ref 46]) rfl rfl rfl ?_
    refine ev_pr (p' := 5) rfl rfl rfl ly_46 rfl rfl rfl rfl rfl ?_
    refine ev_x (i := .aload_n 0) (len := 1) (p' := 6) (s' := [.ref 46]) rfl rfl rfl ?_
    refine ev_x (i := .aload_n 1) (len := 1) (p' := 7) (s' := [.ref 20, .ref 46]) rfl rfl rfl ?_
    refine ev_gc (p' := 10) (v := 21) rfl rfl rfl ly_20 rfl rfl ?_
    refine ev_pr (p' := 13) rfl rfl rfl ly_46 rfl rfl rfl rfl rfl ?_
    refine ev_x (i := .aload_n 0) (len := 1) (p' := 14) (s' := [.ref 46]) rfl rfl rfl ?_
    refine ev_gr (p' := 17) (v := 20) rfl rfl rfl ly_46 rfl rfl rfl ?_
    obtain ⟨p_1, G_1, H⟩ := F_bd H
    refine ev_cv (d := d + 6) (As := []) (a := 20) (p' := 20) rfl rfl rfl ly_20 rfl rfl rfl rfl rfl rfl rfl (F_54_ok (d := d + 5) (ht := (Or.inr rfl))  G_1) ?_
    refine ev_st (st' := []) rfl ?_
    have e_1 := F_54_R G_1
    refine ev_x (i := .aload_n 0) (len := 1) (p' := 21) (s' := [.ref 46]) rfl rfl rfl ?_
    refine ev_gc (p' := 24) (v := 47) rfl rfl rfl ly_46 rfl rfl ?_
    refine ev_x (i := .iconst 0) (len := 1) (p' := 25) (s' := [.int 0, .ref 47]) rfl rfl rfl ?_
    refine ev_pi (p' := 28) rfl rfl rfl ly_47 rfl rfl rfl rfl ?_
    refine ev_x (i := .aload_n 0) (len := 1) (p' := 29) (s' := [.ref 46]) rfl rfl rfl ?_
    refine ev_gc (p' := 32) (v := 42) rfl rfl rfl ly_46 rfl rfl ?_
    refine ev_x (i := .aload_n 0) (len := 1) (p' := 33) (s' := [.ref 46, .ref 42]) rfl rfl rfl ?_
    refine ev_gr (p' := 36) (v := 20) rfl rfl rfl ly_46 rfl rfl ((congrFun (congrFun e_1 46) 2).trans rfl) ?_
    obtain ⟨p_2, G_2, H⟩ := F_bd H
    refine ev_cv (d := d + 6) (As := [.ref 20]) (a := 42) (p' := 39) rfl rfl rfl ly_42 rfl rfl rfl rfl rfl rfl rfl (F_55_ok (d := d + 4) (ht := (Or.inr rfl))  G_2) ?_
    refine ev_st (st' := []) rfl ?_
    have e_2 := F_55_R G_2
    refine ev_x (i := .aload_n 0) (len := 1) (p' := 40) (s' := [.ref 46]) rfl rfl rfl ?_
    refine ev_x (i := .iconst (-1)) (len := 1) (p' := 41) (s' := [.int (-1), .ref 46]) rfl rfl rfl ?_
    refine ev_pi (p' := 44) rfl rfl rfl ly_46 rfl rfl rfl rfl ?_
    refine ev_x (i := .iconst 0) (len := 1) (p' := 45) (s' := [.int 0]) rfl rfl rfl ?_
    refine ev_x (i := .istore_n 2) (len := 1) (p' := 46) (s' := []) (l' := [(2, .int 0), (0, .ref 46), (1, .ref 20)]) rfl rfl rfl ?_
    exact (L_53_ok (d := d) (Or.inr rfl) N) _ _ _ _ rfl rfl rfl ((congrFun (congrFun e_2 42) 3).trans rfl) ((congrFun (congrFun e_2 42) 4).trans rfl) ((congrFun (congrFun e_2 46) 2).trans ((congrFun (congrFun e_1 46) 2).trans rfl)) ((congrFun (congrFun e_2 46) 3).trans ((congrFun (congrFun e_1 46) 3).trans rfl)) H
