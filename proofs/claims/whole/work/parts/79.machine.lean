/-! methods as functions of the store. Written by wip/prog/dec2.py, gen_all.py -/
/-- GameText$Code.copyValue(II)V -/
def F_62 (N : Nat) (t : Nat) (x_1 : Int32) (x_2 : Int32) (σ : st_S) : Option (st_S) :=
  if aB x_1 (gN σ (t + 7)) then
  if aB x_2 (gN σ (t + 7)) then
  if aB x_1 (gN σ (t + 8)) then
  if aB x_2 (gN σ (t + 8)) then
  if aB x_1 (gN σ (t + 9)) then
  if aB x_2 (gN σ (t + 9)) then
  some (st_e (st_e (st_e (σ) (t + 7) ((x_2 : Int32).toNatClampNeg) (gE (σ) (t + 7) (x_1 : Int32).toNatClampNeg)) (t + 8) ((x_2 : Int32).toNatClampNeg) (gE (σ) (t + 8) (x_1 : Int32).toNatClampNeg)) (t + 9) ((x_2 : Int32).toNatClampNeg) (gE (σ) (t + 9) (x_1 : Int32).toNatClampNeg))
  else none
  else none
  else none
  else none
  else none
  else none
set_option maxRecDepth 100000 in
theorem F_62_R {N : Nat} {t : Nat} {x_1 : Int32} {x_2 : Int32} {σ : st_S} {p : st_S} (H : F_62 N t x_1 x_2 σ = some p) : gR p = gR σ := by
  unfold F_62 at H
  obtain ⟨_, H⟩ := F_gd H
  obtain ⟨_, H⟩ := F_gd H
  obtain ⟨_, H⟩ := F_gd H
  obtain ⟨_, H⟩ := F_gd H
  obtain ⟨_, H⟩ := F_gd H
  obtain ⟨_, H⟩ := F_gd H
  obtain rfl := Option.some.inj H
  exact rfl
set_option maxHeartbeats 4000000 in
set_option maxRecDepth 100000 in
theorem F_62_ok {N d : Nat} {t : Nat} (ht : t = 4 ∨ t = 20) {x_1 : Int32} {x_2 : Int32} {σ : st_S} {p : st_S}  (H : F_62 N t x_1 x_2 σ = some p) : vz_ev P0 (d + 1) 62 0 (lv_args 0 [.ref (t + 1), .int x_1, .int x_2]) [] (hp σ) (.inl none, hp p) := by
  unfold F_62 at H
  rcases ht with rfl | rfl
  · refine ev_x (i := .aload_n 0) (len := 1) (p' := 1) (s' := [.ref 5]) rfl rfl rfl ?_
    refine ev_gc (p' := 4) (v := 11) rfl rfl rfl ly_5 rfl rfl ?_
    refine ev_x (i := .iload_n 2) (len := 1) (p' := 5) (s' := [.int x_2, .ref 11]) rfl rfl rfl ?_
    refine ev_x (i := .aload_n 0) (len := 1) (p' := 6) (s' := [.ref 5, .int x_2, .ref 11]) rfl rfl rfl ?_
    refine ev_gc (p' := 9) (v := 11) rfl rfl rfl ly_5 rfl rfl ?_
    refine ev_x (i := .iload_n 1) (len := 1) (p' := 10) (s' := [.int x_1, .ref 11, .int x_2, .ref 11]) rfl rfl rfl ?_
    obtain ⟨b_1, H⟩ := F_gd H
    refine ev_ga (p' := 11) (v := (gE (σ) 11 (x_1 : Int32).toNatClampNeg)) rfl rfl ly_11 rfl (gd_in b_1) rfl ?_
    obtain ⟨b_2, H⟩ := F_gd H
    refine ev_pa (j := (x_2 : Int32).toNatClampNeg) (p' := 12) rfl rfl ly_11 rfl (gd_in b_2) rfl ?_
    refine ev_x (i := .aload_n 0) (len := 1) (p' := 13) (s' := [.ref 5]) rfl rfl rfl ?_
    refine ev_gc (p' := 16) (v := 12) rfl rfl rfl ly_5 rfl rfl ?_
    refine ev_x (i := .iload_n 2) (len := 1) (p' := 17) (s' := [.int x_2, .ref 12]) rfl rfl rfl ?_
    refine ev_x (i := .aload_n 0) (len := 1) (p' := 18) (s' := [.ref 5, .int x_2, .ref 12]) rfl rfl rfl ?_
    refine ev_gc (p' := 21) (v := 12) rfl rfl rfl ly_5 rfl rfl ?_
    refine ev_x (i := .iload_n 1) (len := 1) (p' := 22) (s' := [.int x_1, .ref 12, .int x_2, .ref 12]) rfl rfl rfl ?_
    obtain ⟨b_3, H⟩ := F_gd H
    refine ev_ga (p' := 23) (v := (gE (σ) 12 (x_1 : Int32).toNatClampNeg)) rfl rfl ly_12 rfl (gd_in b_3) rfl ?_
    obtain ⟨b_4, H⟩ := F_gd H
    refine ev_pa (j := (x_2 : Int32).toNatClampNeg) (p' := 24) rfl rfl ly_12 rfl (gd_in b_4) rfl ?_
    refine ev_x (i := .aload_n 0) (len := 1) (p' := 25) (s' := [.ref 5]) rfl rfl rfl ?_
    refine ev_gc (p' := 28) (v := 13) rfl rfl rfl ly_5 rfl rfl ?_
    refine ev_x (i := .iload_n 2) (len := 1) (p' := 29) (s' := [.int x_2, .ref 13]) rfl rfl rfl ?_
    refine ev_x (i := .aload_n 0) (len := 1) (p' := 30) (s' := [.ref 5, .int x_2, .ref 13]) rfl rfl rfl ?_
    refine ev_gc (p' := 33) (v := 13) rfl rfl rfl ly_5 rfl rfl ?_
    refine ev_x (i := .iload_n 1) (len := 1) (p' := 34) (s' := [.int x_1, .ref 13, .int x_2, .ref 13]) rfl rfl rfl ?_
    obtain ⟨b_5, H⟩ := F_gd H
    refine ev_ga (p' := 35) (v := (gE (σ) 13 (x_1 : Int32).toNatClampNeg)) rfl rfl ly_13 rfl (gd_in b_5) rfl ?_
    obtain ⟨b_6, H⟩ := F_gd H
    refine ev_pa (j := (x_2 : Int32).toNatClampNeg) (p' := 36) rfl rfl ly_13 rfl (gd_in b_6) rfl ?_
    obtain rfl := Option.some.inj H
    exact ev_vret rfl rfl rfl
  · refine ev_x (i := .aload_n 0) (len := 1) (p' := 1) (s' := [.ref 21]) rfl rfl rfl ?_
    refine ev_gc (p' := 4) (v := 27) rfl rfl rfl ly_21 rfl rfl ?_
    refine ev_x (i := .iload_n 2) (len := 1) (p' := 5) (s' := [.int x_2, .ref 27]) rfl rfl rfl ?_
    refine ev_x (i := .aload_n 0) (len := 1) (p' := 6) (s' := [.ref 21, .int x_2, .ref 27]) rfl rfl rfl ?_
    refine ev_gc (p' := 9) (v := 27) rfl rfl rfl ly_21 rfl rfl ?_
    refine ev_x (i := .iload_n 1) (len := 1) (p' := 10) (s' := [.int x_1, .ref 27, .int x_2, .ref 27]) rfl rfl rfl ?_
    obtain ⟨b_1, H⟩ := F_gd H
    refine ev_ga (p' := 11) (v := (gE (σ) 27 (x_1 : Int32).toNatClampNeg)) rfl rfl ly_27 rfl (gd_in b_1) rfl ?_
    obtain ⟨b_2, H⟩ := F_gd H
    refine ev_pa (j := (x_2 : Int32).toNatClampNeg) (p' := 12) rfl rfl ly_27 rfl (gd_in b_2) rfl ?_
    refine ev_x (i := .aload_n 0) (len := 1) (p' := 13) (s' := [.ref 21]) rfl rfl rfl ?_
    refine ev_gc (p' := 16) (v := 28) rfl rfl rfl ly_21 rfl rfl ?_
    refine ev_x (i := .iload_n 2) (len := 1) (p' := 17) (s' := [.int x_2, .ref 28]) rfl rfl rfl ?_
    refine ev_x (i := .aload_n 0) (len := 1) (p' := 18) (s' := [.ref 21, .int x_2, .ref 28]) rfl rfl rfl ?_
    refine ev_gc (p' := 21) (v := 28) rfl rfl rfl ly_21 rfl rfl ?_
    refine ev_x (i := .iload_n 1) (len := 1) (p' := 22) (s' := [.int x_1, .ref 28, .int x_2, .ref 28]) rfl rfl rfl ?_
    obtain ⟨b_3, H⟩ := F_gd H
    refine ev_ga (p' := 23) (v := (gE (σ) 28 (x_1 : Int32).toNatClampNeg)) rfl rfl ly_28 rfl (gd_in b_3) rfl ?_
    obtain ⟨b_4, H⟩ := F_gd H
    refine ev_pa (j := (x_2 : Int32).toNatClampNeg) (p' := 24) rfl rfl ly_28 rfl (gd_in b_4) rfl ?_
    refine ev_x (i := .aload_n 0) (len := 1) (p' := 25) (s' := [.ref 21]) rfl rfl rfl ?_
    refine ev_gc (p' := 28) (v := 29) rfl rfl rfl ly_21 rfl rfl ?_
    refine ev_x (i := .iload_n 2) (len := 1) (p' := 29) (s' := [.int x_2, .ref 29]) rfl rfl rfl ?_
    refine ev_x (i := .aload_n 0) (len := 1) (p' := 30) (s' := [.ref 21, .int x_2, .ref 29]) rfl rfl rfl ?_
    refine ev_gc (p' := 33) (v := 29) rfl rfl rfl ly_21 rfl rfl ?_
    refine ev_x (i := .iload_n 1) (len := 1) (p' := 34) (s' := [.int x_1, .ref 29, .int x_2, .ref 29]) rfl rfl rfl ?_
    obtain ⟨b_5, H⟩ := F_gd H
    refine ev_ga (p' := 35) (v := (gE (σ) 29 (x_1 : Int32).toNatClampNeg)) rfl rfl ly_29 rfl (gd_in b_5) rfl ?_
    obtain ⟨b_6, H⟩ := F_gd H
    refine ev_pa (j := (x_2 : Int32).toNatClampNeg) (p' := 36) rfl rfl ly_29 rfl (gd_in b_6) rfl ?_
    obtain rfl := Option.some.inj H
    exact ev_vret rfl rfl rfl
/-- GameText$Machine.isJumping(II)Z -/
def F_71 (N : Nat) (t : Nat) (x_1 : Int32) (x_2 : Int32) (σ : st_S) : Option (Int32 × st_S) :=
  if x_2 = 25 then
    some (1, σ)
  else
    if aB x_1 (gN σ (t + 4)) then
    if aB (gE (σ) (t + 4) (x_1 : Int32).toNatClampNeg) (gN σ (t + 8)) then
    some ((if (if (gE (σ) (t + 8) ((gE (σ) (t + 4) (x_1 : Int32).toNatClampNeg) : Int32).toNatClampNeg) = 1 then 1 else 0 : Int32) = (if x_2 = 24 then 1 else 0 : Int32) then 1 else 0 : Int32), σ)
    else none
    else none
set_option maxRecDepth 100000 in
theorem F_71_R {N : Nat} {t : Nat} {x_1 : Int32} {x_2 : Int32} {σ : st_S} {p : Int32 × st_S} (H : F_71 N t x_1 x_2 σ = some p) : gR p.2 = gR σ := by
  unfold F_71 at H
  refine F_if H (fun _ H => ?_) (fun _ H => ?_)
  · obtain rfl := Option.some.inj H
    exact rfl
  · obtain ⟨_, H⟩ := F_gd H
    obtain ⟨_, H⟩ := F_gd H
    obtain rfl := Option.some.inj H
    exact rfl
set_option maxHeartbeats 4000000 in
set_option maxRecDepth 100000 in
theorem F_71_ok {N d : Nat} {t : Nat} (ht : t = 4 ∨ t = 20) {x_1 : Int32} {x_2 : Int32} {σ : st_S} {p : Int32 × st_S} (hr_42_4 : gR σ 42 4 = (t + 1)) (H : F_71 N t x_1 x_2 σ = some p) : vz_ev P0 (d + 1) 71 0 (lv_args 0 [.ref 42, .int x_1, .int x_2]) [] (hp σ) (.inl (some (.int p.1)), hp p.2) := by
  unfold F_71 at H
  rcases ht with rfl | rfl
  · refine ev_x (i := .iload_n 2) (len := 1) (p' := 1) (s' := [.int x_2]) rfl rfl rfl ?_
    refine ev_x (i := .bipush 25) (len := 2) (p' := 3) (s' := [.int 25, .int x_2]) rfl rfl rfl ?_
    refine F_if H (fun c_1 H => ?_) (fun c_1 H => ?_)
    · refine ev_b2 (t := 46) (p' := 46) rfl rfl rfl (if_pos c_1) ?_
      refine ev_x (i := .iconst 1) (len := 1) (p' := 47) (s' := [.int 1]) rfl rfl rfl ?_
      refine ev_x (i := .goto 4) (len := 3) (p' := 51) (s' := [.int 1]) rfl rfl rfl ?_
      obtain rfl := Option.some.inj H
      exact ev_iret rfl rfl rfl rfl
    · refine ev_b2 (t := 46) (p' := 6) rfl rfl rfl (if_neg c_1) ?_
      refine ev_x (i := .aload_n 0) (len := 1) (p' := 7) (s' := [.ref 42]) rfl rfl rfl ?_
      refine ev_gr (p' := 10) (v := 5) rfl rfl rfl ly_42 rfl rfl hr_42_4 ?_
      refine ev_gc (p' := 13) (v := 12) rfl rfl rfl ly_5 rfl rfl ?_
      refine ev_x (i := .aload_n 0) (len := 1) (p' := 14) (s' := [.ref 42, .ref 12]) rfl rfl rfl ?_
      refine ev_gr (p' := 17) (v := 5) rfl rfl rfl ly_42 rfl rfl hr_42_4 ?_
      refine ev_gc (p' := 20) (v := 8) rfl rfl rfl ly_5 rfl rfl ?_
      refine ev_x (i := .iload_n 1) (len := 1) (p' := 21) (s' := [.int x_1, .ref 8, .ref 12]) rfl rfl rfl ?_
      obtain ⟨b_2, H⟩ := F_gd H
      refine ev_ga (p' := 22) (v := (gE (σ) 8 (x_1 : Int32).toNatClampNeg)) rfl rfl ly_8 rfl (gd_in b_2) rfl ?_
      obtain ⟨b_3, H⟩ := F_gd H
      refine ev_ga (p' := 23) (v := (gE (σ) 12 ((gE (σ) 8 (x_1 : Int32).toNatClampNeg) : Int32).toNatClampNeg)) rfl rfl ly_12 rfl (gd_in b_3) rfl ?_
      refine ev_x (i := .iconst 1) (len := 1) (p' := 24) (s' := [.int 1, .int (gE (σ) 12 ((gE (σ) 8 (x_1 : Int32).toNatClampNeg) : Int32).toNatClampNeg)]) rfl rfl rfl ?_
      refine F_jn (A := vz_ev P0 (d + 1) 71 32 [(0, .ref 42), (1, .int x_1), (2, .int x_2)] [.int (if (gE (σ) 12 ((gE (σ) 8 (x_1 : Int32).toNatClampNeg) : Int32).toNatClampNeg) = 1 then 1 else 0 : Int32)] (hp (σ)) (.inl (some (.int p.1)), hp p.2)) ?_ (fun J => ?_)
      · refine ev_x (i := .iload_n 2) (len := 1) (p' := 33) (s' := [.int x_2, .int (if (gE (σ) 12 ((gE (σ) 8 (x_1 : Int32).toNatClampNeg) : Int32).toNatClampNeg) = 1 then 1 else 0 : Int32)]) rfl rfl rfl ?_
        refine ev_x (i := .bipush 24) (len := 2) (p' := 35) (s' := [.int 24, .int x_2, .int (if (gE (σ) 12 ((gE (σ) 8 (x_1 : Int32).toNatClampNeg) : Int32).toNatClampNeg) = 1 then 1 else 0 : Int32)]) rfl rfl rfl ?_
        refine F_jn (A := vz_ev P0 (d + 1) 71 43 [(0, .ref 42), (1, .int x_1), (2, .int x_2)] [.int (if x_2 = 24 then 1 else 0 : Int32), .int (if (gE (σ) 12 ((gE (σ) 8 (x_1 : Int32).toNatClampNeg) : Int32).toNatClampNeg) = 1 then 1 else 0 : Int32)] (hp (σ)) (.inl (some (.int p.1)), hp p.2)) ?_ (fun J => ?_)
        · refine F_jn (A := vz_ev P0 (d + 1) 71 51 [(0, .ref 42), (1, .int x_1), (2, .int x_2)] [.int (if (if (gE (σ) 12 ((gE (σ) 8 (x_1 : Int32).toNatClampNeg) : Int32).toNatClampNeg) = 1 then 1 else 0 : Int32) = (if x_2 = 24 then 1 else 0 : Int32) then 1 else 0 : Int32)] (hp (σ)) (.inl (some (.int p.1)), hp p.2)) ?_ (fun J => ?_)
          · obtain rfl := Option.some.inj H
            exact ev_iret rfl rfl rfl (fit_b (by (repeat' split) <;> decide))
          · by_cases c_6 : (if (gE (σ) 12 ((gE (σ) 8 (x_1 : Int32).toNatClampNeg) : Int32).toNatClampNeg) = 1 then 1 else 0 : Int32) = (if x_2 = 24 then 1 else 0 : Int32)
            · refine ev_b2 (t := 50) (p' := 46) rfl rfl rfl (if_neg (fun q => q c_6)) ?_
              refine ev_x (i := .iconst 1) (len := 1) (p' := 47) (s' := [.int 1]) rfl rfl rfl ?_
              refine ev_x (i := .goto 4) (len := 3) (p' := 51) (s' := [.int 1]) rfl rfl rfl ?_
              exact ev_st (congrArg (fun z => Value.int z :: []) (by rw [if_pos c_6])) J
            · refine ev_b2 (t := 50) (p' := 50) rfl rfl rfl (if_pos c_6) ?_
              refine ev_x (i := .iconst 0) (len := 1) (p' := 51) (s' := [.int 0]) rfl rfl rfl ?_
              exact ev_st (congrArg (fun z => Value.int z :: []) (by rw [if_neg c_6])) J
        · by_cases c_5 : x_2 = 24
          · refine ev_b2 (t := 42) (p' := 38) rfl rfl rfl (if_neg (fun q => q c_5)) ?_
            refine ev_x (i := .iconst 1) (len := 1) (p' := 39) (s' := [.int 1, .int (if (gE (σ) 12 ((gE (σ) 8 (x_1 : Int32).toNatClampNeg) : Int32).toNatClampNeg) = 1 then 1 else 0 : Int32)]) rfl rfl rfl ?_
            refine ev_x (i := .goto 4) (len := 3) (p' := 43) (s' := [.int 1, .int (if (gE (σ) 12 ((gE (σ) 8 (x_1 : Int32).toNatClampNeg) : Int32).toNatClampNeg) = 1 then 1 else 0 : Int32)]) rfl rfl rfl ?_
            exact ev_st (congrArg (fun z => Value.int z :: [.int (if (gE (σ) 12 ((gE (σ) 8 (x_1 : Int32).toNatClampNeg) : Int32).toNatClampNeg) = 1 then 1 else 0 : Int32)]) (by rw [if_pos c_5])) J
          · refine ev_b2 (t := 42) (p' := 42) rfl rfl rfl (if_pos c_5) ?_
            refine ev_x (i := .iconst 0) (len := 1) (p' := 43) (s' := [.int 0, .int (if (gE (σ) 12 ((gE (σ) 8 (x_1 : Int32).toNatClampNeg) : Int32).toNatClampNeg) = 1 then 1 else 0 : Int32)]) rfl rfl rfl ?_
            exact ev_st (congrArg (fun z => Value.int z :: [.int (if (gE (σ) 12 ((gE (σ) 8 (x_1 : Int32).toNatClampNeg) : Int32).toNatClampNeg) = 1 then 1 else 0 : Int32)]) (by rw [if_neg c_5])) J
      · by_cases c_4 : (gE (σ) 12 ((gE (σ) 8 (x_1 : Int32).toNatClampNeg) : Int32).toNatClampNeg) = 1
        · refine ev_b2 (t := 31) (p' := 27) rfl rfl rfl (if_neg (fun q => q c_4)) ?_
          refine ev_x (i := .iconst 1) (len := 1) (p' := 28) (s' := [.int 1]) rfl rfl rfl ?_
          refine ev_x (i := .goto 4) (len := 3) (p' := 32) (s' := [.int 1]) rfl rfl rfl ?_
          exact ev_st (congrArg (fun z => Value.int z :: []) (by rw [if_pos c_4])) J
        · refine ev_b2 (t := 31) (p' := 31) rfl rfl rfl (if_pos c_4) ?_
          refine ev_x (i := .iconst 0) (len := 1) (p' := 32) (s' := [.int 0]) rfl rfl rfl ?_
          exact ev_st (congrArg (fun z => Value.int z :: []) (by rw [if_neg c_4])) J
  · refine ev_x (i := .iload_n 2) (len := 1) (p' := 1) (s' := [.int x_2]) rfl rfl rfl ?_
    refine ev_x (i := .bipush 25) (len := 2) (p' := 3) (s' := [.int 25, .int x_2]) rfl rfl rfl ?_
    refine F_if H (fun c_1 H => ?_) (fun c_1 H => ?_)
    · refine ev_b2 (t := 46) (p' := 46) rfl rfl rfl (if_pos c_1) ?_
      refine ev_x (i := .iconst 1) (len := 1) (p' := 47) (s' := [.int 1]) rfl rfl rfl ?_
      refine ev_x (i := .goto 4) (len := 3) (p' := 51) (s' := [.int 1]) rfl rfl rfl ?_
      obtain rfl := Option.some.inj H
      exact ev_iret rfl rfl rfl rfl
    · refine ev_b2 (t := 46) (p' := 6) rfl rfl rfl (if_neg c_1) ?_
      refine ev_x (i := .aload_n 0) (len := 1) (p' := 7) (s' := [.ref 42]) rfl rfl rfl ?_
      refine ev_gr (p' := 10) (v := 21) rfl rfl rfl ly_42 rfl rfl hr_42_4 ?_
      refine ev_gc (p' := 13) (v := 28) rfl rfl rfl ly_21 rfl rfl ?_
      refine ev_x (i := .aload_n 0) (len := 1) (p' := 14) (s' := [.ref 42, .ref 28]) rfl rfl rfl ?_
      refine ev_gr (p' := 17) (v := 21) rfl rfl rfl ly_42 rfl rfl hr_42_4 ?_
      refine ev_gc (p' := 20) (v := 24) rfl rfl rfl ly_21 rfl rfl ?_
      refine ev_x (i := .iload_n 1) (len := 1) (p' := 21) (s' := [.int x_1, .ref 24, .ref 28]) rfl rfl rfl ?_
      obtain ⟨b_2, H⟩ := F_gd H
      refine ev_ga (p' := 22) (v := (gE (σ) 24 (x_1 : Int32).toNatClampNeg)) rfl rfl ly_24 rfl (gd_in b_2) rfl ?_
      obtain ⟨b_3, H⟩ := F_gd H
      refine ev_ga (p' := 23) (v := (gE (σ) 28 ((gE (σ) 24 (x_1 : Int32).toNatClampNeg) : Int32).toNatClampNeg)) rfl rfl ly_28 rfl (gd_in b_3) rfl ?_
      refine ev_x (i := .iconst 1) (len := 1) (p' := 24) (s' := [.int 1, .int (gE (σ) 28 ((gE (σ) 24 (x_1 : Int32).toNatClampNeg) : Int32).toNatClampNeg)]) rfl rfl rfl ?_
      refine F_jn (A := vz_ev P0 (d + 1) 71 32 [(0, .ref 42), (1, .int x_1), (2, .int x_2)] [.int (if (gE (σ) 28 ((gE (σ) 24 (x_1 : Int32).toNatClampNeg) : Int32).toNatClampNeg) = 1 then 1 else 0 : Int32)] (hp (σ)) (.inl (some (.int p.1)), hp p.2)) ?_ (fun J => ?_)
      · refine ev_x (i := .iload_n 2) (len := 1) (p' := 33) (s' := [.int x_2, .int (if (gE (σ) 28 ((gE (σ) 24 (x_1 : Int32).toNatClampNeg) : Int32).toNatClampNeg) = 1 then 1 else 0 : Int32)]) rfl rfl rfl ?_
        refine ev_x (i := .bipush 24) (len := 2) (p' := 35) (s' := [.int 24, .int x_2, .int (if (gE (σ) 28 ((gE (σ) 24 (x_1 : Int32).toNatClampNeg) : Int32).toNatClampNeg) = 1 then 1 else 0 : Int32)]) rfl rfl rfl ?_
        refine F_jn (A := vz_ev P0 (d + 1) 71 43 [(0, .ref 42), (1, .int x_1), (2, .int x_2)] [.int (if x_2 = 24 then 1 else 0 : Int32), .int (if (gE (σ) 28 ((gE (σ) 24 (x_1 : Int32).toNatClampNeg) : Int32).toNatClampNeg) = 1 then 1 else 0 : Int32)] (hp (σ)) (.inl (some (.int p.1)), hp p.2)) ?_ (fun J => ?_)
        · refine F_jn (A := vz_ev P0 (d + 1) 71 51 [(0, .ref 42), (1, .int x_1), (2, .int x_2)] [.int (if (if (gE (σ) 28 ((gE (σ) 24 (x_1 : Int32).toNatClampNeg) : Int32).toNatClampNeg) = 1 then 1 else 0 : Int32) = (if x_2 = 24 then 1 else 0 : Int32) then 1 else 0 : Int32)] (hp (σ)) (.inl (some (.int p.1)), hp p.2)) ?_ (fun J => ?_)
          · obtain rfl := Option.some.inj H
            exact ev_iret rfl rfl rfl (fit_b (by (repeat' split) <;> decide))
          · by_cases c_6 : (if (gE (σ) 28 ((gE (σ) 24 (x_1 : Int32).toNatClampNeg) : Int32).toNatClampNeg) = 1 then 1 else 0 : Int32) = (if x_2 = 24 then 1 else 0 : Int32)
            · refine ev_b2 (t := 50) (p' := 46) rfl rfl rfl (if_neg (fun q => q c_6)) ?_
              refine ev_x (i := .iconst 1) (len := 1) (p' := 47) (s' := [.int 1]) rfl rfl rfl ?_
              refine ev_x (i := .goto 4) (len := 3) (p' := 51) (s' := [.int 1]) rfl rfl rfl ?_
              exact ev_st (congrArg (fun z => Value.int z :: []) (by rw [if_pos c_6])) J
            · refine ev_b2 (t := 50) (p' := 50) rfl rfl rfl (if_pos c_6) ?_
              refine ev_x (i := .iconst 0) (len := 1) (p' := 51) (s' := [.int 0]) rfl rfl rfl ?_
              exact ev_st (congrArg (fun z => Value.int z :: []) (by rw [if_neg c_6])) J
        · by_cases c_5 : x_2 = 24
          · refine ev_b2 (t := 42) (p' := 38) rfl rfl rfl (if_neg (fun q => q c_5)) ?_
            refine ev_x (i := .iconst 1) (len := 1) (p' := 39) (s' := [.int 1, .int (if (gE (σ) 28 ((gE (σ) 24 (x_1 : Int32).toNatClampNeg) : Int32).toNatClampNeg) = 1 then 1 else 0 : Int32)]) rfl rfl rfl ?_
            refine ev_x (i := .goto 4) (len := 3) (p' := 43) (s' := [.int 1, .int (if (gE (σ) 28 ((gE (σ) 24 (x_1 : Int32).toNatClampNeg) : Int32).toNatClampNeg) = 1 then 1 else 0 : Int32)]) rfl rfl rfl ?_
            exact ev_st (congrArg (fun z => Value.int z :: [.int (if (gE (σ) 28 ((gE (σ) 24 (x_1 : Int32).toNatClampNeg) : Int32).toNatClampNeg) = 1 then 1 else 0 : Int32)]) (by rw [if_pos c_5])) J
          · refine ev_b2 (t := 42) (p' := 42) rfl rfl rfl (if_pos c_5) ?_
            refine ev_x (i := .iconst 0) (len := 1) (p' := 43) (s' := [.int 0, .int (if (gE (σ) 28 ((gE (σ) 24 (x_1 : Int32).toNatClampNeg) : Int32).toNatClampNeg) = 1 then 1 else 0 : Int32)]) rfl rfl rfl ?_
            exact ev_st (congrArg (fun z => Value.int z :: [.int (if (gE (σ) 28 ((gE (σ) 24 (x_1 : Int32).toNatClampNeg) : Int32).toNatClampNeg) = 1 then 1 else 0 : Int32)]) (by rw [if_neg c_5])) J
      · by_cases c_4 : (gE (σ) 28 ((gE (σ) 24 (x_1 : Int32).toNatClampNeg) : Int32).toNatClampNeg) = 1
        · refine ev_b2 (t := 31) (p' := 27) rfl rfl rfl (if_neg (fun q => q c_4)) ?_
          refine ev_x (i := .iconst 1) (len := 1) (p' := 28) (s' := [.int 1]) rfl rfl rfl ?_
          refine ev_x (i := .goto 4) (len := 3) (p' := 32) (s' := [.int 1]) rfl rfl rfl ?_
          exact ev_st (congrArg (fun z => Value.int z :: []) (by rw [if_pos c_4])) J
        · refine ev_b2 (t := 31) (p' := 31) rfl rfl rfl (if_pos c_4) ?_
          refine ev_x (i := .iconst 0) (len := 1) (p' := 32) (s' := [.int 0]) rfl rfl rfl ?_
          exact ev_st (congrArg (fun z => Value.int z :: []) (by rw [if_neg c_4])) J
/-- java/lang/Math.floorMod(JJ)J -/
def F_73 (N : Nat) (x_0 : Int64) (x_2 : Int64) (σ : st_S) : Option (Int64 × st_S) :=
  if ¬ (x_2 : Int64) = 0 then
  if 0 ≤ (lg_cmp (x_0 ^^^ x_2) 0) then
    some ((x_0 - x_0 / x_2 * x_2), σ)
  else
    if (lg_cmp (x_0 - x_0 / x_2 * x_2) 0) = 0 then
      some ((x_0 - x_0 / x_2 * x_2), σ)
    else
      some (((x_0 - x_0 / x_2 * x_2) + x_2), σ)
  else none
set_option maxRecDepth 100000 in
theorem F_73_R {N : Nat} {x_0 : Int64} {x_2 : Int64} {σ : st_S} {p : Int64 × st_S} (H : F_73 N x_0 x_2 σ = some p) : gR p.2 = gR σ := by
  unfold F_73 at H
  obtain ⟨_, H⟩ := F_gd H
  refine F_if H (fun _ H => ?_) (fun _ H => ?_)
  · obtain rfl := Option.some.inj H
    exact rfl
  · refine F_if H (fun _ H => ?_) (fun _ H => ?_)
    · obtain rfl := Option.some.inj H
      exact rfl
    · obtain rfl := Option.some.inj H
      exact rfl
set_option maxHeartbeats 4000000 in
set_option maxRecDepth 100000 in
theorem F_73_ok {N d : Nat} {x_0 : Int64} {x_2 : Int64} {σ : st_S} {p : Int64 × st_S}  (H : F_73 N x_0 x_2 σ = some p) : vz_ev P0 (d + 1) 73 0 (lv_args 0 [.long x_0, .long x_2]) [] (hp σ) (.inl (some (.long p.1)), hp p.2) := by
  unfold F_73 at H
  refine ev_x (i := .lload_n 0) (len := 1) (p' := 1) (s' := [.long x_0]) rfl rfl rfl ?_
  refine ev_x (i := .lload_n 2) (len := 1) (p' := 2) (s' := [.long x_2, .long x_0]) rfl rfl rfl ?_
  obtain ⟨b_1, H⟩ := F_gd H
  refine ev_lrem (p' := 3) rfl rfl b_1 rfl ?_
  refine ev_x (i := .lstore 4) (len := 2) (p' := 5) (s' := []) (l' := [(4, .long (x_0 - x_0 / x_2 * x_2)), (0, .long x_0), (2, .long x_2)]) rfl rfl rfl ?_
  refine ev_x (i := .lload_n 0) (len := 1) (p' := 6) (s' := [.long x_0]) rfl rfl rfl ?_
  refine ev_x (i := .lload_n 2) (len := 1) (p' := 7) (s' := [.long x_2, .long x_0]) rfl rfl rfl ?_
  refine ev_x (i := .lxor) (len := 1) (p' := 8) (s' := [.long (x_0 ^^^ x_2)]) rfl rfl rfl ?_
  refine ev_x (i := .lconst 0) (len := 1) (p' := 9) (s' := [.long 0, .long (x_0 ^^^ x_2)]) rfl rfl rfl ?_
  refine ev_x (i := .lcmp) (len := 1) (p' := 10) (s' := [.int (lg_cmp (x_0 ^^^ x_2) 0)]) rfl rfl rfl ?_
  refine F_if H (fun c_2 H => ?_) (fun c_2 H => ?_)
  · refine ev_b0 (t := 25) (p' := 25) rfl rfl rfl (if_pos c_2) ?_
    refine ev_x (i := .lload 4) (len := 2) (p' := 27) (s' := [.long (x_0 - x_0 / x_2 * x_2)]) rfl rfl rfl ?_
    obtain rfl := Option.some.inj H
    exact ev_lret rfl rfl rfl rfl
  · refine ev_b0 (t := 25) (p' := 13) rfl rfl rfl (if_neg c_2) ?_
    refine ev_x (i := .lload 4) (len := 2) (p' := 15) (s' := [.long (x_0 - x_0 / x_2 * x_2)]) rfl rfl rfl ?_
    refine ev_x (i := .lconst 0) (len := 1) (p' := 16) (s' := [.long 0, .long (x_0 - x_0 / x_2 * x_2)]) rfl rfl rfl ?_
    refine ev_x (i := .lcmp) (len := 1) (p' := 17) (s' := [.int (lg_cmp (x_0 - x_0 / x_2 * x_2) 0)]) rfl rfl rfl ?_
    refine F_if H (fun c_3 H => ?_) (fun c_3 H => ?_)
    · refine ev_b0 (t := 25) (p' := 25) rfl rfl rfl (if_pos c_3) ?_
      refine ev_x (i := .lload 4) (len := 2) (p' := 27) (s' := [.long (x_0 - x_0 / x_2 * x_2)]) rfl rfl rfl ?_
      obtain rfl := Option.some.inj H
      exact ev_lret rfl rfl rfl rfl
    · refine ev_b0 (t := 25) (p' := 20) rfl rfl rfl (if_neg c_3) ?_
      refine ev_x (i := .lload 4) (len := 2) (p' := 22) (s' := [.long (x_0 - x_0 / x_2 * x_2)]) rfl rfl rfl ?_
      refine ev_x (i := .lload_n 2) (len := 1) (p' := 23) (s' := [.long x_2, .long (x_0 - x_0 / x_2 * x_2)]) rfl rfl rfl ?_
      refine ev_x (i := .ladd) (len := 1) (p' := 24) (s' := [.long ((x_0 - x_0 / x_2 * x_2) + x_2)]) rfl rfl rfl ?_
      obtain rfl := Option.some.inj H
      exact ev_lret rfl rfl rfl rfl
/-- GameText$Machine.reckon(II)I -/
def F_72 (N : Nat) (t : Nat) (x_1 : Int32) (x_2 : Int32) (σ : st_S) : Option (Int32 × st_S) :=
  if aB x_1 (gN σ (t + 4)) then
  if aB (gE (σ) (t + 4) (x_1 : Int32).toNatClampNeg) (gN σ (t + 8)) then
  if aB (gE (σ) (t + 4) (x_1 : Int32).toNatClampNeg) (gN σ (t + 9)) then
  if aB x_1 (gN σ (t + 5)) then
  if aB (gE (σ) (t + 5) (x_1 : Int32).toNatClampNeg) (gN σ (t + 8)) then
  if aB (gE (σ) (t + 5) (x_1 : Int32).toNatClampNeg) (gN σ (t + 9)) then
  if x_2 = 4 then
    some (0, st_l (st_l (σ) 42 7 ((((gE (σ) (t + 8) ((gE (σ) (t + 4) (x_1 : Int32).toNatClampNeg) : Int32).toNatClampNeg) : Int32).toInt64 * ((gE (σ) (t + 9) ((gE (σ) (t + 5) (x_1 : Int32).toNatClampNeg) : Int32).toNatClampNeg) : Int32).toInt64) + (((gE (σ) (t + 8) ((gE (σ) (t + 5) (x_1 : Int32).toNatClampNeg) : Int32).toNatClampNeg) : Int32).toInt64 * ((gE (σ) (t + 9) ((gE (σ) (t + 4) (x_1 : Int32).toNatClampNeg) : Int32).toNatClampNeg) : Int32).toInt64))) 42 8 (((gE (σ) (t + 9) ((gE (σ) (t + 4) (x_1 : Int32).toNatClampNeg) : Int32).toNatClampNeg) : Int32).toInt64 * ((gE (σ) (t + 9) ((gE (σ) (t + 5) (x_1 : Int32).toNatClampNeg) : Int32).toNatClampNeg) : Int32).toInt64))
  else
  if x_2 = 5 then
    some (0, st_l (st_l (σ) 42 7 ((((gE (σ) (t + 8) ((gE (σ) (t + 4) (x_1 : Int32).toNatClampNeg) : Int32).toNatClampNeg) : Int32).toInt64 * ((gE (σ) (t + 9) ((gE (σ) (t + 5) (x_1 : Int32).toNatClampNeg) : Int32).toNatClampNeg) : Int32).toInt64) - (((gE (σ) (t + 8) ((gE (σ) (t + 5) (x_1 : Int32).toNatClampNeg) : Int32).toNatClampNeg) : Int32).toInt64 * ((gE (σ) (t + 9) ((gE (σ) (t + 4) (x_1 : Int32).toNatClampNeg) : Int32).toNatClampNeg) : Int32).toInt64))) 42 8 (((gE (σ) (t + 9) ((gE (σ) (t + 4) (x_1 : Int32).toNatClampNeg) : Int32).toNatClampNeg) : Int32).toInt64 * ((gE (σ) (t + 9) ((gE (σ) (t + 5) (x_1 : Int32).toNatClampNeg) : Int32).toNatClampNeg) : Int32).toInt64))
  else
  if x_2 = 6 then
    some (0, st_l (st_l (σ) 42 7 (((gE (σ) (t + 8) ((gE (σ) (t + 4) (x_1 : Int32).toNatClampNeg) : Int32).toNatClampNeg) : Int32).toInt64 * ((gE (σ) (t + 8) ((gE (σ) (t + 5) (x_1 : Int32).toNatClampNeg) : Int32).toNatClampNeg) : Int32).toInt64)) 42 8 (((gE (σ) (t + 9) ((gE (σ) (t + 4) (x_1 : Int32).toNatClampNeg) : Int32).toNatClampNeg) : Int32).toInt64 * ((gE (σ) (t + 9) ((gE (σ) (t + 5) (x_1 : Int32).toNatClampNeg) : Int32).toNatClampNeg) : Int32).toInt64))
  else
  if x_2 = 7 then
    some ((if (lg_cmp ((gE (σ) (t + 8) ((gE (σ) (t + 5) (x_1 : Int32).toNatClampNeg) : Int32).toNatClampNeg) : Int32).toInt64 0) = 0 then 7 else 0 : Int32), st_l (st_l (σ) 42 7 (if 0 ≤ (lg_cmp ((gE (σ) (t + 8) ((gE (σ) (t + 5) (x_1 : Int32).toNatClampNeg) : Int32).toNatClampNeg) : Int32).toInt64 0) then (((gE (σ) (t + 8) ((gE (σ) (t + 4) (x_1 : Int32).toNatClampNeg) : Int32).toNatClampNeg) : Int32).toInt64 * ((gE (σ) (t + 9) ((gE (σ) (t + 5) (x_1 : Int32).toNatClampNeg) : Int32).toNatClampNeg) : Int32).toInt64) else ((-((gE (σ) (t + 8) ((gE (σ) (t + 4) (x_1 : Int32).toNatClampNeg) : Int32).toNatClampNeg) : Int32).toInt64) * ((gE (σ) (t + 9) ((gE (σ) (t + 5) (x_1 : Int32).toNatClampNeg) : Int32).toNatClampNeg) : Int32).toInt64) : Int64)) 42 8 (if 0 ≤ (lg_cmp ((gE (σ) (t + 8) ((gE (σ) (t + 5) (x_1 : Int32).toNatClampNeg) : Int32).toNatClampNeg) : Int32).toInt64 0) then (((gE (σ) (t + 9) ((gE (σ) (t + 4) (x_1 : Int32).toNatClampNeg) : Int32).toNatClampNeg) : Int32).toInt64 * ((gE (σ) (t + 8) ((gE (σ) (t + 5) (x_1 : Int32).toNatClampNeg) : Int32).toNatClampNeg) : Int32).toInt64) else ((-((gE (σ) (t + 9) ((gE (σ) (t + 4) (x_1 : Int32).toNatClampNeg) : Int32).toNatClampNeg) : Int32).toInt64) * ((gE (σ) (t + 8) ((gE (σ) (t + 5) (x_1 : Int32).toNatClampNeg) : Int32).toNatClampNeg) : Int32).toInt64) : Int64))
  else
    if (lg_cmp ((gE (σ) (t + 9) ((gE (σ) (t + 4) (x_1 : Int32).toNatClampNeg) : Int32).toNatClampNeg) : Int32).toInt64 1) = 0 then
      if (lg_cmp ((gE (σ) (t + 9) ((gE (σ) (t + 5) (x_1 : Int32).toNatClampNeg) : Int32).toNatClampNeg) : Int32).toInt64 1) = 0 then
        if 0 < (lg_cmp ((gE (σ) (t + 8) ((gE (σ) (t + 5) (x_1 : Int32).toNatClampNeg) : Int32).toNatClampNeg) : Int32).toInt64 0) then
          (F_73 N ((gE (σ) (t + 8) ((gE (σ) (t + 4) (x_1 : Int32).toNatClampNeg) : Int32).toNatClampNeg) : Int32).toInt64 ((gE (σ) (t + 8) ((gE (σ) (t + 5) (x_1 : Int32).toNatClampNeg) : Int32).toNatClampNeg) : Int32).toInt64 (σ)).bind fun p_17 =>
          some (0, st_l (st_l (p_17.2) 42 7 p_17.1) 42 8 1)
        else
          some (7, σ)
      else
        some (8, σ)
    else
      some (8, σ)
  else none
  else none
  else none
  else none
  else none
  else none
set_option maxRecDepth 100000 in
theorem F_72_R {N : Nat} {t : Nat} {x_1 : Int32} {x_2 : Int32} {σ : st_S} {p : Int32 × st_S} (H : F_72 N t x_1 x_2 σ = some p) : gR p.2 = gR σ := by
  unfold F_72 at H
  obtain ⟨_, H⟩ := F_gd H
  obtain ⟨_, H⟩ := F_gd H
  obtain ⟨_, H⟩ := F_gd H
  obtain ⟨_, H⟩ := F_gd H
  obtain ⟨_, H⟩ := F_gd H
  obtain ⟨_, H⟩ := F_gd H
  refine F_if H (fun _ H => ?_) (fun _ H => ?_)
  · obtain rfl := Option.some.inj H
    exact rfl
  · refine F_if H (fun _ H => ?_) (fun _ H => ?_)
    · obtain rfl := Option.some.inj H
      exact rfl
    · refine F_if H (fun _ H => ?_) (fun _ H => ?_)
      · obtain rfl := Option.some.inj H
        exact rfl
      · refine F_if H (fun _ H => ?_) (fun _ H => ?_)
        · obtain rfl := Option.some.inj H
          exact rfl
        · refine F_if H (fun _ H => ?_) (fun _ H => ?_)
          · refine F_if H (fun _ H => ?_) (fun _ H => ?_)
            · refine F_if H (fun _ H => ?_) (fun _ H => ?_)
              · obtain ⟨p_17, G_17, H⟩ := F_bd H
                obtain rfl := Option.some.inj H
                exact ((F_73_R G_17).trans rfl)
              · obtain rfl := Option.some.inj H
                exact rfl
            · obtain rfl := Option.some.inj H
              exact rfl
          · obtain rfl := Option.some.inj H
            exact rfl
set_option maxHeartbeats 4000000 in
set_option maxRecDepth 100000 in
theorem F_72_ok {N d : Nat} {t : Nat} (ht : t = 4 ∨ t = 20) {x_1 : Int32} {x_2 : Int32} {σ : st_S} {p : Int32 × st_S} (hr_42_4 : gR σ 42 4 = (t + 1)) (H : F_72 N t x_1 x_2 σ = some p) : vz_ev P0 (d + 2) 72 0 (lv_args 0 [.ref 42, .int x_1, .int x_2]) [] (hp σ) (.inl (some (.int p.1)), hp p.2) := by
  unfold F_72 at H
  rcases ht with rfl | rfl
  · refine ev_x (i := .aload_n 0) (len := 1) (p' := 1) (s' := [.ref 42]) rfl rfl rfl ?_
    refine ev_gr (p' := 4) (v := 5) rfl rfl rfl ly_42 rfl rfl hr_42_4 ?_
    refine ev_gc (p' := 7) (v := 12) rfl rfl rfl ly_5 rfl rfl ?_
    refine ev_x (i := .aload_n 0) (len := 1) (p' := 8) (s' := [.ref 42, .ref 12]) rfl rfl rfl ?_
    refine ev_gr (p' := 11) (v := 5) rfl rfl rfl ly_42 rfl rfl hr_42_4 ?_
    refine ev_gc (p' := 14) (v := 8) rfl rfl rfl ly_5 rfl rfl ?_
    refine ev_x (i := .iload_n 1) (len := 1) (p' := 15) (s' := [.int x_1, .ref 8, .ref 12]) rfl rfl rfl ?_
    obtain ⟨b_1, H⟩ := F_gd H
    refine ev_ga (p' := 16) (v := (gE (σ) 8 (x_1 : Int32).toNatClampNeg)) rfl rfl ly_8 rfl (gd_in b_1) rfl ?_
    obtain ⟨b_2, H⟩ := F_gd H
    refine ev_ga (p' := 17) (v := (gE (σ) 12 ((gE (σ) 8 (x_1 : Int32).toNatClampNeg) : Int32).toNatClampNeg)) rfl rfl ly_12 rfl (gd_in b_2) rfl ?_
    refine ev_x (i := .i2l) (len := 1) (p' := 18) (s' := [.long ((gE (σ) 12 ((gE (σ) 8 (x_1 : Int32).toNatClampNeg) : Int32).toNatClampNeg) : Int32).toInt64]) rfl rfl rfl ?_
    refine ev_x (i := .lstore_n 3) (len := 1) (p' := 19) (s' := []) (l' := [(3, .long ((gE (σ) 12 ((gE (σ) 8 (x_1 : Int32).toNatClampNeg) : Int32).toNatClampNeg) : Int32).toInt64), (0, .ref 42), (1, .int x_1), (2, .int x_2)]) rfl rfl rfl ?_
    refine ev_x (i := .aload_n 0) (len := 1) (p' := 20) (s' := [.ref 42]) rfl rfl rfl ?_
    refine ev_gr (p' := 23) (v := 5) rfl rfl rfl ly_42 rfl rfl hr_42_4 ?_
    refine ev_gc (p' := 26) (v := 13) rfl rfl rfl ly_5 rfl rfl ?_
    refine ev_x (i := .aload_n 0) (len := 1) (p' := 27) (s' := [.ref 42, .ref 13]) rfl rfl rfl ?_
    refine ev_gr (p' := 30) (v := 5) rfl rfl rfl ly_42 rfl rfl hr_42_4 ?_
    refine ev_gc (p' := 33) (v := 8) rfl rfl rfl ly_5 rfl rfl ?_
    refine ev_x (i := .iload_n 1) (len := 1) (p' := 34) (s' := [.int x_1, .ref 8, .ref 13]) rfl rfl rfl ?_
    refine ev_ga (p' := 35) (v := (gE (σ) 8 (x_1 : Int32).toNatClampNeg)) rfl rfl ly_8 rfl (gd_in b_1) rfl ?_
    obtain ⟨b_3, H⟩ := F_gd H
    refine ev_ga (p' := 36) (v := (gE (σ) 13 ((gE (σ) 8 (x_1 : Int32).toNatClampNeg) : Int32).toNatClampNeg)) rfl rfl ly_13 rfl (gd_in b_3) rfl ?_
    refine ev_x (i := .i2l) (len := 1) (p' := 37) (s' := [.long ((gE (σ) 13 ((gE (σ) 8 (x_1 : Int32).toNatClampNeg) : Int32).toNatClampNeg) : Int32).toInt64]) rfl rfl rfl ?_
    refine ev_x (i := .lstore 5) (len := 2) (p' := 39) (s' := []) (l' := [(5, .long ((gE (σ) 13 ((gE (σ) 8 (x_1 : Int32).toNatClampNeg) : Int32).toNatClampNeg) : Int32).toInt64), (3, .long ((gE (σ) 12 ((gE (σ) 8 (x_1 : Int32).toNatClampNeg) : Int32).toNatClampNeg) : Int32).toInt64), (0, .ref 42), (1, .int x_1), (2, .int x_2)]) rfl rfl rfl ?_
    refine ev_x (i := .aload_n 0) (len := 1) (p' := 40) (s' := [.ref 42]) rfl rfl rfl ?_
    refine ev_gr (p' := 43) (v := 5) rfl rfl rfl ly_42 rfl rfl hr_42_4 ?_
    refine ev_gc (p' := 46) (v := 12) rfl rfl rfl ly_5 rfl rfl ?_
    refine ev_x (i := .aload_n 0) (len := 1) (p' := 47) (s' := [.ref 42, .ref 12]) rfl rfl rfl ?_
    refine ev_gr (p' := 50) (v := 5) rfl rfl rfl ly_42 rfl rfl hr_42_4 ?_
    refine ev_gc (p' := 53) (v := 9) rfl rfl rfl ly_5 rfl rfl ?_
    refine ev_x (i := .iload_n 1) (len := 1) (p' := 54) (s' := [.int x_1, .ref 9, .ref 12]) rfl rfl rfl ?_
    obtain ⟨b_4, H⟩ := F_gd H
    refine ev_ga (p' := 55) (v := (gE (σ) 9 (x_1 : Int32).toNatClampNeg)) rfl rfl ly_9 rfl (gd_in b_4) rfl ?_
    obtain ⟨b_5, H⟩ := F_gd H
    refine ev_ga (p' := 56) (v := (gE (σ) 12 ((gE (σ) 9 (x_1 : Int32).toNatClampNeg) : Int32).toNatClampNeg)) rfl rfl ly_12 rfl (gd_in b_5) rfl ?_
    refine ev_x (i := .i2l) (len := 1) (p' := 57) (s' := [.long ((gE (σ) 12 ((gE (σ) 9 (x_1 : Int32).toNatClampNeg) : Int32).toNatClampNeg) : Int32).toInt64]) rfl rfl rfl ?_
    refine ev_x (i := .lstore 7) (len := 2) (p' := 59) (s' := []) (l' := [(7, .long ((gE (σ) 12 ((gE (σ) 9 (x_1 : Int32).toNatClampNeg) : Int32).toNatClampNeg) : Int32).toInt64), (5, .long ((gE (σ) 13 ((gE (σ) 8 (x_1 : Int32).toNatClampNeg) : Int32).toNatClampNeg) : Int32).toInt64), (3, .long ((gE (σ) 12 ((gE (σ) 8 (x_1 : Int32).toNatClampNeg) : Int32).toNatClampNeg) : Int32).toInt64), (0, .ref 42), (1, .int x_1), (2, .int x_2)]) rfl rfl rfl ?_
    refine ev_x (i := .aload_n 0) (len := 1) (p' := 60) (s' := [.ref 42]) rfl rfl rfl ?_
    refine ev_gr (p' := 63) (v := 5) rfl rfl rfl ly_42 rfl rfl hr_42_4 ?_
    refine ev_gc (p' := 66) (v := 13) rfl rfl rfl ly_5 rfl rfl ?_
    refine ev_x (i := .aload_n 0) (len := 1) (p' := 67) (s' := [.ref 42, .ref 13]) rfl rfl rfl ?_
    refine ev_gr (p' := 70) (v := 5) rfl rfl rfl ly_42 rfl rfl hr_42_4 ?_
    refine ev_gc (p' := 73) (v := 9) rfl rfl rfl ly_5 rfl rfl ?_
    refine ev_x (i := .iload_n 1) (len := 1) (p' := 74) (s' := [.int x_1, .ref 9, .ref 13]) rfl rfl rfl ?_
    refine ev_ga (p' := 75) (v := (gE (σ) 9 (x_1 : Int32).toNatClampNeg)) rfl rfl ly_9 rfl (gd_in b_4) rfl ?_
    obtain ⟨b_6, H⟩ := F_gd H
    refine ev_ga (p' := 76) (v := (gE (σ) 13 ((gE (σ) 9 (x_1 : Int32).toNatClampNeg) : Int32).toNatClampNeg)) rfl rfl ly_13 rfl (gd_in b_6) rfl ?_
    refine ev_x (i := .i2l) (len := 1) (p' := 77) (s' := [.long ((gE (σ) 13 ((gE (σ) 9 (x_1 : Int32).toNatClampNeg) : Int32).toNatClampNeg) : Int32).toInt64]) rfl rfl rfl ?_
    refine ev_x (i := .lstore 9) (len := 2) (p' := 79) (s' := []) (l' := [(9, .long ((gE (σ) 13 ((gE (σ) 9 (x_1 : Int32).toNatClampNeg) : Int32).toNatClampNeg) : Int32).toInt64), (7, .long ((gE (σ) 12 ((gE (σ) 9 (x_1 : Int32).toNatClampNeg) : Int32).toNatClampNeg) : Int32).toInt64), (5, .long ((gE (σ) 13 ((gE (σ) 8 (x_1 : Int32).toNatClampNeg) : Int32).toNatClampNeg) : Int32).toInt64), (3, .long ((gE (σ) 12 ((gE (σ) 8 (x_1 : Int32).toNatClampNeg) : Int32).toNatClampNeg) : Int32).toInt64), (0, .ref 42), (1, .int x_1), (2, .int x_2)]) rfl rfl rfl ?_
    refine ev_x (i := .iload_n 2) (len := 1) (p' := 80) (s' := [.int x_2]) rfl rfl rfl ?_
    refine F_if H (fun c_7 H => ?_) (fun c_7 H => ?_)
    · refine ev_st (st' := [.int 4]) (congrArg (fun z => Value.int z :: []) c_7) ?_
      refine ev_ts (off := 32) (t := 112) rfl rfl (by decide) rfl ?_
      refine ev_x (i := .aload_n 0) (len := 1) (p' := 113) (s' := [.ref 42]) rfl rfl rfl ?_
      refine ev_x (i := .lload_n 3) (len := 1) (p' := 114) (s' := [.long ((gE (σ) 12 ((gE (σ) 8 (x_1 : Int32).toNatClampNeg) : Int32).toNatClampNeg) : Int32).toInt64, .ref 42]) rfl rfl rfl ?_
      refine ev_x (i := .lload 9) (len := 2) (p' := 116) (s' := [.long ((gE (σ) 13 ((gE (σ) 9 (x_1 : Int32).toNatClampNeg) : Int32).toNatClampNeg) : Int32).toInt64, .long ((gE (σ) 12 ((gE (σ) 8 (x_1 : Int32).toNatClampNeg) : Int32).toNatClampNeg) : Int32).toInt64, .ref 42]) rfl rfl rfl ?_
      refine ev_x (i := .lmul) (len := 1) (p' := 117) (s' := [.long (((gE (σ) 12 ((gE (σ) 8 (x_1 : Int32).toNatClampNeg) : Int32).toNatClampNeg) : Int32).toInt64 * ((gE (σ) 13 ((gE (σ) 9 (x_1 : Int32).toNatClampNeg) : Int32).toNatClampNeg) : Int32).toInt64), .ref 42]) rfl rfl rfl ?_
      refine ev_x (i := .lload 7) (len := 2) (p' := 119) (s' := [.long ((gE (σ) 12 ((gE (σ) 9 (x_1 : Int32).toNatClampNeg) : Int32).toNatClampNeg) : Int32).toInt64, .long (((gE (σ) 12 ((gE (σ) 8 (x_1 : Int32).toNatClampNeg) : Int32).toNatClampNeg) : Int32).toInt64 * ((gE (σ) 13 ((gE (σ) 9 (x_1 : Int32).toNatClampNeg) : Int32).toNatClampNeg) : Int32).toInt64), .ref 42]) rfl rfl rfl ?_
      refine ev_x (i := .lload 5) (len := 2) (p' := 121) (s' := [.long ((gE (σ) 13 ((gE (σ) 8 (x_1 : Int32).toNatClampNeg) : Int32).toNatClampNeg) : Int32).toInt64, .long ((gE (σ) 12 ((gE (σ) 9 (x_1 : Int32).toNatClampNeg) : Int32).toNatClampNeg) : Int32).toInt64, .long (((gE (σ) 12 ((gE (σ) 8 (x_1 : Int32).toNatClampNeg) : Int32).toNatClampNeg) : Int32).toInt64 * ((gE (σ) 13 ((gE (σ) 9 (x_1 : Int32).toNatClampNeg) : Int32).toNatClampNeg) : Int32).toInt64), .ref 42]) rfl rfl rfl ?_
      refine ev_x (i := .lmul) (len := 1) (p' := 122) (s' := [.long (((gE (σ) 12 ((gE (σ) 9 (x_1 : Int32).toNatClampNeg) : Int32).toNatClampNeg) : Int32).toInt64 * ((gE (σ) 13 ((gE (σ) 8 (x_1 : Int32).toNatClampNeg) : Int32).toNatClampNeg) : Int32).toInt64), .long (((gE (σ) 12 ((gE (σ) 8 (x_1 : Int32).toNatClampNeg) : Int32).toNatClampNeg) : Int32).toInt64 * ((gE (σ) 13 ((gE (σ) 9 (x_1 : Int32).toNatClampNeg) : Int32).toNatClampNeg) : Int32).toInt64), .ref 42]) rfl rfl rfl ?_
      refine ev_x (i := .ladd) (len := 1) (p' := 123) (s' := [.long ((((gE (σ) 12 ((gE (σ) 8 (x_1 : Int32).toNatClampNeg) : Int32).toNatClampNeg) : Int32).toInt64 * ((gE (σ) 13 ((gE (σ) 9 (x_1 : Int32).toNatClampNeg) : Int32).toNatClampNeg) : Int32).toInt64) + (((gE (σ) 12 ((gE (σ) 9 (x_1 : Int32).toNatClampNeg) : Int32).toNatClampNeg) : Int32).toInt64 * ((gE (σ) 13 ((gE (σ) 8 (x_1 : Int32).toNatClampNeg) : Int32).toNatClampNeg) : Int32).toInt64)), .ref 42]) rfl rfl rfl ?_
      refine ev_pl (p' := 126) rfl rfl rfl ly_42 rfl rfl rfl rfl ?_
      refine ev_x (i := .aload_n 0) (len := 1) (p' := 127) (s' := [.ref 42]) rfl rfl rfl ?_
      refine ev_x (i := .lload 5) (len := 2) (p' := 129) (s' := [.long ((gE (σ) 13 ((gE (σ) 8 (x_1 : Int32).toNatClampNeg) : Int32).toNatClampNeg) : Int32).toInt64, .ref 42]) rfl rfl rfl ?_
      refine ev_x (i := .lload 9) (len := 2) (p' := 131) (s' := [.long ((gE (σ) 13 ((gE (σ) 9 (x_1 : Int32).toNatClampNeg) : Int32).toNatClampNeg) : Int32).toInt64, .long ((gE (σ) 13 ((gE (σ) 8 (x_1 : Int32).toNatClampNeg) : Int32).toNatClampNeg) : Int32).toInt64, .ref 42]) rfl rfl rfl ?_
      refine ev_x (i := .lmul) (len := 1) (p' := 132) (s' := [.long (((gE (σ) 13 ((gE (σ) 8 (x_1 : Int32).toNatClampNeg) : Int32).toNatClampNeg) : Int32).toInt64 * ((gE (σ) 13 ((gE (σ) 9 (x_1 : Int32).toNatClampNeg) : Int32).toNatClampNeg) : Int32).toInt64), .ref 42]) rfl rfl rfl ?_
      refine ev_pl (p' := 135) rfl rfl rfl ly_42 rfl rfl rfl rfl ?_
      refine ev_x (i := .iconst 0) (len := 1) (p' := 136) (s' := [.int 0]) rfl rfl rfl ?_
      obtain rfl := Option.some.inj H
      exact ev_iret rfl rfl rfl rfl
    · refine F_if H (fun c_8 H => ?_) (fun c_8 H => ?_)
      · refine ev_st (st' := [.int 5]) (congrArg (fun z => Value.int z :: []) c_8) ?_
        refine ev_ts (off := 57) (t := 137) rfl rfl (by decide) rfl ?_
        refine ev_x (i := .aload_n 0) (len := 1) (p' := 138) (s' := [.ref 42]) rfl rfl rfl ?_
        refine ev_x (i := .lload_n 3) (len := 1) (p' := 139) (s' := [.long ((gE (σ) 12 ((gE (σ) 8 (x_1 : Int32).toNatClampNeg) : Int32).toNatClampNeg) : Int32).toInt64, .ref 42]) rfl rfl rfl ?_
        refine ev_x (i := .lload 9) (len := 2) (p' := 141) (s' := [.long ((gE (σ) 13 ((gE (σ) 9 (x_1 : Int32).toNatClampNeg) : Int32).toNatClampNeg) : Int32).toInt64, .long ((gE (σ) 12 ((gE (σ) 8 (x_1 : Int32).toNatClampNeg) : Int32).toNatClampNeg) : Int32).toInt64, .ref 42]) rfl rfl rfl ?_
        refine ev_x (i := .lmul) (len := 1) (p' := 142) (s' := [.long (((gE (σ) 12 ((gE (σ) 8 (x_1 : Int32).toNatClampNeg) : Int32).toNatClampNeg) : Int32).toInt64 * ((gE (σ) 13 ((gE (σ) 9 (x_1 : Int32).toNatClampNeg) : Int32).toNatClampNeg) : Int32).toInt64), .ref 42]) rfl rfl rfl ?_
        refine ev_x (i := .lload 7) (len := 2) (p' := 144) (s' := [.long ((gE (σ) 12 ((gE (σ) 9 (x_1 : Int32).toNatClampNeg) : Int32).toNatClampNeg) : Int32).toInt64, .long (((gE (σ) 12 ((gE (σ) 8 (x_1 : Int32).toNatClampNeg) : Int32).toNatClampNeg) : Int32).toInt64 * ((gE (σ) 13 ((gE (σ) 9 (x_1 : Int32).toNatClampNeg) : Int32).toNatClampNeg) : Int32).toInt64), .ref 42]) rfl rfl rfl ?_
        refine ev_x (i := .lload 5) (len := 2) (p' := 146) (s' := [.long ((gE (σ) 13 ((gE (σ) 8 (x_1 : Int32).toNatClampNeg) : Int32).toNatClampNeg) : Int32).toInt64, .long ((gE (σ) 12 ((gE (σ) 9 (x_1 : Int32).toNatClampNeg) : Int32).toNatClampNeg) : Int32).toInt64, .long (((gE (σ) 12 ((gE (σ) 8 (x_1 : Int32).toNatClampNeg) : Int32).toNatClampNeg) : Int32).toInt64 * ((gE (σ) 13 ((gE (σ) 9 (x_1 : Int32).toNatClampNeg) : Int32).toNatClampNeg) : Int32).toInt64), .ref 42]) rfl rfl rfl ?_
        refine ev_x (i := .lmul) (len := 1) (p' := 147) (s' := [.long (((gE (σ) 12 ((gE (σ) 9 (x_1 : Int32).toNatClampNeg) : Int32).toNatClampNeg) : Int32).toInt64 * ((gE (σ) 13 ((gE (σ) 8 (x_1 : Int32).toNatClampNeg) : Int32).toNatClampNeg) : Int32).toInt64), .long (((gE (σ) 12 ((gE (σ) 8 (x_1 : Int32).toNatClampNeg) : Int32).toNatClampNeg) : Int32).toInt64 * ((gE (σ) 13 ((gE (σ) 9 (x_1 : Int32).toNatClampNeg) : Int32).toNatClampNeg) : Int32).toInt64), .ref 42]) rfl rfl rfl ?_
        refine ev_x (i := .lsub) (len := 1) (p' := 148) (s' := [.long ((((gE (σ) 12 ((gE (σ) 8 (x_1 : Int32).toNatClampNeg) : Int32).toNatClampNeg) : Int32).toInt64 * ((gE (σ) 13 ((gE (σ) 9 (x_1 : Int32).toNatClampNeg) : Int32).toNatClampNeg) : Int32).toInt64) - (((gE (σ) 12 ((gE (σ) 9 (x_1 : Int32).toNatClampNeg) : Int32).toNatClampNeg) : Int32).toInt64 * ((gE (σ) 13 ((gE (σ) 8 (x_1 : Int32).toNatClampNeg) : Int32).toNatClampNeg) : Int32).toInt64)), .ref 42]) rfl rfl rfl ?_
        refine ev_pl (p' := 151) rfl rfl rfl ly_42 rfl rfl rfl rfl ?_
        refine ev_x (i := .aload_n 0) (len := 1) (p' := 152) (s' := [.ref 42]) rfl rfl rfl ?_
        refine ev_x (i := .lload 5) (len := 2) (p' := 154) (s' := [.long ((gE (σ) 13 ((gE (σ) 8 (x_1 : Int32).toNatClampNeg) : Int32).toNatClampNeg) : Int32).toInt64, .ref 42]) rfl rfl rfl ?_
        refine ev_x (i := .lload 9) (len := 2) (p' := 156) (s' := [.long ((gE (σ) 13 ((gE (σ) 9 (x_1 : Int32).toNatClampNeg) : Int32).toNatClampNeg) : Int32).toInt64, .long ((gE (σ) 13 ((gE (σ) 8 (x_1 : Int32).toNatClampNeg) : Int32).toNatClampNeg) : Int32).toInt64, .ref 42]) rfl rfl rfl ?_
        refine ev_x (i := .lmul) (len := 1) (p' := 157) (s' := [.long (((gE (σ) 13 ((gE (σ) 8 (x_1 : Int32).toNatClampNeg) : Int32).toNatClampNeg) : Int32).toInt64 * ((gE (σ) 13 ((gE (σ) 9 (x_1 : Int32).toNatClampNeg) : Int32).toNatClampNeg) : Int32).toInt64), .ref 42]) rfl rfl rfl ?_
        refine ev_pl (p' := 160) rfl rfl rfl ly_42 rfl rfl rfl rfl ?_
        refine ev_x (i := .iconst 0) (len := 1) (p' := 161) (s' := [.int 0]) rfl rfl rfl ?_
        obtain rfl := Option.some.inj H
        exact ev_iret rfl rfl rfl rfl
      · refine F_if H (fun c_9 H => ?_) (fun c_9 H => ?_)
        · refine ev_st (st' := [.int 6]) (congrArg (fun z => Value.int z :: []) c_9) ?_
          refine ev_ts (off := 82) (t := 162) rfl rfl (by decide) rfl ?_
          refine ev_x (i := .aload_n 0) (len := 1) (p' := 163) (s' := [.ref 42]) rfl rfl rfl ?_
          refine ev_x (i := .lload_n 3) (len := 1) (p' := 164) (s' := [.long ((gE (σ) 12 ((gE (σ) 8 (x_1 : Int32).toNatClampNeg) : Int32).toNatClampNeg) : Int32).toInt64, .ref 42]) rfl rfl rfl ?_
          refine ev_x (i := .lload 7) (len := 2) (p' := 166) (s' := [.long ((gE (σ) 12 ((gE (σ) 9 (x_1 : Int32).toNatClampNeg) : Int32).toNatClampNeg) : Int32).toInt64, .long ((gE (σ) 12 ((gE (σ) 8 (x_1 : Int32).toNatClampNeg) : Int32).toNatClampNeg) : Int32).toInt64, .ref 42]) rfl rfl rfl ?_
          refine ev_x (i := .lmul) (len := 1) (p' := 167) (s' := [.long (((gE (σ) 12 ((gE (σ) 8 (x_1 : Int32).toNatClampNeg) : Int32).toNatClampNeg) : Int32).toInt64 * ((gE (σ) 12 ((gE (σ) 9 (x_1 : Int32).toNatClampNeg) : Int32).toNatClampNeg) : Int32).toInt64), .ref 42]) rfl rfl rfl ?_
          refine ev_pl (p' := 170) rfl rfl rfl ly_42 rfl rfl rfl rfl ?_
          refine ev_x (i := .aload_n 0) (len := 1) (p' := 171) (s' := [.ref 42]) rfl rfl rfl ?_
          refine ev_x (i := .lload 5) (len := 2) (p' := 173) (s' := [.long ((gE (σ) 13 ((gE (σ) 8 (x_1 : Int32).toNatClampNeg) : Int32).toNatClampNeg) : Int32).toInt64, .ref 42]) rfl rfl rfl ?_
          refine ev_x (i := .lload 9) (len := 2) (p' := 175) (s' := [.long ((gE (σ) 13 ((gE (σ) 9 (x_1 : Int32).toNatClampNeg) : Int32).toNatClampNeg) : Int32).toInt64, .long ((gE (σ) 13 ((gE (σ) 8 (x_1 : Int32).toNatClampNeg) : Int32).toNatClampNeg) : Int32).toInt64, .ref 42]) rfl rfl rfl ?_
          refine ev_x (i := .lmul) (len := 1) (p' := 176) (s' := [.long (((gE (σ) 13 ((gE (σ) 8 (x_1 : Int32).toNatClampNeg) : Int32).toNatClampNeg) : Int32).toInt64 * ((gE (σ) 13 ((gE (σ) 9 (x_1 : Int32).toNatClampNeg) : Int32).toNatClampNeg) : Int32).toInt64), .ref 42]) rfl rfl rfl ?_
          refine ev_pl (p' := 179) rfl rfl rfl ly_42 rfl rfl rfl rfl ?_
          refine ev_x (i := .iconst 0) (len := 1) (p' := 180) (s' := [.int 0]) rfl rfl rfl ?_
          obtain rfl := Option.some.inj H
          exact ev_iret rfl rfl rfl rfl
        · refine F_if H (fun c_10 H => ?_) (fun c_10 H => ?_)
          · refine ev_st (st' := [.int 7]) (congrArg (fun z => Value.int z :: []) c_10) ?_
            refine ev_ts (off := 101) (t := 181) rfl rfl (by decide) rfl ?_
            refine ev_x (i := .aload_n 0) (len := 1) (p' := 182) (s' := [.ref 42]) rfl rfl rfl ?_
            refine ev_x (i := .lload 7) (len := 2) (p' := 184) (s' := [.long ((gE (σ) 12 ((gE (σ) 9 (x_1 : Int32).toNatClampNeg) : Int32).toNatClampNeg) : Int32).toInt64, .ref 42]) rfl rfl rfl ?_
            refine ev_x (i := .lconst 0) (len := 1) (p' := 185) (s' := [.long 0, .long ((gE (σ) 12 ((gE (σ) 9 (x_1 : Int32).toNatClampNeg) : Int32).toNatClampNeg) : Int32).toInt64, .ref 42]) rfl rfl rfl ?_
            refine ev_x (i := .lcmp) (len := 1) (p' := 186) (s' := [.int (lg_cmp ((gE (σ) 12 ((gE (σ) 9 (x_1 : Int32).toNatClampNeg) : Int32).toNatClampNeg) : Int32).toInt64 0), .ref 42]) rfl rfl rfl ?_
            refine F_jn (A := vz_ev P0 (d + 2) 72 201 [(9, .long ((gE (σ) 13 ((gE (σ) 9 (x_1 : Int32).toNatClampNeg) : Int32).toNatClampNeg) : Int32).toInt64), (7, .long ((gE (σ) 12 ((gE (σ) 9 (x_1 : Int32).toNatClampNeg) : Int32).toNatClampNeg) : Int32).toInt64), (5, .long ((gE (σ) 13 ((gE (σ) 8 (x_1 : Int32).toNatClampNeg) : Int32).toNatClampNeg) : Int32).toInt64), (3, .long ((gE (σ) 12 ((gE (σ) 8 (x_1 : Int32).toNatClampNeg) : Int32).toNatClampNeg) : Int32).toInt64), (0, .ref 42), (1, .int x_1), (2, .int x_2)] [.long (if 0 ≤ (lg_cmp ((gE (σ) 12 ((gE (σ) 9 (x_1 : Int32).toNatClampNeg) : Int32).toNatClampNeg) : Int32).toInt64 0) then (((gE (σ) 12 ((gE (σ) 8 (x_1 : Int32).toNatClampNeg) : Int32).toNatClampNeg) : Int32).toInt64 * ((gE (σ) 13 ((gE (σ) 9 (x_1 : Int32).toNatClampNeg) : Int32).toNatClampNeg) : Int32).toInt64) else ((-((gE (σ) 12 ((gE (σ) 8 (x_1 : Int32).toNatClampNeg) : Int32).toNatClampNeg) : Int32).toInt64) * ((gE (σ) 13 ((gE (σ) 9 (x_1 : Int32).toNatClampNeg) : Int32).toNatClampNeg) : Int32).toInt64) : Int64), .ref 42] (hp (σ)) (.inl (some (.int p.1)), hp p.2)) ?_ (fun J => ?_)
            · refine ev_pl (p' := 204) rfl rfl rfl ly_42 rfl rfl rfl rfl ?_
              refine ev_x (i := .aload_n 0) (len := 1) (p' := 205) (s' := [.ref 42]) rfl rfl rfl ?_
              refine ev_x (i := .lload 7) (len := 2) (p' := 207) (s' := [.long ((gE (σ) 12 ((gE (σ) 9 (x_1 : Int32).toNatClampNeg) : Int32).toNatClampNeg) : Int32).toInt64, .ref 42]) rfl rfl rfl ?_
              refine ev_x (i := .lconst 0) (len := 1) (p' := 208) (s' := [.long 0, .long ((gE (σ) 12 ((gE (σ) 9 (x_1 : Int32).toNatClampNeg) : Int32).toNatClampNeg) : Int32).toInt64, .ref 42]) rfl rfl rfl ?_
              refine ev_x (i := .lcmp) (len := 1) (p' := 209) (s' := [.int (lg_cmp ((gE (σ) 12 ((gE (σ) 9 (x_1 : Int32).toNatClampNeg) : Int32).toNatClampNeg) : Int32).toInt64 0), .ref 42]) rfl rfl rfl ?_
              refine F_jn (A := vz_ev P0 (d + 2) 72 226 [(9, .long ((gE (σ) 13 ((gE (σ) 9 (x_1 : Int32).toNatClampNeg) : Int32).toNatClampNeg) : Int32).toInt64), (7, .long ((gE (σ) 12 ((gE (σ) 9 (x_1 : Int32).toNatClampNeg) : Int32).toNatClampNeg) : Int32).toInt64), (5, .long ((gE (σ) 13 ((gE (σ) 8 (x_1 : Int32).toNatClampNeg) : Int32).toNatClampNeg) : Int32).toInt64), (3, .long ((gE (σ) 12 ((gE (σ) 8 (x_1 : Int32).toNatClampNeg) : Int32).toNatClampNeg) : Int32).toInt64), (0, .ref 42), (1, .int x_1), (2, .int x_2)] [.long (if 0 ≤ (lg_cmp ((gE (σ) 12 ((gE (σ) 9 (x_1 : Int32).toNatClampNeg) : Int32).toNatClampNeg) : Int32).toInt64 0) then (((gE (σ) 13 ((gE (σ) 8 (x_1 : Int32).toNatClampNeg) : Int32).toNatClampNeg) : Int32).toInt64 * ((gE (σ) 12 ((gE (σ) 9 (x_1 : Int32).toNatClampNeg) : Int32).toNatClampNeg) : Int32).toInt64) else ((-((gE (σ) 13 ((gE (σ) 8 (x_1 : Int32).toNatClampNeg) : Int32).toNatClampNeg) : Int32).toInt64) * ((gE (σ) 12 ((gE (σ) 9 (x_1 : Int32).toNatClampNeg) : Int32).toNatClampNeg) : Int32).toInt64) : Int64), .ref 42] (hp (st_l (σ) 42 7 (if 0 ≤ (lg_cmp ((gE (σ) 12 ((gE (σ) 9 (x_1 : Int32).toNatClampNeg) : Int32).toNatClampNeg) : Int32).toInt64 0) then (((gE (σ) 12 ((gE (σ) 8 (x_1 : Int32).toNatClampNeg) : Int32).toNatClampNeg) : Int32).toInt64 * ((gE (σ) 13 ((gE (σ) 9 (x_1 : Int32).toNatClampNeg) : Int32).toNatClampNeg) : Int32).toInt64) else ((-((gE (σ) 12 ((gE (σ) 8 (x_1 : Int32).toNatClampNeg) : Int32).toNatClampNeg) : Int32).toInt64) * ((gE (σ) 13 ((gE (σ) 9 (x_1 : Int32).toNatClampNeg) : Int32).toNatClampNeg) : Int32).toInt64) : Int64))) (.inl (some (.int p.1)), hp p.2)) ?_ (fun J => ?_)
              · refine ev_pl (p' := 229) rfl rfl rfl ly_42 rfl rfl rfl rfl ?_
                refine ev_x (i := .lload 7) (len := 2) (p' := 231) (s' := [.long ((gE (σ) 12 ((gE (σ) 9 (x_1 : Int32).toNatClampNeg) : Int32).toNatClampNeg) : Int32).toInt64]) rfl rfl rfl ?_
                refine ev_x (i := .lconst 0) (len := 1) (p' := 232) (s' := [.long 0, .long ((gE (σ) 12 ((gE (σ) 9 (x_1 : Int32).toNatClampNeg) : Int32).toNatClampNeg) : Int32).toInt64]) rfl rfl rfl ?_
                refine ev_x (i := .lcmp) (len := 1) (p' := 233) (s' := [.int (lg_cmp ((gE (σ) 12 ((gE (σ) 9 (x_1 : Int32).toNatClampNeg) : Int32).toNatClampNeg) : Int32).toInt64 0)]) rfl rfl rfl ?_
                refine F_jn (A := vz_ev P0 (d + 2) 72 242 [(9, .long ((gE (σ) 13 ((gE (σ) 9 (x_1 : Int32).toNatClampNeg) : Int32).toNatClampNeg) : Int32).toInt64), (7, .long ((gE (σ) 12 ((gE (σ) 9 (x_1 : Int32).toNatClampNeg) : Int32).toNatClampNeg) : Int32).toInt64), (5, .long ((gE (σ) 13 ((gE (σ) 8 (x_1 : Int32).toNatClampNeg) : Int32).toNatClampNeg) : Int32).toInt64), (3, .long ((gE (σ) 12 ((gE (σ) 8 (x_1 : Int32).toNatClampNeg) : Int32).toNatClampNeg) : Int32).toInt64), (0, .ref 42), (1, .int x_1), (2, .int x_2)] [.int (if (lg_cmp ((gE (σ) 12 ((gE (σ) 9 (x_1 : Int32).toNatClampNeg) : Int32).toNatClampNeg) : Int32).toInt64 0) = 0 then 7 else 0 : Int32)] (hp (st_l (st_l (σ) 42 7 (if 0 ≤ (lg_cmp ((gE (σ) 12 ((gE (σ) 9 (x_1 : Int32).toNatClampNeg) : Int32).toNatClampNeg) : Int32).toInt64 0) then (((gE (σ) 12 ((gE (σ) 8 (x_1 : Int32).toNatClampNeg) : Int32).toNatClampNeg) : Int32).toInt64 * ((gE (σ) 13 ((gE (σ) 9 (x_1 : Int32).toNatClampNeg) : Int32).toNatClampNeg) : Int32).toInt64) else ((-((gE (σ) 12 ((gE (σ) 8 (x_1 : Int32).toNatClampNeg) : Int32).toNatClampNeg) : Int32).toInt64) * ((gE (σ) 13 ((gE (σ) 9 (x_1 : Int32).toNatClampNeg) : Int32).toNatClampNeg) : Int32).toInt64) : Int64)) 42 8 (if 0 ≤ (lg_cmp ((gE (σ) 12 ((gE (σ) 9 (x_1 : Int32).toNatClampNeg) : Int32).toNatClampNeg) : Int32).toInt64 0) then (((gE (σ) 13 ((gE (σ) 8 (x_1 : Int32).toNatClampNeg) : Int32).toNatClampNeg) : Int32).toInt64 * ((gE (σ) 12 ((gE (σ) 9 (x_1 : Int32).toNatClampNeg) : Int32).toNatClampNeg) : Int32).toInt64) else ((-((gE (σ) 13 ((gE (σ) 8 (x_1 : Int32).toNatClampNeg) : Int32).toNatClampNeg) : Int32).toInt64) * ((gE (σ) 12 ((gE (σ) 9 (x_1 : Int32).toNatClampNeg) : Int32).toNatClampNeg) : Int32).toInt64) : Int64))) (.inl (some (.int p.1)), hp p.2)) ?_ (fun J => ?_)
                · obtain rfl := Option.some.inj H
                  exact ev_iret rfl rfl rfl rfl
                · by_cases c_13 : (lg_cmp ((gE (σ) 12 ((gE (σ) 9 (x_1 : Int32).toNatClampNeg) : Int32).toNatClampNeg) : Int32).toInt64 0) = 0
                  · refine ev_b0 (t := 241) (p' := 236) rfl rfl rfl (if_neg (fun q => q c_13)) ?_
                    refine ev_x (i := .bipush 7) (len := 2) (p' := 238) (s' := [.int 7]) rfl rfl rfl ?_
                    refine ev_x (i := .goto 4) (len := 3) (p' := 242) (s' := [.int 7]) rfl rfl rfl ?_
                    exact ev_st (congrArg (fun z => Value.int z :: []) (by rw [if_pos c_13])) J
                  · refine ev_b0 (t := 241) (p' := 241) rfl rfl rfl (if_pos c_13) ?_
                    refine ev_x (i := .iconst 0) (len := 1) (p' := 242) (s' := [.int 0]) rfl rfl rfl ?_
                    exact ev_st (congrArg (fun z => Value.int z :: []) (by rw [if_neg c_13])) J
              · by_cases c_12 : 0 ≤ (lg_cmp ((gE (σ) 12 ((gE (σ) 9 (x_1 : Int32).toNatClampNeg) : Int32).toNatClampNeg) : Int32).toInt64 0)
                · refine ev_b0 (t := 221) (p' := 221) rfl rfl rfl (if_pos c_12) ?_
                  refine ev_x (i := .lload 5) (len := 2) (p' := 223) (s' := [.long ((gE (σ) 13 ((gE (σ) 8 (x_1 : Int32).toNatClampNeg) : Int32).toNatClampNeg) : Int32).toInt64, .ref 42]) rfl rfl rfl ?_
                  refine ev_x (i := .lload 7) (len := 2) (p' := 225) (s' := [.long ((gE (σ) 12 ((gE (σ) 9 (x_1 : Int32).toNatClampNeg) : Int32).toNatClampNeg) : Int32).toInt64, .long ((gE (σ) 13 ((gE (σ) 8 (x_1 : Int32).toNatClampNeg) : Int32).toNatClampNeg) : Int32).toInt64, .ref 42]) rfl rfl rfl ?_
                  refine ev_x (i := .lmul) (len := 1) (p' := 226) (s' := [.long (((gE (σ) 13 ((gE (σ) 8 (x_1 : Int32).toNatClampNeg) : Int32).toNatClampNeg) : Int32).toInt64 * ((gE (σ) 12 ((gE (σ) 9 (x_1 : Int32).toNatClampNeg) : Int32).toNatClampNeg) : Int32).toInt64), .ref 42]) rfl rfl rfl ?_
                  exact ev_st (congrArg (fun z => Value.long z :: [.ref 42]) (by rw [if_pos c_12])) J
                · refine ev_b0 (t := 221) (p' := 212) rfl rfl rfl (if_neg c_12) ?_
                  refine ev_x (i := .lload 5) (len := 2) (p' := 214) (s' := [.long ((gE (σ) 13 ((gE (σ) 8 (x_1 : Int32).toNatClampNeg) : Int32).toNatClampNeg) : Int32).toInt64, .ref 42]) rfl rfl rfl ?_
                  refine ev_x (i := .lneg) (len := 1) (p' := 215) (s' := [.long (-((gE (σ) 13 ((gE (σ) 8 (x_1 : Int32).toNatClampNeg) : Int32).toNatClampNeg) : Int32).toInt64), .ref 42]) rfl rfl rfl ?_
                  refine ev_x (i := .lload 7) (len := 2) (p' := 217) (s' := [.long ((gE (σ) 12 ((gE (σ) 9 (x_1 : Int32).toNatClampNeg) : Int32).toNatClampNeg) : Int32).toInt64, .long (-((gE (σ) 13 ((gE (σ) 8 (x_1 : Int32).toNatClampNeg) : Int32).toNatClampNeg) : Int32).toInt64), .ref 42]) rfl rfl rfl ?_
                  refine ev_x (i := .lmul) (len := 1) (p' := 218) (s' := [.long ((-((gE (σ) 13 ((gE (σ) 8 (x_1 : Int32).toNatClampNeg) : Int32).toNatClampNeg) : Int32).toInt64) * ((gE (σ) 12 ((gE (σ) 9 (x_1 : Int32).toNatClampNeg) : Int32).toNatClampNeg) : Int32).toInt64), .ref 42]) rfl rfl rfl ?_
                  refine ev_x (i := .goto 8) (len := 3) (p' := 226) (s' := [.long ((-((gE (σ) 13 ((gE (σ) 8 (x_1 : Int32).toNatClampNeg) : Int32).toNatClampNeg) : Int32).toInt64) * ((gE (σ) 12 ((gE (σ) 9 (x_1 : Int32).toNatClampNeg) : Int32).toNatClampNeg) : Int32).toInt64), .ref 42]) rfl rfl rfl ?_
                  exact ev_st (congrArg (fun z => Value.long z :: [.ref 42]) (by rw [if_neg c_12])) J
            · by_cases c_11 : 0 ≤ (lg_cmp ((gE (σ) 12 ((gE (σ) 9 (x_1 : Int32).toNatClampNeg) : Int32).toNatClampNeg) : Int32).toInt64 0)
              · refine ev_b0 (t := 197) (p' := 197) rfl rfl rfl (if_pos c_11) ?_
                refine ev_x (i := .lload_n 3) (len := 1) (p' := 198) (s' := [.long ((gE (σ) 12 ((gE (σ) 8 (x_1 : Int32).toNatClampNeg) : Int32).toNatClampNeg) : Int32).toInt64, .ref 42]) rfl rfl rfl ?_
                refine ev_x (i := .lload 9) (len := 2) (p' := 200) (s' := [.long ((gE (σ) 13 ((gE (σ) 9 (x_1 : Int32).toNatClampNeg) : Int32).toNatClampNeg) : Int32).toInt64, .long ((gE (σ) 12 ((gE (σ) 8 (x_1 : Int32).toNatClampNeg) : Int32).toNatClampNeg) : Int32).toInt64, .ref 42]) rfl rfl rfl ?_
                refine ev_x (i := .lmul) (len := 1) (p' := 201) (s' := [.long (((gE (σ) 12 ((gE (σ) 8 (x_1 : Int32).toNatClampNeg) : Int32).toNatClampNeg) : Int32).toInt64 * ((gE (σ) 13 ((gE (σ) 9 (x_1 : Int32).toNatClampNeg) : Int32).toNatClampNeg) : Int32).toInt64), .ref 42]) rfl rfl rfl ?_
                exact ev_st (congrArg (fun z => Value.long z :: [.ref 42]) (by rw [if_pos c_11])) J
              · refine ev_b0 (t := 197) (p' := 189) rfl rfl rfl (if_neg c_11) ?_
                refine ev_x (i := .lload_n 3) (len := 1) (p' := 190) (s' := [.long ((gE (σ) 12 ((gE (σ) 8 (x_1 : Int32).toNatClampNeg) : Int32).toNatClampNeg) : Int32).toInt64, .ref 42]) rfl rfl rfl ?_
                refine ev_x (i := .lneg) (len := 1) (p' := 191) (s' := [.long (-((gE (σ) 12 ((gE (σ) 8 (x_1 : Int32).toNatClampNeg) : Int32).toNatClampNeg) : Int32).toInt64), .ref 42]) rfl rfl rfl ?_
                refine ev_x (i := .lload 9) (len := 2) (p' := 193) (s' := [.long ((gE (σ) 13 ((gE (σ) 9 (x_1 : Int32).toNatClampNeg) : Int32).toNatClampNeg) : Int32).toInt64, .long (-((gE (σ) 12 ((gE (σ) 8 (x_1 : Int32).toNatClampNeg) : Int32).toNatClampNeg) : Int32).toInt64), .ref 42]) rfl rfl rfl ?_
                refine ev_x (i := .lmul) (len := 1) (p' := 194) (s' := [.long ((-((gE (σ) 12 ((gE (σ) 8 (x_1 : Int32).toNatClampNeg) : Int32).toNatClampNeg) : Int32).toInt64) * ((gE (σ) 13 ((gE (σ) 9 (x_1 : Int32).toNatClampNeg) : Int32).toNatClampNeg) : Int32).toInt64), .ref 42]) rfl rfl rfl ?_
                refine ev_x (i := .goto 7) (len := 3) (p' := 201) (s' := [.long ((-((gE (σ) 12 ((gE (σ) 8 (x_1 : Int32).toNatClampNeg) : Int32).toNatClampNeg) : Int32).toInt64) * ((gE (σ) 13 ((gE (σ) 9 (x_1 : Int32).toNatClampNeg) : Int32).toNatClampNeg) : Int32).toInt64), .ref 42]) rfl rfl rfl ?_
                exact ev_st (congrArg (fun z => Value.long z :: [.ref 42]) (by rw [if_neg c_11])) J
          · have n_4 : (4 : Int) ≠ (x_2 : Int32).toInt := i32_ne (k := 4) (by decide) c_7
            have n_5 : (5 : Int) ≠ (x_2 : Int32).toInt := i32_ne (k := 5) (by decide) c_8
            have n_6 : (6 : Int) ≠ (x_2 : Int32).toInt := i32_ne (k := 6) (by decide) c_9
            have n_7 : (7 : Int) ≠ (x_2 : Int32).toInt := i32_ne (k := 7) (by decide) c_10
            refine ev_ts (off := 163) (t := 243) rfl rfl ?hsw rfl ?_
            case hsw =>
              by_cases hq : (x_2 : Int32).toInt < 4 ∨ 7 < (x_2 : Int32).toInt
              · exact if_pos hq
              · rw [if_neg hq]
                exact absurd hq (by omega)
            refine ev_x (i := .lload 5) (len := 2) (p' := 245) (s' := [.long ((gE (σ) 13 ((gE (σ) 8 (x_1 : Int32).toNatClampNeg) : Int32).toNatClampNeg) : Int32).toInt64]) rfl rfl rfl ?_
            refine ev_x (i := .lconst 1) (len := 1) (p' := 246) (s' := [.long 1, .long ((gE (σ) 13 ((gE (σ) 8 (x_1 : Int32).toNatClampNeg) : Int32).toNatClampNeg) : Int32).toInt64]) rfl rfl rfl ?_
            refine ev_x (i := .lcmp) (len := 1) (p' := 247) (s' := [.int (lg_cmp ((gE (σ) 13 ((gE (σ) 8 (x_1 : Int32).toNatClampNeg) : Int32).toNatClampNeg) : Int32).toInt64 1)]) rfl rfl rfl ?_
            refine F_if H (fun c_14 H => ?_) (fun c_14 H => ?_)
            · refine ev_b0 (t := 257) (p' := 250) rfl rfl rfl (if_neg (fun q => q c_14)) ?_
              refine ev_x (i := .lload 9) (len := 2) (p' := 252) (s' := [.long ((gE (σ) 13 ((gE (σ) 9 (x_1 : Int32).toNatClampNeg) : Int32).toNatClampNeg) : Int32).toInt64]) rfl rfl rfl ?_
              refine ev_x (i := .lconst 1) (len := 1) (p' := 253) (s' := [.long 1, .long ((gE (σ) 13 ((gE (σ) 9 (x_1 : Int32).toNatClampNeg) : Int32).toNatClampNeg) : Int32).toInt64]) rfl rfl rfl ?_
              refine ev_x (i := .lcmp) (len := 1) (p' := 254) (s' := [.int (lg_cmp ((gE (σ) 13 ((gE (σ) 9 (x_1 : Int32).toNatClampNeg) : Int32).toNatClampNeg) : Int32).toInt64 1)]) rfl rfl rfl ?_
              refine F_if H (fun c_15 H => ?_) (fun c_15 H => ?_)
              · refine ev_b0 (t := 260) (p' := 260) rfl rfl rfl (if_pos c_15) ?_
                refine ev_x (i := .lload 7) (len := 2) (p' := 262) (s' := [.long ((gE (σ) 12 ((gE (σ) 9 (x_1 : Int32).toNatClampNeg) : Int32).toNatClampNeg) : Int32).toInt64]) rfl rfl rfl ?_
                refine ev_x (i := .lconst 0) (len := 1) (p' := 263) (s' := [.long 0, .long ((gE (σ) 12 ((gE (σ) 9 (x_1 : Int32).toNatClampNeg) : Int32).toNatClampNeg) : Int32).toInt64]) rfl rfl rfl ?_
                refine ev_x (i := .lcmp) (len := 1) (p' := 264) (s' := [.int (lg_cmp ((gE (σ) 12 ((gE (σ) 9 (x_1 : Int32).toNatClampNeg) : Int32).toNatClampNeg) : Int32).toInt64 0)]) rfl rfl rfl ?_
                refine F_if H (fun c_16 H => ?_) (fun c_16 H => ?_)
                · refine ev_b0 (t := 270) (p' := 270) rfl rfl rfl (if_pos c_16) ?_
                  refine ev_x (i := .aload_n 0) (len := 1) (p' := 271) (s' := [.ref 42]) rfl rfl rfl ?_
                  refine ev_x (i := .lload_n 3) (len := 1) (p' := 272) (s' := [.long ((gE (σ) 12 ((gE (σ) 8 (x_1 : Int32).toNatClampNeg) : Int32).toNatClampNeg) : Int32).toInt64, .ref 42]) rfl rfl rfl ?_
                  refine ev_x (i := .lload 7) (len := 2) (p' := 274) (s' := [.long ((gE (σ) 12 ((gE (σ) 9 (x_1 : Int32).toNatClampNeg) : Int32).toNatClampNeg) : Int32).toInt64, .long ((gE (σ) 12 ((gE (σ) 8 (x_1 : Int32).toNatClampNeg) : Int32).toNatClampNeg) : Int32).toInt64, .ref 42]) rfl rfl rfl ?_
                  obtain ⟨p_17, G_17, H⟩ := F_bd H
                  refine ev_callS (d := d + 1) (As := [.long ((gE (σ) 12 ((gE (σ) 8 (x_1 : Int32).toNatClampNeg) : Int32).toNatClampNeg) : Int32).toInt64, .long ((gE (σ) 12 ((gE (σ) 9 (x_1 : Int32).toNatClampNeg) : Int32).toNatClampNeg) : Int32).toInt64]) rfl rfl rfl (by decide) rfl rfl rfl rfl rfl (F_73_ok (d := d + 0)   G_17) ?_
                  refine ev_st (st' := [.long p_17.1, .ref 42]) rfl ?_
                  refine ev_pc (pc' := 277) rfl ?_
                  have e_17 := F_73_R G_17
                  refine ev_pl (p' := 280) rfl rfl rfl ly_42 rfl rfl rfl rfl ?_
                  refine ev_x (i := .aload_n 0) (len := 1) (p' := 281) (s' := [.ref 42]) rfl rfl rfl ?_
                  refine ev_x (i := .lconst 1) (len := 1) (p' := 282) (s' := [.long 1, .ref 42]) rfl rfl rfl ?_
                  refine ev_pl (p' := 285) rfl rfl rfl ly_42 rfl rfl rfl rfl ?_
                  refine ev_x (i := .iconst 0) (len := 1) (p' := 286) (s' := [.int 0]) rfl rfl rfl ?_
                  obtain rfl := Option.some.inj H
                  exact ev_iret rfl rfl rfl rfl
                · refine ev_b0 (t := 270) (p' := 267) rfl rfl rfl (if_neg c_16) ?_
                  refine ev_x (i := .bipush 7) (len := 2) (p' := 269) (s' := [.int 7]) rfl rfl rfl ?_
                  obtain rfl := Option.some.inj H
                  exact ev_iret rfl rfl rfl rfl
              · refine ev_b0 (t := 260) (p' := 257) rfl rfl rfl (if_neg c_15) ?_
                refine ev_x (i := .bipush 8) (len := 2) (p' := 259) (s' := [.int 8]) rfl rfl rfl ?_
                obtain rfl := Option.some.inj H
                exact ev_iret rfl rfl rfl rfl
            · refine ev_b0 (t := 257) (p' := 257) rfl rfl rfl (if_pos c_14) ?_
              refine ev_x (i := .bipush 8) (len := 2) (p' := 259) (s' := [.int 8]) rfl rfl rfl ?_
              obtain rfl := Option.some.inj H
              exact ev_iret rfl rfl rfl rfl
  · refine ev_x (i := .aload_n 0) (len := 1) (p' := 1) (s' := [.ref 42]) rfl rfl rfl ?_
    refine ev_gr (p' := 4) (v := 21) rfl rfl rfl ly_42 rfl rfl hr_42_4 ?_
    refine ev_gc (p' := 7) (v := 28) rfl rfl rfl ly_21 rfl rfl ?_
    refine ev_x (i := .aload_n 0) (len := 1) (p' := 8) (s' := [.ref 42, .ref 28]) rfl rfl rfl ?_
    refine ev_gr (p' := 11) (v := 21) rfl rfl rfl ly_42 rfl rfl hr_42_4 ?_
    refine ev_gc (p' := 14) (v := 24) rfl rfl rfl ly_21 rfl rfl ?_
    refine ev_x (i := .iload_n 1) (len := 1) (p' := 15) (s' := [.int x_1, .ref 24, .ref 28]) rfl rfl rfl ?_
    obtain ⟨b_1, H⟩ := F_gd H
    refine ev_ga (p' := 16) (v := (gE (σ) 24 (x_1 : Int32).toNatClampNeg)) rfl rfl ly_24 rfl (gd_in b_1) rfl ?_
    obtain ⟨b_2, H⟩ := F_gd H
    refine ev_ga (p' := 17) (v := (gE (σ) 28 ((gE (σ) 24 (x_1 : Int32).toNatClampNeg) : Int32).toNatClampNeg)) rfl rfl ly_28 rfl (gd_in b_2) rfl ?_
    refine ev_x (i := .i2l) (len := 1) (p' := 18) (s' := [.long ((gE (σ) 28 ((gE (σ) 24 (x_1 : Int32).toNatClampNeg) : Int32).toNatClampNeg) : Int32).toInt64]) rfl rfl rfl ?_
    refine ev_x (i := .lstore_n 3) (len := 1) (p' := 19) (s' := []) (l' := [(3, .long ((gE (σ) 28 ((gE (σ) 24 (x_1 : Int32).toNatClampNeg) : Int32).toNatClampNeg) : Int32).toInt64), (0, .ref 42), (1, .int x_1), (2, .int x_2)]) rfl rfl rfl ?_
    refine ev_x (i := .aload_n 0) (len := 1) (p' := 20) (s' := [.ref 42]) rfl rfl rfl ?_
    refine ev_gr (p' := 23) (v := 21) rfl rfl rfl ly_42 rfl rfl hr_42_4 ?_
    refine ev_gc (p' := 26) (v := 29) rfl rfl rfl ly_21 rfl rfl ?_
    refine ev_x (i := .aload_n 0) (len := 1) (p' := 27) (s' := [.ref 42, .ref 29]) rfl rfl rfl ?_
    refine ev_gr (p' := 30) (v := 21) rfl rfl rfl ly_42 rfl rfl hr_42_4 ?_
    refine ev_gc (p' := 33) (v := 24) rfl rfl rfl ly_21 rfl rfl ?_
    refine ev_x (i := .iload_n 1) (len := 1) (p' := 34) (s' := [.int x_1, .ref 24, .ref 29]) rfl rfl rfl ?_
    refine ev_ga (p' := 35) (v := (gE (σ) 24 (x_1 : Int32).toNatClampNeg)) rfl rfl ly_24 rfl (gd_in b_1) rfl ?_
    obtain ⟨b_3, H⟩ := F_gd H
    refine ev_ga (p' := 36) (v := (gE (σ) 29 ((gE (σ) 24 (x_1 : Int32).toNatClampNeg) : Int32).toNatClampNeg)) rfl rfl ly_29 rfl (gd_in b_3) rfl ?_
    refine ev_x (i := .i2l) (len := 1) (p' := 37) (s' := [.long ((gE (σ) 29 ((gE (σ) 24 (x_1 : Int32).toNatClampNeg) : Int32).toNatClampNeg) : Int32).toInt64]) rfl rfl rfl ?_
    refine ev_x (i := .lstore 5) (len := 2) (p' := 39) (s' := []) (l' := [(5, .long ((gE (σ) 29 ((gE (σ) 24 (x_1 : Int32).toNatClampNeg) : Int32).toNatClampNeg) : Int32).toInt64), (3, .long ((gE (σ) 28 ((gE (σ) 24 (x_1 : Int32).toNatClampNeg) : Int32).toNatClampNeg) : Int32).toInt64), (0, .ref 42), (1, .int x_1), (2, .int x_2)]) rfl rfl rfl ?_
    refine ev_x (i := .aload_n 0) (len := 1) (p' := 40) (s' := [.ref 42]) rfl rfl rfl ?_
    refine ev_gr (p' := 43) (v := 21) rfl rfl rfl ly_42 rfl rfl hr_42_4 ?_
    refine ev_gc (p' := 46) (v := 28) rfl rfl rfl ly_21 rfl rfl ?_
    refine ev_x (i := .aload_n 0) (len := 1) (p' := 47) (s' := [.ref 42, .ref 28]) rfl rfl rfl ?_
    refine ev_gr (p' := 50) (v := 21) rfl rfl rfl ly_42 rfl rfl hr_42_4 ?_
    refine ev_gc (p' := 53) (v := 25) rfl rfl rfl ly_21 rfl rfl ?_
    refine ev_x (i := .iload_n 1) (len := 1) (p' := 54) (s' := [.int x_1, .ref 25, .ref 28]) rfl rfl rfl ?_
    obtain ⟨b_4, H⟩ := F_gd H
    refine ev_ga (p' := 55) (v := (gE (σ) 25 (x_1 : Int32).toNatClampNeg)) rfl rfl ly_25 rfl (gd_in b_4) rfl ?_
    obtain ⟨b_5, H⟩ := F_gd H
    refine ev_ga (p' := 56) (v := (gE (σ) 28 ((gE (σ) 25 (x_1 : Int32).toNatClampNeg) : Int32).toNatClampNeg)) rfl rfl ly_28 rfl (gd_in b_5) rfl ?_
    refine ev_x (i := .i2l) (len := 1) (p' := 57) (s' := [.long ((gE (σ) 28 ((gE (σ) 25 (x_1 : Int32).toNatClampNeg) : Int32).toNatClampNeg) : Int32).toInt64]) rfl rfl rfl ?_
    refine ev_x (i := .lstore 7) (len := 2) (p' := 59) (s' := []) (l' := [(7, .long ((gE (σ) 28 ((gE (σ) 25 (x_1 : Int32).toNatClampNeg) : Int32).toNatClampNeg) : Int32).toInt64), (5, .long ((gE (σ) 29 ((gE (σ) 24 (x_1 : Int32).toNatClampNeg) : Int32).toNatClampNeg) : Int32).toInt64), (3, .long ((gE (σ) 28 ((gE (σ) 24 (x_1 : Int32).toNatClampNeg) : Int32).toNatClampNeg) : Int32).toInt64), (0, .ref 42), (1, .int x_1), (2, .int x_2)]) rfl rfl rfl ?_
    refine ev_x (i := .aload_n 0) (len := 1) (p' := 60) (s' := [.ref 42]) rfl rfl rfl ?_
    refine ev_gr (p' := 63) (v := 21) rfl rfl rfl ly_42 rfl rfl hr_42_4 ?_
    refine ev_gc (p' := 66) (v := 29) rfl rfl rfl ly_21 rfl rfl ?_
    refine ev_x (i := .aload_n 0) (len := 1) (p' := 67) (s' := [.ref 42, .ref 29]) rfl rfl rfl ?_
    refine ev_gr (p' := 70) (v := 21) rfl rfl rfl ly_42 rfl rfl hr_42_4 ?_
    refine ev_gc (p' := 73) (v := 25) rfl rfl rfl ly_21 rfl rfl ?_
    refine ev_x (i := .iload_n 1) (len := 1) (p' := 74) (s' := [.int x_1, .ref 25, .ref 29]) rfl rfl rfl ?_
    refine ev_ga (p' := 75) (v := (gE (σ) 25 (x_1 : Int32).toNatClampNeg)) rfl rfl ly_25 rfl (gd_in b_4) rfl ?_
    obtain ⟨b_6, H⟩ := F_gd H
    refine ev_ga (p' := 76) (v := (gE (σ) 29 ((gE (σ) 25 (x_1 : Int32).toNatClampNeg) : Int32).toNatClampNeg)) rfl rfl ly_29 rfl (gd_in b_6) rfl ?_
    refine ev_x (i := .i2l) (len := 1) (p' := 77) (s' := [.long ((gE (σ) 29 ((gE (σ) 25 (x_1 : Int32).toNatClampNeg) : Int32).toNatClampNeg) : Int32).toInt64]) rfl rfl rfl ?_
    refine ev_x (i := .lstore 9) (len := 2) (p' := 79) (s' := []) (l' := [(9, .long ((gE (σ) 29 ((gE (σ) 25 (x_1 : Int32).toNatClampNeg) : Int32).toNatClampNeg) : Int32).toInt64), (7, .long ((gE (σ) 28 ((gE (σ) 25 (x_1 : Int32).toNatClampNeg) : Int32).toNatClampNeg) : Int32).toInt64), (5, .long ((gE (σ) 29 ((gE (σ) 24 (x_1 : Int32).toNatClampNeg) : Int32).toNatClampNeg) : Int32).toInt64), (3, .long ((gE (σ) 28 ((gE (σ) 24 (x_1 : Int32).toNatClampNeg) : Int32).toNatClampNeg) : Int32).toInt64), (0, .ref 42), (1, .int x_1), (2, .int x_2)]) rfl rfl rfl ?_
    refine ev_x (i := .iload_n 2) (len := 1) (p' := 80) (s' := [.int x_2]) rfl rfl rfl ?_
    refine F_if H (fun c_7 H => ?_) (fun c_7 H => ?_)
    · refine ev_st (st' := [.int 4]) (congrArg (fun z => Value.int z :: []) c_7) ?_
      refine ev_ts (off := 32) (t := 112) rfl rfl (by decide) rfl ?_
      refine ev_x (i := .aload_n 0) (len := 1) (p' := 113) (s' := [.ref 42]) rfl rfl rfl ?_
      refine ev_x (i := .lload_n 3) (len := 1) (p' := 114) (s' := [.long ((gE (σ) 28 ((gE (σ) 24 (x_1 : Int32).toNatClampNeg) : Int32).toNatClampNeg) : Int32).toInt64, .ref 42]) rfl rfl rfl ?_
      refine ev_x (i := .lload 9) (len := 2) (p' := 116) (s' := [.long ((gE (σ) 29 ((gE (σ) 25 (x_1 : Int32).toNatClampNeg) : Int32).toNatClampNeg) : Int32).toInt64, .long ((gE (σ) 28 ((gE (σ) 24 (x_1 : Int32).toNatClampNeg) : Int32).toNatClampNeg) : Int32).toInt64, .ref 42]) rfl rfl rfl ?_
      refine ev_x (i := .lmul) (len := 1) (p' := 117) (s' := [.long (((gE (σ) 28 ((gE (σ) 24 (x_1 : Int32).toNatClampNeg) : Int32).toNatClampNeg) : Int32).toInt64 * ((gE (σ) 29 ((gE (σ) 25 (x_1 : Int32).toNatClampNeg) : Int32).toNatClampNeg) : Int32).toInt64), .ref 42]) rfl rfl rfl ?_
      refine ev_x (i := .lload 7) (len := 2) (p' := 119) (s' := [.long ((gE (σ) 28 ((gE (σ) 25 (x_1 : Int32).toNatClampNeg) : Int32).toNatClampNeg) : Int32).toInt64, .long (((gE (σ) 28 ((gE (σ) 24 (x_1 : Int32).toNatClampNeg) : Int32).toNatClampNeg) : Int32).toInt64 * ((gE (σ) 29 ((gE (σ) 25 (x_1 : Int32).toNatClampNeg) : Int32).toNatClampNeg) : Int32).toInt64), .ref 42]) rfl rfl rfl ?_
      refine ev_x (i := .lload 5) (len := 2) (p' := 121) (s' := [.long ((gE (σ) 29 ((gE (σ) 24 (x_1 : Int32).toNatClampNeg) : Int32).toNatClampNeg) : Int32).toInt64, .long ((gE (σ) 28 ((gE (σ) 25 (x_1 : Int32).toNatClampNeg) : Int32).toNatClampNeg) : Int32).toInt64, .long (((gE (σ) 28 ((gE (σ) 24 (x_1 : Int32).toNatClampNeg) : Int32).toNatClampNeg) : Int32).toInt64 * ((gE (σ) 29 ((gE (σ) 25 (x_1 : Int32).toNatClampNeg) : Int32).toNatClampNeg) : Int32).toInt64), .ref 42]) rfl rfl rfl ?_
      refine ev_x (i := .lmul) (len := 1) (p' := 122) (s' := [.long (((gE (σ) 28 ((gE (σ) 25 (x_1 : Int32).toNatClampNeg) : Int32).toNatClampNeg) : Int32).toInt64 * ((gE (σ) 29 ((gE (σ) 24 (x_1 : Int32).toNatClampNeg) : Int32).toNatClampNeg) : Int32).toInt64), .long (((gE (σ) 28 ((gE (σ) 24 (x_1 : Int32).toNatClampNeg) : Int32).toNatClampNeg) : Int32).toInt64 * ((gE (σ) 29 ((gE (σ) 25 (x_1 : Int32).toNatClampNeg) : Int32).toNatClampNeg) : Int32).toInt64), .ref 42]) rfl rfl rfl ?_
      refine ev_x (i := .ladd) (len := 1) (p' := 123) (s' := [.long ((((gE (σ) 28 ((gE (σ) 24 (x_1 : Int32).toNatClampNeg) : Int32).toNatClampNeg) : Int32).toInt64 * ((gE (σ) 29 ((gE (σ) 25 (x_1 : Int32).toNatClampNeg) : Int32).toNatClampNeg) : Int32).toInt64) + (((gE (σ) 28 ((gE (σ) 25 (x_1 : Int32).toNatClampNeg) : Int32).toNatClampNeg) : Int32).toInt64 * ((gE (σ) 29 ((gE (σ) 24 (x_1 : Int32).toNatClampNeg) : Int32).toNatClampNeg) : Int32).toInt64)), .ref 42]) rfl rfl rfl ?_
      refine ev_pl (p' := 126) rfl rfl rfl ly_42 rfl rfl rfl rfl ?_
      refine ev_x (i := .aload_n 0) (len := 1) (p' := 127) (s' := [.ref 42]) rfl rfl rfl ?_
      refine ev_x (i := .lload 5) (len := 2) (p' := 129) (s' := [.long ((gE (σ) 29 ((gE (σ) 24 (x_1 : Int32).toNatClampNeg) : Int32).toNatClampNeg) : Int32).toInt64, .ref 42]) rfl rfl rfl ?_
      refine ev_x (i := .lload 9) (len := 2) (p' := 131) (s' := [.long ((gE (σ) 29 ((gE (σ) 25 (x_1 : Int32).toNatClampNeg) : Int32).toNatClampNeg) : Int32).toInt64, .long ((gE (σ) 29 ((gE (σ) 24 (x_1 : Int32).toNatClampNeg) : Int32).toNatClampNeg) : Int32).toInt64, .ref 42]) rfl rfl rfl ?_
      refine ev_x (i := .lmul) (len := 1) (p' := 132) (s' := [.long (((gE (σ) 29 ((gE (σ) 24 (x_1 : Int32).toNatClampNeg) : Int32).toNatClampNeg) : Int32).toInt64 * ((gE (σ) 29 ((gE (σ) 25 (x_1 : Int32).toNatClampNeg) : Int32).toNatClampNeg) : Int32).toInt64), .ref 42]) rfl rfl rfl ?_
      refine ev_pl (p' := 135) rfl rfl rfl ly_42 rfl rfl rfl rfl ?_
      refine ev_x (i := .iconst 0) (len := 1) (p' := 136) (s' := [.int 0]) rfl rfl rfl ?_
      obtain rfl := Option.some.inj H
      exact ev_iret rfl rfl rfl rfl
    · refine F_if H (fun c_8 H => ?_) (fun c_8 H => ?_)
      · refine ev_st (st' := [.int 5]) (congrArg (fun z => Value.int z :: []) c_8) ?_
        refine ev_ts (off := 57) (t := 137) rfl rfl (by decide) rfl ?_
        refine ev_x (i := .aload_n 0) (len := 1) (p' := 138) (s' := [.ref 42]) rfl rfl rfl ?_
        refine ev_x (i := .lload_n 3) (len := 1) (p' := 139) (s' := [.long ((gE (σ) 28 ((gE (σ) 24 (x_1 : Int32).toNatClampNeg) : Int32).toNatClampNeg) : Int32).toInt64, .ref 42]) rfl rfl rfl ?_
        refine ev_x (i := .lload 9) (len := 2) (p' := 141) (s' := [.long ((gE (σ) 29 ((gE (σ) 25 (x_1 : Int32).toNatClampNeg) : Int32).toNatClampNeg) : Int32).toInt64, .long ((gE (σ) 28 ((gE (σ) 24 (x_1 : Int32).toNatClampNeg) : Int32).toNatClampNeg) : Int32).toInt64, .ref 42]) rfl rfl rfl ?_
        refine ev_x (i := .lmul) (len := 1) (p' := 142) (s' := [.long (((gE (σ) 28 ((gE (σ) 24 (x_1 : Int32).toNatClampNeg) : Int32).toNatClampNeg) : Int32).toInt64 * ((gE (σ) 29 ((gE (σ) 25 (x_1 : Int32).toNatClampNeg) : Int32).toNatClampNeg) : Int32).toInt64), .ref 42]) rfl rfl rfl ?_
        refine ev_x (i := .lload 7) (len := 2) (p' := 144) (s' := [.long ((gE (σ) 28 ((gE (σ) 25 (x_1 : Int32).toNatClampNeg) : Int32).toNatClampNeg) : Int32).toInt64, .long (((gE (σ) 28 ((gE (σ) 24 (x_1 : Int32).toNatClampNeg) : Int32).toNatClampNeg) : Int32).toInt64 * ((gE (σ) 29 ((gE (σ) 25 (x_1 : Int32).toNatClampNeg) : Int32).toNatClampNeg) : Int32).toInt64), .ref 42]) rfl rfl rfl ?_
        refine ev_x (i := .lload 5) (len := 2) (p' := 146) (s' := [.long ((gE (σ) 29 ((gE (σ) 24 (x_1 : Int32).toNatClampNeg) : Int32).toNatClampNeg) : Int32).toInt64, .long ((gE (σ) 28 ((gE (σ) 25 (x_1 : Int32).toNatClampNeg) : Int32).toNatClampNeg) : Int32).toInt64, .long (((gE (σ) 28 ((gE (σ) 24 (x_1 : Int32).toNatClampNeg) : Int32).toNatClampNeg) : Int32).toInt64 * ((gE (σ) 29 ((gE (σ) 25 (x_1 : Int32).toNatClampNeg) : Int32).toNatClampNeg) : Int32).toInt64), .ref 42]) rfl rfl rfl ?_
        refine ev_x (i := .lmul) (len := 1) (p' := 147) (s' := [.long (((gE (σ) 28 ((gE (σ) 25 (x_1 : Int32).toNatClampNeg) : Int32).toNatClampNeg) : Int32).toInt64 * ((gE (σ) 29 ((gE (σ) 24 (x_1 : Int32).toNatClampNeg) : Int32).toNatClampNeg) : Int32).toInt64), .long (((gE (σ) 28 ((gE (σ) 24 (x_1 : Int32).toNatClampNeg) : Int32).toNatClampNeg) : Int32).toInt64 * ((gE (σ) 29 ((gE (σ) 25 (x_1 : Int32).toNatClampNeg) : Int32).toNatClampNeg) : Int32).toInt64), .ref 42]) rfl rfl rfl ?_
        refine ev_x (i := .lsub) (len := 1) (p' := 148) (s' := [.long ((((gE (σ) 28 ((gE (σ) 24 (x_1 : Int32).toNatClampNeg) : Int32).toNatClampNeg) : Int32).toInt64 * ((gE (σ) 29 ((gE (σ) 25 (x_1 : Int32).toNatClampNeg) : Int32).toNatClampNeg) : Int32).toInt64) - (((gE (σ) 28 ((gE (σ) 25 (x_1 : Int32).toNatClampNeg) : Int32).toNatClampNeg) : Int32).toInt64 * ((gE (σ) 29 ((gE (σ) 24 (x_1 : Int32).toNatClampNeg) : Int32).toNatClampNeg) : Int32).toInt64)), .ref 42]) rfl rfl rfl ?_
        refine ev_pl (p' := 151) rfl rfl rfl ly_42 rfl rfl rfl rfl ?_
        refine ev_x (i := .aload_n 0) (len := 1) (p' := 152) (s' := [.ref 42]) rfl rfl rfl ?_
        refine ev_x (i := .lload 5) (len := 2) (p' := 154) (s' := [.long ((gE (σ) 29 ((gE (σ) 24 (x_1 : Int32).toNatClampNeg) : Int32).toNatClampNeg) : Int32).toInt64, .ref 42]) rfl rfl rfl ?_
        refine ev_x (i := .lload 9) (len := 2) (p' := 156) (s' := [.long ((gE (σ) 29 ((gE (σ) 25 (x_1 : Int32).toNatClampNeg) : Int32).toNatClampNeg) : Int32).toInt64, .long ((gE (σ) 29 ((gE (σ) 24 (x_1 : Int32).toNatClampNeg) : Int32).toNatClampNeg) : Int32).toInt64, .ref 42]) rfl rfl rfl ?_
        refine ev_x (i := .lmul) (len := 1) (p' := 157) (s' := [.long (((gE (σ) 29 ((gE (σ) 24 (x_1 : Int32).toNatClampNeg) : Int32).toNatClampNeg) : Int32).toInt64 * ((gE (σ) 29 ((gE (σ) 25 (x_1 : Int32).toNatClampNeg) : Int32).toNatClampNeg) : Int32).toInt64), .ref 42]) rfl rfl rfl ?_
        refine ev_pl (p' := 160) rfl rfl rfl ly_42 rfl rfl rfl rfl ?_
        refine ev_x (i := .iconst 0) (len := 1) (p' := 161) (s' := [.int 0]) rfl rfl rfl ?_
        obtain rfl := Option.some.inj H
        exact ev_iret rfl rfl rfl rfl
      · refine F_if H (fun c_9 H => ?_) (fun c_9 H => ?_)
        · refine ev_st (st' := [.int 6]) (congrArg (fun z => Value.int z :: []) c_9) ?_
          refine ev_ts (off := 82) (t := 162) rfl rfl (by decide) rfl ?_
          refine ev_x (i := .aload_n 0) (len := 1) (p' := 163) (s' := [.ref 42]) rfl rfl rfl ?_
          refine ev_x (i := .lload_n 3) (len := 1) (p' := 164) (s' := [.long ((gE (σ) 28 ((gE (σ) 24 (x_1 : Int32).toNatClampNeg) : Int32).toNatClampNeg) : Int32).toInt64, .ref 42]) rfl rfl rfl ?_
          refine ev_x (i := .lload 7) (len := 2) (p' := 166) (s' := [.long ((gE (σ) 28 ((gE (σ) 25 (x_1 : Int32).toNatClampNeg) : Int32).toNatClampNeg) : Int32).toInt64, .long ((gE (σ) 28 ((gE (σ) 24 (x_1 : Int32).toNatClampNeg) : Int32).toNatClampNeg) : Int32).toInt64, .ref 42]) rfl rfl rfl ?_
          refine ev_x (i := .lmul) (len := 1) (p' := 167) (s' := [.long (((gE (σ) 28 ((gE (σ) 24 (x_1 : Int32).toNatClampNeg) : Int32).toNatClampNeg) : Int32).toInt64 * ((gE (σ) 28 ((gE (σ) 25 (x_1 : Int32).toNatClampNeg) : Int32).toNatClampNeg) : Int32).toInt64), .ref 42]) rfl rfl rfl ?_
          refine ev_pl (p' := 170) rfl rfl rfl ly_42 rfl rfl rfl rfl ?_
          refine ev_x (i := .aload_n 0) (len := 1) (p' := 171) (s' := [.ref 42]) rfl rfl rfl ?_
          refine ev_x (i := .lload 5) (len := 2) (p' := 173) (s' := [.long ((gE (σ) 29 ((gE (σ) 24 (x_1 : Int32).toNatClampNeg) : Int32).toNatClampNeg) : Int32).toInt64, .ref 42]) rfl rfl rfl ?_
          refine ev_x (i := .lload 9) (len := 2) (p' := 175) (s' := [.long ((gE (σ) 29 ((gE (σ) 25 (x_1 : Int32).toNatClampNeg) : Int32).toNatClampNeg) : Int32).toInt64, .long ((gE (σ) 29 ((gE (σ) 24 (x_1 : Int32).toNatClampNeg) : Int32).toNatClampNeg) : Int32).toInt64, .ref 42]) rfl rfl rfl ?_
          refine ev_x (i := .lmul) (len := 1) (p' := 176) (s' := [.long (((gE (σ) 29 ((gE (σ) 24 (x_1 : Int32).toNatClampNeg) : Int32).toNatClampNeg) : Int32).toInt64 * ((gE (σ) 29 ((gE (σ) 25 (x_1 : Int32).toNatClampNeg) : Int32).toNatClampNeg) : Int32).toInt64), .ref 42]) rfl rfl rfl ?_
          refine ev_pl (p' := 179) rfl rfl rfl ly_42 rfl rfl rfl rfl ?_
          refine ev_x (i := .iconst 0) (len := 1) (p' := 180) (s' := [.int 0]) rfl rfl rfl ?_
          obtain rfl := Option.some.inj H
          exact ev_iret rfl rfl rfl rfl
        · refine F_if H (fun c_10 H => ?_) (fun c_10 H => ?_)
          · refine ev_st (st' := [.int 7]) (congrArg (fun z => Value.int z :: []) c_10) ?_
            refine ev_ts (off := 101) (t := 181) rfl rfl (by decide) rfl ?_
            refine ev_x (i := .aload_n 0) (len := 1) (p' := 182) (s' := [.ref 42]) rfl rfl rfl ?_
            refine ev_x (i := .lload 7) (len := 2) (p' := 184) (s' := [.long ((gE (σ) 28 ((gE (σ) 25 (x_1 : Int32).toNatClampNeg) : Int32).toNatClampNeg) : Int32).toInt64, .ref 42]) rfl rfl rfl ?_
            refine ev_x (i := .lconst 0) (len := 1) (p' := 185) (s' := [.long 0, .long ((gE (σ) 28 ((gE (σ) 25 (x_1 : Int32).toNatClampNeg) : Int32).toNatClampNeg) : Int32).toInt64, .ref 42]) rfl rfl rfl ?_
            refine ev_x (i := .lcmp) (len := 1) (p' := 186) (s' := [.int (lg_cmp ((gE (σ) 28 ((gE (σ) 25 (x_1 : Int32).toNatClampNeg) : Int32).toNatClampNeg) : Int32).toInt64 0), .ref 42]) rfl rfl rfl ?_
            refine F_jn (A := vz_ev P0 (d + 2) 72 201 [(9, .long ((gE (σ) 29 ((gE (σ) 25 (x_1 : Int32).toNatClampNeg) : Int32).toNatClampNeg) : Int32).toInt64), (7, .long ((gE (σ) 28 ((gE (σ) 25 (x_1 : Int32).toNatClampNeg) : Int32).toNatClampNeg) : Int32).toInt64), (5, .long ((gE (σ) 29 ((gE (σ) 24 (x_1 : Int32).toNatClampNeg) : Int32).toNatClampNeg) : Int32).toInt64), (3, .long ((gE (σ) 28 ((gE (σ) 24 (x_1 : Int32).toNatClampNeg) : Int32).toNatClampNeg) : Int32).toInt64), (0, .ref 42), (1, .int x_1), (2, .int x_2)] [.long (if 0 ≤ (lg_cmp ((gE (σ) 28 ((gE (σ) 25 (x_1 : Int32).toNatClampNeg) : Int32).toNatClampNeg) : Int32).toInt64 0) then (((gE (σ) 28 ((gE (σ) 24 (x_1 : Int32).toNatClampNeg) : Int32).toNatClampNeg) : Int32).toInt64 * ((gE (σ) 29 ((gE (σ) 25 (x_1 : Int32).toNatClampNeg) : Int32).toNatClampNeg) : Int32).toInt64) else ((-((gE (σ) 28 ((gE (σ) 24 (x_1 : Int32).toNatClampNeg) : Int32).toNatClampNeg) : Int32).toInt64) * ((gE (σ) 29 ((gE (σ) 25 (x_1 : Int32).toNatClampNeg) : Int32).toNatClampNeg) : Int32).toInt64) : Int64), .ref 42] (hp (σ)) (.inl (some (.int p.1)), hp p.2)) ?_ (fun J => ?_)
            · refine ev_pl (p' := 204) rfl rfl rfl ly_42 rfl rfl rfl rfl ?_
              refine ev_x (i := .aload_n 0) (len := 1) (p' := 205) (s' := [.ref 42]) rfl rfl rfl ?_
              refine ev_x (i := .lload 7) (len := 2) (p' := 207) (s' := [.long ((gE (σ) 28 ((gE (σ) 25 (x_1 : Int32).toNatClampNeg) : Int32).toNatClampNeg) : Int32).toInt64, .ref 42]) rfl rfl rfl ?_
              refine ev_x (i := .lconst 0) (len := 1) (p' := 208) (s' := [.long 0, .long ((gE (σ) 28 ((gE (σ) 25 (x_1 : Int32).toNatClampNeg) : Int32).toNatClampNeg) : Int32).toInt64, .ref 42]) rfl rfl rfl ?_
              refine ev_x (i := .lcmp) (len := 1) (p' := 209) (s' := [.int (lg_cmp ((gE (σ) 28 ((gE (σ) 25 (x_1 : Int32).toNatClampNeg) : Int32).toNatClampNeg) : Int32).toInt64 0), .ref 42]) rfl rfl rfl ?_
              refine F_jn (A := vz_ev P0 (d + 2) 72 226 [(9, .long ((gE (σ) 29 ((gE (σ) 25 (x_1 : Int32).toNatClampNeg) : Int32).toNatClampNeg) : Int32).toInt64), (7, .long ((gE (σ) 28 ((gE (σ) 25 (x_1 : Int32).toNatClampNeg) : Int32).toNatClampNeg) : Int32).toInt64), (5, .long ((gE (σ) 29 ((gE (σ) 24 (x_1 : Int32).toNatClampNeg) : Int32).toNatClampNeg) : Int32).toInt64), (3, .long ((gE (σ) 28 ((gE (σ) 24 (x_1 : Int32).toNatClampNeg) : Int32).toNatClampNeg) : Int32).toInt64), (0, .ref 42), (1, .int x_1), (2, .int x_2)] [.long (if 0 ≤ (lg_cmp ((gE (σ) 28 ((gE (σ) 25 (x_1 : Int32).toNatClampNeg) : Int32).toNatClampNeg) : Int32).toInt64 0) then (((gE (σ) 29 ((gE (σ) 24 (x_1 : Int32).toNatClampNeg) : Int32).toNatClampNeg) : Int32).toInt64 * ((gE (σ) 28 ((gE (σ) 25 (x_1 : Int32).toNatClampNeg) : Int32).toNatClampNeg) : Int32).toInt64) else ((-((gE (σ) 29 ((gE (σ) 24 (x_1 : Int32).toNatClampNeg) : Int32).toNatClampNeg) : Int32).toInt64) * ((gE (σ) 28 ((gE (σ) 25 (x_1 : Int32).toNatClampNeg) : Int32).toNatClampNeg) : Int32).toInt64) : Int64), .ref 42] (hp (st_l (σ) 42 7 (if 0 ≤ (lg_cmp ((gE (σ) 28 ((gE (σ) 25 (x_1 : Int32).toNatClampNeg) : Int32).toNatClampNeg) : Int32).toInt64 0) then (((gE (σ) 28 ((gE (σ) 24 (x_1 : Int32).toNatClampNeg) : Int32).toNatClampNeg) : Int32).toInt64 * ((gE (σ) 29 ((gE (σ) 25 (x_1 : Int32).toNatClampNeg) : Int32).toNatClampNeg) : Int32).toInt64) else ((-((gE (σ) 28 ((gE (σ) 24 (x_1 : Int32).toNatClampNeg) : Int32).toNatClampNeg) : Int32).toInt64) * ((gE (σ) 29 ((gE (σ) 25 (x_1 : Int32).toNatClampNeg) : Int32).toNatClampNeg) : Int32).toInt64) : Int64))) (.inl (some (.int p.1)), hp p.2)) ?_ (fun J => ?_)
              · refine ev_pl (p' := 229) rfl rfl rfl ly_42 rfl rfl rfl rfl ?_
                refine ev_x (i := .lload 7) (len := 2) (p' := 231) (s' := [.long ((gE (σ) 28 ((gE (σ) 25 (x_1 : Int32).toNatClampNeg) : Int32).toNatClampNeg) : Int32).toInt64]) rfl rfl rfl ?_
                refine ev_x (i := .lconst 0) (len := 1) (p' := 232) (s' := [.long 0, .long ((gE (σ) 28 ((gE (σ) 25 (x_1 : Int32).toNatClampNeg) : Int32).toNatClampNeg) : Int32).toInt64]) rfl rfl rfl ?_
                refine ev_x (i := .lcmp) (len := 1) (p' := 233) (s' := [.int (lg_cmp ((gE (σ) 28 ((gE (σ) 25 (x_1 : Int32).toNatClampNeg) : Int32).toNatClampNeg) : Int32).toInt64 0)]) rfl rfl rfl ?_
                refine F_jn (A := vz_ev P0 (d + 2) 72 242 [(9, .long ((gE (σ) 29 ((gE (σ) 25 (x_1 : Int32).toNatClampNeg) : Int32).toNatClampNeg) : Int32).toInt64), (7, .long ((gE (σ) 28 ((gE (σ) 25 (x_1 : Int32).toNatClampNeg) : Int32).toNatClampNeg) : Int32).toInt64), (5, .long ((gE (σ) 29 ((gE (σ) 24 (x_1 : Int32).toNatClampNeg) : Int32).toNatClampNeg) : Int32).toInt64), (3, .long ((gE (σ) 28 ((gE (σ) 24 (x_1 : Int32).toNatClampNeg) : Int32).toNatClampNeg) : Int32).toInt64), (0, .ref 42), (1, .int x_1), (2, .int x_2)] [.int (if (lg_cmp ((gE (σ) 28 ((gE (σ) 25 (x_1 : Int32).toNatClampNeg) : Int32).toNatClampNeg) : Int32).toInt64 0) = 0 then 7 else 0 : Int32)] (hp (st_l (st_l (σ) 42 7 (if 0 ≤ (lg_cmp ((gE (σ) 28 ((gE (σ) 25 (x_1 : Int32).toNatClampNeg) : Int32).toNatClampNeg) : Int32).toInt64 0) then (((gE (σ) 28 ((gE (σ) 24 (x_1 : Int32).toNatClampNeg) : Int32).toNatClampNeg) : Int32).toInt64 * ((gE (σ) 29 ((gE (σ) 25 (x_1 : Int32).toNatClampNeg) : Int32).toNatClampNeg) : Int32).toInt64) else ((-((gE (σ) 28 ((gE (σ) 24 (x_1 : Int32).toNatClampNeg) : Int32).toNatClampNeg) : Int32).toInt64) * ((gE (σ) 29 ((gE (σ) 25 (x_1 : Int32).toNatClampNeg) : Int32).toNatClampNeg) : Int32).toInt64) : Int64)) 42 8 (if 0 ≤ (lg_cmp ((gE (σ) 28 ((gE (σ) 25 (x_1 : Int32).toNatClampNeg) : Int32).toNatClampNeg) : Int32).toInt64 0) then (((gE (σ) 29 ((gE (σ) 24 (x_1 : Int32).toNatClampNeg) : Int32).toNatClampNeg) : Int32).toInt64 * ((gE (σ) 28 ((gE (σ) 25 (x_1 : Int32).toNatClampNeg) : Int32).toNatClampNeg) : Int32).toInt64) else ((-((gE (σ) 29 ((gE (σ) 24 (x_1 : Int32).toNatClampNeg) : Int32).toNatClampNeg) : Int32).toInt64) * ((gE (σ) 28 ((gE (σ) 25 (x_1 : Int32).toNatClampNeg) : Int32).toNatClampNeg) : Int32).toInt64) : Int64))) (.inl (some (.int p.1)), hp p.2)) ?_ (fun J => ?_)
                · obtain rfl := Option.some.inj H
                  exact ev_iret rfl rfl rfl rfl
                · by_cases c_13 : (lg_cmp ((gE (σ) 28 ((gE (σ) 25 (x_1 : Int32).toNatClampNeg) : Int32).toNatClampNeg) : Int32).toInt64 0) = 0
                  · refine ev_b0 (t := 241) (p' := 236) rfl rfl rfl (if_neg (fun q => q c_13)) ?_
                    refine ev_x (i := .bipush 7) (len := 2) (p' := 238) (s' := [.int 7]) rfl rfl rfl ?_
                    refine ev_x (i := .goto 4) (len := 3) (p' := 242) (s' := [.int 7]) rfl rfl rfl ?_
                    exact ev_st (congrArg (fun z => Value.int z :: []) (by rw [if_pos c_13])) J
                  · refine ev_b0 (t := 241) (p' := 241) rfl rfl rfl (if_pos c_13) ?_
                    refine ev_x (i := .iconst 0) (len := 1) (p' := 242) (s' := [.int 0]) rfl rfl rfl ?_
                    exact ev_st (congrArg (fun z => Value.int z :: []) (by rw [if_neg c_13])) J
              · by_cases c_12 : 0 ≤ (lg_cmp ((gE (σ) 28 ((gE (σ) 25 (x_1 : Int32).toNatClampNeg) : Int32).toNatClampNeg) : Int32).toInt64 0)
                · refine ev_b0 (t := 221) (p' := 221) rfl rfl rfl (if_pos c_12) ?_
                  refine ev_x (i := .lload 5) (len := 2) (p' := 223) (s' := [.long ((gE (σ) 29 ((gE (σ) 24 (x_1 : Int32).toNatClampNeg) : Int32).toNatClampNeg) : Int32).toInt64, .ref 42]) rfl rfl rfl ?_
                  refine ev_x (i := .lload 7) (len := 2) (p' := 225) (s' := [.long ((gE (σ) 28 ((gE (σ) 25 (x_1 : Int32).toNatClampNeg) : Int32).toNatClampNeg) : Int32).toInt64, .long ((gE (σ) 29 ((gE (σ) 24 (x_1 : Int32).toNatClampNeg) : Int32).toNatClampNeg) : Int32).toInt64, .ref 42]) rfl rfl rfl ?_
                  refine ev_x (i := .lmul) (len := 1) (p' := 226) (s' := [.long (((gE (σ) 29 ((gE (σ) 24 (x_1 : Int32).toNatClampNeg) : Int32).toNatClampNeg) : Int32).toInt64 * ((gE (σ) 28 ((gE (σ) 25 (x_1 : Int32).toNatClampNeg) : Int32).toNatClampNeg) : Int32).toInt64), .ref 42]) rfl rfl rfl ?_
                  exact ev_st (congrArg (fun z => Value.long z :: [.ref 42]) (by rw [if_pos c_12])) J
                · refine ev_b0 (t := 221) (p' := 212) rfl rfl rfl (if_neg c_12) ?_
                  refine ev_x (i := .lload 5) (len := 2) (p' := 214) (s' := [.long ((gE (σ) 29 ((gE (σ) 24 (x_1 : Int32).toNatClampNeg) : Int32).toNatClampNeg) : Int32).toInt64, .ref 42]) rfl rfl rfl ?_
                  refine ev_x (i := .lneg) (len := 1) (p' := 215) (s' := [.long (-((gE (σ) 29 ((gE (σ) 24 (x_1 : Int32).toNatClampNeg) : Int32).toNatClampNeg) : Int32).toInt64), .ref 42]) rfl rfl rfl ?_
                  refine ev_x (i := .lload 7) (len := 2) (p' := 217) (s' := [.long ((gE (σ) 28 ((gE (σ) 25 (x_1 : Int32).toNatClampNeg) : Int32).toNatClampNeg) : Int32).toInt64, .long (-((gE (σ) 29 ((gE (σ) 24 (x_1 : Int32).toNatClampNeg) : Int32).toNatClampNeg) : Int32).toInt64), .ref 42]) rfl rfl rfl ?_
                  refine ev_x (i := .lmul) (len := 1) (p' := 218) (s' := [.long ((-((gE (σ) 29 ((gE (σ) 24 (x_1 : Int32).toNatClampNeg) : Int32).toNatClampNeg) : Int32).toInt64) * ((gE (σ) 28 ((gE (σ) 25 (x_1 : Int32).toNatClampNeg) : Int32).toNatClampNeg) : Int32).toInt64), .ref 42]) rfl rfl rfl ?_
                  refine ev_x (i := .goto 8) (len := 3) (p' := 226) (s' := [.long ((-((gE (σ) 29 ((gE (σ) 24 (x_1 : Int32).toNatClampNeg) : Int32).toNatClampNeg) : Int32).toInt64) * ((gE (σ) 28 ((gE (σ) 25 (x_1 : Int32).toNatClampNeg) : Int32).toNatClampNeg) : Int32).toInt64), .ref 42]) rfl rfl rfl ?_
                  exact ev_st (congrArg (fun z => Value.long z :: [.ref 42]) (by rw [if_neg c_12])) J
            · by_cases c_11 : 0 ≤ (lg_cmp ((gE (σ) 28 ((gE (σ) 25 (x_1 : Int32).toNatClampNeg) : Int32).toNatClampNeg) : Int32).toInt64 0)
              · refine ev_b0 (t := 197) (p' := 197) rfl rfl rfl (if_pos c_11) ?_
                refine ev_x (i := .lload_n 3) (len := 1) (p' := 198) (s' := [.long ((gE (σ) 28 ((gE (σ) 24 (x_1 : Int32).toNatClampNeg) : Int32).toNatClampNeg) : Int32).toInt64, .ref 42]) rfl rfl rfl ?_
                refine ev_x (i := .lload 9) (len := 2) (p' := 200) (s' := [.long ((gE (σ) 29 ((gE (σ) 25 (x_1 : Int32).toNatClampNeg) : Int32).toNatClampNeg) : Int32).toInt64, .long ((gE (σ) 28 ((gE (σ) 24 (x_1 : Int32).toNatClampNeg) : Int32).toNatClampNeg) : Int32).toInt64, .ref 42]) rfl rfl rfl ?_
                refine ev_x (i := .lmul) (len := 1) (p' := 201) (s' := [.long (((gE (σ) 28 ((gE (σ) 24 (x_1 : Int32).toNatClampNeg) : Int32).toNatClampNeg) : Int32).toInt64 * ((gE (σ) 29 ((gE (σ) 25 (x_1 : Int32).toNatClampNeg) : Int32).toNatClampNeg) : Int32).toInt64), .ref 42]) rfl rfl rfl ?_
                exact ev_st (congrArg (fun z => Value.long z :: [.ref 42]) (by rw [if_pos c_11])) J
              · refine ev_b0 (t := 197) (p' := 189) rfl rfl rfl (if_neg c_11) ?_
                refine ev_x (i := .lload_n 3) (len := 1) (p' := 190) (s' := [.long ((gE (σ) 28 ((gE (σ) 24 (x_1 : Int32).toNatClampNeg) : Int32).toNatClampNeg) : Int32).toInt64, .ref 42]) rfl rfl rfl ?_
                refine ev_x (i := .lneg) (len := 1) (p' := 191) (s' := [.long (-((gE (σ) 28 ((gE (σ) 24 (x_1 : Int32).toNatClampNeg) : Int32).toNatClampNeg) : Int32).toInt64), .ref 42]) rfl rfl rfl ?_
                refine ev_x (i := .lload 9) (len := 2) (p' := 193) (s' := [.long ((gE (σ) 29 ((gE (σ) 25 (x_1 : Int32).toNatClampNeg) : Int32).toNatClampNeg) : Int32).toInt64, .long (-((gE (σ) 28 ((gE (σ) 24 (x_1 : Int32).toNatClampNeg) : Int32).toNatClampNeg) : Int32).toInt64), .ref 42]) rfl rfl rfl ?_
                refine ev_x (i := .lmul) (len := 1) (p' := 194) (s' := [.long ((-((gE (σ) 28 ((gE (σ) 24 (x_1 : Int32).toNatClampNeg) : Int32).toNatClampNeg) : Int32).toInt64) * ((gE (σ) 29 ((gE (σ) 25 (x_1 : Int32).toNatClampNeg) : Int32).toNatClampNeg) : Int32).toInt64), .ref 42]) rfl rfl rfl ?_
                refine ev_x (i := .goto 7) (len := 3) (p' := 201) (s' := [.long ((-((gE (σ) 28 ((gE (σ) 24 (x_1 : Int32).toNatClampNeg) : Int32).toNatClampNeg) : Int32).toInt64) * ((gE (σ) 29 ((gE (σ) 25 (x_1 : Int32).toNatClampNeg) : Int32).toNatClampNeg) : Int32).toInt64), .ref 42]) rfl rfl rfl ?_
                exact ev_st (congrArg (fun z => Value.long z :: [.ref 42]) (by rw [if_neg c_11])) J
          · have n_4 : (4 : Int) ≠ (x_2 : Int32).toInt := i32_ne (k := 4) (by decide) c_7
            have n_5 : (5 : Int) ≠ (x_2 : Int32).toInt := i32_ne (k := 5) (by decide) c_8
            have n_6 : (6 : Int) ≠ (x_2 : Int32).toInt := i32_ne (k := 6) (by decide) c_9
            have n_7 : (7 : Int) ≠ (x_2 : Int32).toInt := i32_ne (k := 7) (by decide) c_10
            refine ev_ts (off := 163) (t := 243) rfl rfl ?hsw rfl ?_
            case hsw =>
              by_cases hq : (x_2 : Int32).toInt < 4 ∨ 7 < (x_2 : Int32).toInt
              · exact if_pos hq
              · rw [if_neg hq]
                exact absurd hq (by omega)
            refine ev_x (i := .lload 5) (len := 2) (p' := 245) (s' := [.long ((gE (σ) 29 ((gE (σ) 24 (x_1 : Int32).toNatClampNeg) : Int32).toNatClampNeg) : Int32).toInt64]) rfl rfl rfl ?_
            refine ev_x (i := .lconst 1) (len := 1) (p' := 246) (s' := [.long 1, .long ((gE (σ) 29 ((gE (σ) 24 (x_1 : Int32).toNatClampNeg) : Int32).toNatClampNeg) : Int32).toInt64]) rfl rfl rfl ?_
            refine ev_x (i := .lcmp) (len := 1) (p' := 247) (s' := [.int (lg_cmp ((gE (σ) 29 ((gE (σ) 24 (x_1 : Int32).toNatClampNeg) : Int32).toNatClampNeg) : Int32).toInt64 1)]) rfl rfl rfl ?_
            refine F_if H (fun c_14 H => ?_) (fun c_14 H => ?_)
            · refine ev_b0 (t := 257) (p' := 250) rfl rfl rfl (if_neg (fun q => q c_14)) ?_
              refine ev_x (i := .lload 9) (len := 2) (p' := 252) (s' := [.long ((gE (σ) 29 ((gE (σ) 25 (x_1 : Int32).toNatClampNeg) : Int32).toNatClampNeg) : Int32).toInt64]) rfl rfl rfl ?_
              refine ev_x (i := .lconst 1) (len := 1) (p' := 253) (s' := [.long 1, .long ((gE (σ) 29 ((gE (σ) 25 (x_1 : Int32).toNatClampNeg) : Int32).toNatClampNeg) : Int32).toInt64]) rfl rfl rfl ?_
              refine ev_x (i := .lcmp) (len := 1) (p' := 254) (s' := [.int (lg_cmp ((gE (σ) 29 ((gE (σ) 25 (x_1 : Int32).toNatClampNeg) : Int32).toNatClampNeg) : Int32).toInt64 1)]) rfl rfl rfl ?_
              refine F_if H (fun c_15 H => ?_) (fun c_15 H => ?_)
              · refine ev_b0 (t := 260) (p' := 260) rfl rfl rfl (if_pos c_15) ?_
                refine ev_x (i := .lload 7) (len := 2) (p' := 262) (s' := [.long ((gE (σ) 28 ((gE (σ) 25 (x_1 : Int32).toNatClampNeg) : Int32).toNatClampNeg) : Int32).toInt64]) rfl rfl rfl ?_
                refine ev_x (i := .lconst 0) (len := 1) (p' := 263) (s' := [.long 0, .long ((gE (σ) 28 ((gE (σ) 25 (x_1 : Int32).toNatClampNeg) : Int32).toNatClampNeg) : Int32).toInt64]) rfl rfl rfl ?_
                refine ev_x (i := .lcmp) (len := 1) (p' := 264) (s' := [.int (lg_cmp ((gE (σ) 28 ((gE (σ) 25 (x_1 : Int32).toNatClampNeg) : Int32).toNatClampNeg) : Int32).toInt64 0)]) rfl rfl rfl ?_
                refine F_if H (fun c_16 H => ?_) (fun c_16 H => ?_)
                · refine ev_b0 (t := 270) (p' := 270) rfl rfl rfl (if_pos c_16) ?_
                  refine ev_x (i := .aload_n 0) (len := 1) (p' := 271) (s' := [.ref 42]) rfl rfl rfl ?_
                  refine ev_x (i := .lload_n 3) (len := 1) (p' := 272) (s' := [.long ((gE (σ) 28 ((gE (σ) 24 (x_1 : Int32).toNatClampNeg) : Int32).toNatClampNeg) : Int32).toInt64, .ref 42]) rfl rfl rfl ?_
                  refine ev_x (i := .lload 7) (len := 2) (p' := 274) (s' := [.long ((gE (σ) 28 ((gE (σ) 25 (x_1 : Int32).toNatClampNeg) : Int32).toNatClampNeg) : Int32).toInt64, .long ((gE (σ) 28 ((gE (σ) 24 (x_1 : Int32).toNatClampNeg) : Int32).toNatClampNeg) : Int32).toInt64, .ref 42]) rfl rfl rfl ?_
                  obtain ⟨p_17, G_17, H⟩ := F_bd H
                  refine ev_callS (d := d + 1) (As := [.long ((gE (σ) 28 ((gE (σ) 24 (x_1 : Int32).toNatClampNeg) : Int32).toNatClampNeg) : Int32).toInt64, .long ((gE (σ) 28 ((gE (σ) 25 (x_1 : Int32).toNatClampNeg) : Int32).toNatClampNeg) : Int32).toInt64]) rfl rfl rfl (by decide) rfl rfl rfl rfl rfl (F_73_ok (d := d + 0)   G_17) ?_
                  refine ev_st (st' := [.long p_17.1, .ref 42]) rfl ?_
                  refine ev_pc (pc' := 277) rfl ?_
                  have e_17 := F_73_R G_17
                  refine ev_pl (p' := 280) rfl rfl rfl ly_42 rfl rfl rfl rfl ?_
                  refine ev_x (i := .aload_n 0) (len := 1) (p' := 281) (s' := [.ref 42]) rfl rfl rfl ?_
                  refine ev_x (i := .lconst 1) (len := 1) (p' := 282) (s' := [.long 1, .ref 42]) rfl rfl rfl ?_
                  refine ev_pl (p' := 285) rfl rfl rfl ly_42 rfl rfl rfl rfl ?_
                  refine ev_x (i := .iconst 0) (len := 1) (p' := 286) (s' := [.int 0]) rfl rfl rfl ?_
                  obtain rfl := Option.some.inj H
                  exact ev_iret rfl rfl rfl rfl
                · refine ev_b0 (t := 270) (p' := 267) rfl rfl rfl (if_neg c_16) ?_
                  refine ev_x (i := .bipush 7) (len := 2) (p' := 269) (s' := [.int 7]) rfl rfl rfl ?_
                  obtain rfl := Option.some.inj H
                  exact ev_iret rfl rfl rfl rfl
              · refine ev_b0 (t := 260) (p' := 257) rfl rfl rfl (if_neg c_15) ?_
                refine ev_x (i := .bipush 8) (len := 2) (p' := 259) (s' := [.int 8]) rfl rfl rfl ?_
                obtain rfl := Option.some.inj H
                exact ev_iret rfl rfl rfl rfl
            · refine ev_b0 (t := 257) (p' := 257) rfl rfl rfl (if_pos c_14) ?_
              refine ev_x (i := .bipush 8) (len := 2) (p' := 259) (s' := [.int 8]) rfl rfl rfl ?_
              obtain rfl := Option.some.inj H
              exact ev_iret rfl rfl rfl rfl
/-- GameText.divisor(JJ)J, from 67 -/
def J_75_67 (N : Nat) (l_4 : Int64) (σ : st_S) : Option (Int64 × st_S) :=
  some ((if (lg_cmp l_4 0) ≤ 0 then 1 else l_4 : Int64), σ)
set_option maxRecDepth 100000 in
theorem J_75_67_R {N : Nat} {l_4 : Int64} {σ : st_S} {p : Int64 × st_S} (H : J_75_67 N l_4 σ = some p) : gR p.2 = gR σ := by
  unfold J_75_67 at H
  obtain rfl := Option.some.inj H
  exact rfl
set_option maxHeartbeats 4000000 in
set_option maxRecDepth 100000 in
theorem J_75_67_ok {N d : Nat} {l_4 : Int64} {σ : st_S} {lv : vz_L} {p : Int64 × st_S} (g_4 : vz_g lv 4 = some (.long l_4)) (hnb : vz_nbL (vz_gr P0) lv = true)  (H : J_75_67 N l_4 σ = some p) : vz_ev P0 (d + 1) 75 67 lv [] (hp σ) (.inl (some (.long p.1)), hp p.2) := by
  unfold J_75_67 at H
  refine ev_x (i := .lload 4) (len := 2) (p' := 69) (s' := [.long l_4]) rfl rfl (ld_l g_4) ?_
  refine ev_x (i := .lconst 0) (len := 1) (p' := 70) (s' := [.long 0, .long l_4]) rfl rfl rfl ?_
  refine ev_x (i := .lcmp) (len := 1) (p' := 71) (s' := [.int (lg_cmp l_4 0)]) rfl rfl rfl ?_
  refine F_jn (A := vz_ev P0 (d + 1) 75 80 (lv) [.long (if (lg_cmp l_4 0) ≤ 0 then 1 else l_4 : Int64)] (hp (σ)) (.inl (some (.long p.1)), hp p.2)) ?_ (fun J => ?_)
  · obtain rfl := Option.some.inj H
    exact ev_lret rfl rfl rfl rfl
  · by_cases c_6 : (lg_cmp l_4 0) ≤ 0
    · refine ev_b0 (t := 79) (p' := 79) rfl rfl rfl (if_pos c_6) ?_
      refine ev_x (i := .lconst 1) (len := 1) (p' := 80) (s' := [.long 1]) rfl rfl rfl ?_
      exact ev_st (congrArg (fun z => Value.long z :: []) (by rw [if_pos c_6])) J
    · refine ev_b0 (t := 79) (p' := 74) rfl rfl rfl (if_neg c_6) ?_
      refine ev_x (i := .lload 4) (len := 2) (p' := 76) (s' := [.long l_4]) rfl rfl (ld_l g_4) ?_
      refine ev_x (i := .goto 4) (len := 3) (p' := 80) (s' := [.long l_4]) rfl rfl rfl ?_
      exact ev_st (congrArg (fun z => Value.long z :: []) (by rw [if_neg c_6])) J
/-- GameText.divisor(JJ)J, its loops -/
def L_75 (N : Nat) : Nat → Int64 → Int64 → Int32 → st_S → Option (Int64 × st_S)
  | 0, _, _, _, _ => none
  | k + 1, l_4, l_6, l_8, σ =>
      if 256 ≤ l_8 then
        J_75_67 N l_4 (σ)
      else
        if (lg_cmp l_6 0) = 0 then
          J_75_67 N l_4 (σ)
        else
          if ¬ (l_6 : Int64) = 0 then
          L_75 N k l_6 (l_4 - l_4 / l_6 * l_6) (l_8 + 1) (σ)
          else none
set_option maxRecDepth 100000 in
theorem L_75_R {N : Nat} : ∀ (k : Nat) (l_4 : Int64) (l_6 : Int64) (l_8 : Int32) (σ : st_S) (p : Int64 × st_S), L_75 N k l_4 l_6 l_8 σ = some p → gR p.2 = gR σ := by
  intro k
  induction k with
  | zero => intro l_4 l_6 l_8 σ p H; unfold L_75 at H; cases H
  | succ k ih =>
    intro l_4 l_6 l_8 σ p H
    unfold L_75 at H
    refine F_if H (fun _ H => ?_) (fun _ H => ?_)
    · exact (((J_75_67_R H)).trans rfl)
    · refine F_if H (fun _ H => ?_) (fun _ H => ?_)
      · exact (((J_75_67_R H)).trans rfl)
      · obtain ⟨_, H⟩ := F_gd H
        exact (((ih _ _ _ _ _ H)).trans rfl)
set_option maxHeartbeats 4000000 in
set_option maxRecDepth 100000 in
theorem L_75_ok {N d : Nat} : ∀ k : Nat, ∀ (l_4 : Int64) (l_6 : Int64) (l_8 : Int32) (σ : st_S) (lv : vz_L) (p : Int64 × st_S), vz_g lv 4 = some (.long l_4) → vz_g lv 6 = some (.long l_6) → vz_g lv 8 = some (.int l_8) → vz_nbL (vz_gr P0) lv = true → L_75 N k l_4 l_6 l_8 σ = some p → vz_ev P0 (d + 1) 75 31 lv [] (hp σ) (.inl (some (.long p.1)), hp p.2) := by
  intro k
  induction k with
  | zero => intro l_4 l_6 l_8 σ lv p g_4 g_6 g_8 hnb H; unfold L_75 at H; cases H
  | succ k ih =>
    intro l_4 l_6 l_8 σ lv p g_4 g_6 g_8 hnb H
    unfold L_75 at H
    refine ev_x (i := .iload 8) (len := 2) (p' := 33) (s' := [.int l_8]) rfl rfl (ld_i g_8) ?_
    refine ev_x (i := .sipush 256) (len := 3) (p' := 36) (s' := [.int 256, .int l_8]) rfl rfl rfl ?_
    refine F_if H (fun c_3 H => ?_) (fun c_3 H => ?_)
    · refine ev_b2 (t := 67) (p' := 67) rfl rfl rfl (if_pos c_3) ?_
      exact J_75_67_ok (d := d) g_4 hnb  H
    · refine ev_b2 (t := 67) (p' := 39) rfl rfl rfl (if_neg c_3) ?_
      refine ev_x (i := .lload 6) (len := 2) (p' := 41) (s' := [.long l_6]) rfl rfl (ld_l g_6) ?_
      refine ev_x (i := .lconst 0) (len := 1) (p' := 42) (s' := [.long 0, .long l_6]) rfl rfl rfl ?_
      refine ev_x (i := .lcmp) (len := 1) (p' := 43) (s' := [.int (lg_cmp l_6 0)]) rfl rfl rfl ?_
      refine F_if H (fun c_4 H => ?_) (fun c_4 H => ?_)
      · refine ev_b0 (t := 67) (p' := 67) rfl rfl rfl (if_pos c_4) ?_
        exact J_75_67_ok (d := d) g_4 hnb  H
      · refine ev_b0 (t := 67) (p' := 46) rfl rfl rfl (if_neg c_4) ?_
        refine ev_x (i := .lload 4) (len := 2) (p' := 48) (s' := [.long l_4]) rfl rfl (ld_l g_4) ?_
        refine ev_x (i := .lload 6) (len := 2) (p' := 50) (s' := [.long l_6, .long l_4]) rfl rfl (ld_l g_6) ?_
        obtain ⟨b_5, H⟩ := F_gd H
        refine ev_lrem (p' := 51) rfl rfl b_5 rfl ?_
        refine ev_x (i := .lstore 9) (len := 2) (p' := 53) (s' := []) (l' := vz_s2 (lv) 9 (.long (l_4 - l_4 / l_6 * l_6))) rfl rfl rfl ?_
        refine ev_x (i := .lload 6) (len := 2) (p' := 55) (s' := [.long l_6]) rfl rfl (ld_l (vg_o2 (i := 9) (v := .long (l_4 - l_4 / l_6 * l_6)) g_6 (by decide) (by decide) (Or.inr (by decide)))) ?_
        refine ev_x (i := .lstore 4) (len := 2) (p' := 57) (s' := []) (l' := vz_s2 (vz_s2 (lv) 9 (.long (l_4 - l_4 / l_6 * l_6))) 4 (.long l_6)) rfl rfl rfl ?_
        refine ev_x (i := .lload 9) (len := 2) (p' := 59) (s' := [.long (l_4 - l_4 / l_6 * l_6)]) rfl rfl (ld_l (vg_o2 (i := 4) (v := .long l_6) (vg_s2 (lv) 9 (.long (l_4 - l_4 / l_6 * l_6))) (by decide) (by decide) (Or.inr (by decide)))) ?_
        refine ev_x (i := .lstore 6) (len := 2) (p' := 61) (s' := []) (l' := vz_s2 (vz_s2 (vz_s2 (lv) 9 (.long (l_4 - l_4 / l_6 * l_6))) 4 (.long l_6)) 6 (.long (l_4 - l_4 / l_6 * l_6))) rfl rfl rfl ?_
        refine ev_x (i := .iinc 8 1) (len := 3) (p' := 64) (s' := []) (l' := vz_s1 (vz_s2 (vz_s2 (vz_s2 (lv) 9 (.long (l_4 - l_4 / l_6 * l_6))) 4 (.long l_6)) 6 (.long (l_4 - l_4 / l_6 * l_6))) 8 (.int (l_8 + 1))) rfl rfl (ld_inc (vg_o2 (i := 6) (v := .long (l_4 - l_4 / l_6 * l_6)) (vg_o2 (i := 4) (v := .long l_6) (vg_o2 (i := 9) (v := .long (l_4 - l_4 / l_6 * l_6)) g_8 (by decide) (by decide) (Or.inl rfl)) (by decide) (by decide) (Or.inl rfl)) (by decide) (by decide) (Or.inl rfl)) rfl) ?_
        refine ev_x (i := .goto (-33)) (len := 3) (p' := 31) (s' := []) rfl rfl rfl ?_
        exact ih _ _ _ _ _ _ (vg_o (i := 8) (v := .int (l_8 + 1)) (vg_o2 (i := 6) (v := .long (l_4 - l_4 / l_6 * l_6)) (vg_s2 (vz_s2 (lv) 9 (.long (l_4 - l_4 / l_6 * l_6))) 4 (.long l_6)) (by decide) (by decide) (Or.inr (by decide))) (by decide) (Or.inr (by decide))) (vg_o (i := 8) (v := .int (l_8 + 1)) (vg_s2 (vz_s2 (vz_s2 (lv) 9 (.long (l_4 - l_4 / l_6 * l_6))) 4 (.long l_6)) 6 (.long (l_4 - l_4 / l_6 * l_6))) (by decide) (Or.inr (by decide))) (vg_s (vz_s2 (vz_s2 (vz_s2 (lv) 9 (.long (l_4 - l_4 / l_6 * l_6))) 4 (.long l_6)) 6 (.long (l_4 - l_4 / l_6 * l_6))) 8 (.int (l_8 + 1))) (nb_s1 (nb_s2 (nb_s2 (nb_s2 hnb rfl) rfl) rfl) rfl)  H
/-- GameText.divisor(JJ)J -/
def F_75 (N : Nat) (x_0 : Int64) (x_2 : Int64) (σ : st_S) : Option (Int64 × st_S) :=
  L_75 N N (if 0 ≤ (lg_cmp x_0 0) then x_0 else (-x_0) : Int64) (if 0 ≤ (lg_cmp x_2 0) then x_2 else (-x_2) : Int64) 0 (σ)
set_option maxRecDepth 100000 in
theorem F_75_R {N : Nat} {x_0 : Int64} {x_2 : Int64} {σ : st_S} {p : Int64 × st_S} (H : F_75 N x_0 x_2 σ = some p) : gR p.2 = gR σ := by
  unfold F_75 at H
  exact (((L_75_R _ _ _ _ _ _ H)).trans rfl)
set_option maxHeartbeats 4000000 in
set_option maxRecDepth 100000 in
theorem F_75_ok {N d : Nat} {x_0 : Int64} {x_2 : Int64} {σ : st_S} {p : Int64 × st_S}  (H : F_75 N x_0 x_2 σ = some p) : vz_ev P0 (d + 1) 75 0 (lv_args 0 [.long x_0, .long x_2]) [] (hp σ) (.inl (some (.long p.1)), hp p.2) := by
  unfold F_75 at H
  refine ev_x (i := .lload_n 0) (len := 1) (p' := 1) (s' := [.long x_0]) rfl rfl rfl ?_
  refine ev_x (i := .lconst 0) (len := 1) (p' := 2) (s' := [.long 0, .long x_0]) rfl rfl rfl ?_
  refine ev_x (i := .lcmp) (len := 1) (p' := 3) (s' := [.int (lg_cmp x_0 0)]) rfl rfl rfl ?_
  refine F_jn (A := vz_ev P0 (d + 1) 75 12 [(0, .long x_0), (2, .long x_2)] [.long (if 0 ≤ (lg_cmp x_0 0) then x_0 else (-x_0) : Int64)] (hp (σ)) (.inl (some (.long p.1)), hp p.2)) ?_ (fun J => ?_)
  · refine ev_x (i := .lstore 4) (len := 2) (p' := 14) (s' := []) (l' := [(4, .long (if 0 ≤ (lg_cmp x_0 0) then x_0 else (-x_0) : Int64)), (0, .long x_0), (2, .long x_2)]) rfl rfl rfl ?_
    refine ev_x (i := .lload_n 2) (len := 1) (p' := 15) (s' := [.long x_2]) rfl rfl rfl ?_
    refine ev_x (i := .lconst 0) (len := 1) (p' := 16) (s' := [.long 0, .long x_2]) rfl rfl rfl ?_
    refine ev_x (i := .lcmp) (len := 1) (p' := 17) (s' := [.int (lg_cmp x_2 0)]) rfl rfl rfl ?_
    refine F_jn (A := vz_ev P0 (d + 1) 75 26 [(4, .long (if 0 ≤ (lg_cmp x_0 0) then x_0 else (-x_0) : Int64)), (0, .long x_0), (2, .long x_2)] [.long (if 0 ≤ (lg_cmp x_2 0) then x_2 else (-x_2) : Int64)] (hp (σ)) (.inl (some (.long p.1)), hp p.2)) ?_ (fun J => ?_)
    · refine ev_x (i := .lstore 6) (len := 2) (p' := 28) (s' := []) (l' := [(6, .long (if 0 ≤ (lg_cmp x_2 0) then x_2 else (-x_2) : Int64)), (4, .long (if 0 ≤ (lg_cmp x_0 0) then x_0 else (-x_0) : Int64)), (0, .long x_0), (2, .long x_2)]) rfl rfl rfl ?_
      refine ev_x (i := .iconst 0) (len := 1) (p' := 29) (s' := [.int 0]) rfl rfl rfl ?_
      refine ev_x (i := .istore 8) (len := 2) (p' := 31) (s' := []) (l' := [(8, .int 0), (6, .long (if 0 ≤ (lg_cmp x_2 0) then x_2 else (-x_2) : Int64)), (4, .long (if 0 ≤ (lg_cmp x_0 0) then x_0 else (-x_0) : Int64)), (0, .long x_0), (2, .long x_2)]) rfl rfl rfl ?_
      exact (L_75_ok (d := d) N) _ _ _ _ _ _ rfl rfl rfl rfl  H
    · by_cases c_2 : 0 ≤ (lg_cmp x_2 0)
      · refine ev_b0 (t := 25) (p' := 25) rfl rfl rfl (if_pos c_2) ?_
        refine ev_x (i := .lload_n 2) (len := 1) (p' := 26) (s' := [.long x_2]) rfl rfl rfl ?_
        exact ev_st (congrArg (fun z => Value.long z :: []) (by rw [if_pos c_2])) J
      · refine ev_b0 (t := 25) (p' := 20) rfl rfl rfl (if_neg c_2) ?_
        refine ev_x (i := .lload_n 2) (len := 1) (p' := 21) (s' := [.long x_2]) rfl rfl rfl ?_
        refine ev_x (i := .lneg) (len := 1) (p' := 22) (s' := [.long (-x_2)]) rfl rfl rfl ?_
        refine ev_x (i := .goto 4) (len := 3) (p' := 26) (s' := [.long (-x_2)]) rfl rfl rfl ?_
        exact ev_st (congrArg (fun z => Value.long z :: []) (by rw [if_neg c_2])) J
  · by_cases c_1 : 0 ≤ (lg_cmp x_0 0)
    · refine ev_b0 (t := 11) (p' := 11) rfl rfl rfl (if_pos c_1) ?_
      refine ev_x (i := .lload_n 0) (len := 1) (p' := 12) (s' := [.long x_0]) rfl rfl rfl ?_
      exact ev_st (congrArg (fun z => Value.long z :: []) (by rw [if_pos c_1])) J
    · refine ev_b0 (t := 11) (p' := 6) rfl rfl rfl (if_neg c_1) ?_
      refine ev_x (i := .lload_n 0) (len := 1) (p' := 7) (s' := [.long x_0]) rfl rfl rfl ?_
      refine ev_x (i := .lneg) (len := 1) (p' := 8) (s' := [.long (-x_0)]) rfl rfl rfl ?_
      refine ev_x (i := .goto 4) (len := 3) (p' := 12) (s' := [.long (-x_0)]) rfl rfl rfl ?_
      exact ev_st (congrArg (fun z => Value.long z :: []) (by rw [if_neg c_1])) J
/-- GameText$Machine.settle(I)I -/
def F_74 (N : Nat) (t : Nat) (x_1 : Int32) (σ : st_S) : Option (Int32 × st_S) :=
  if (lg_cmp (gJ σ 42 8) 1) = 0 then
    if ¬ (1 : Int64) = 0 then
    if 0 ≤ (lg_cmp ((gJ σ 42 7) / 1) 1000000000) then
      some (6, σ)
    else
      if (lg_cmp ((gJ σ 42 7) / 1) (-1000000000)) ≤ 0 then
        some (6, σ)
      else
        if (lg_cmp ((gJ σ 42 8) / 1) 1000000000) < 0 then
          if aB x_1 (gN σ (t + 8)) then
          if aB x_1 (gN σ (t + 9)) then
          some (0, st_e (st_e (σ) (t + 8) ((x_1 : Int32).toNatClampNeg) (((gJ σ 42 7) / 1) : Int64).toInt32) (t + 9) ((x_1 : Int32).toNatClampNeg) (((gJ σ 42 8) / 1) : Int64).toInt32)
          else none
          else none
        else
          some (6, σ)
    else none
  else
    (F_75 N (gJ σ 42 7) (gJ σ 42 8) (σ)).bind fun p_8 =>
    if ¬ (p_8.1 : Int64) = 0 then
    if 0 ≤ (lg_cmp ((gJ p_8.2 42 7) / p_8.1) 1000000000) then
      some (6, p_8.2)
    else
      if (lg_cmp ((gJ p_8.2 42 7) / p_8.1) (-1000000000)) ≤ 0 then
        some (6, p_8.2)
      else
        if (lg_cmp ((gJ p_8.2 42 8) / p_8.1) 1000000000) < 0 then
          if aB x_1 (gN p_8.2 (t + 8)) then
          if aB x_1 (gN p_8.2 (t + 9)) then
          some (0, st_e (st_e (p_8.2) (t + 8) ((x_1 : Int32).toNatClampNeg) (((gJ p_8.2 42 7) / p_8.1) : Int64).toInt32) (t + 9) ((x_1 : Int32).toNatClampNeg) (((gJ p_8.2 42 8) / p_8.1) : Int64).toInt32)
          else none
          else none
        else
          some (6, p_8.2)
    else none
set_option maxRecDepth 100000 in
theorem F_74_R {N : Nat} {t : Nat} {x_1 : Int32} {σ : st_S} {p : Int32 × st_S} (H : F_74 N t x_1 σ = some p) : gR p.2 = gR σ := by
  unfold F_74 at H
  refine F_if H (fun _ H => ?_) (fun _ H => ?_)
  · obtain ⟨_, H⟩ := F_gd H
    refine F_if H (fun _ H => ?_) (fun _ H => ?_)
    · obtain rfl := Option.some.inj H
      exact rfl
    · refine F_if H (fun _ H => ?_) (fun _ H => ?_)
      · obtain rfl := Option.some.inj H
        exact rfl
      · refine F_if H (fun _ H => ?_) (fun _ H => ?_)
        · obtain ⟨_, H⟩ := F_gd H
          obtain ⟨_, H⟩ := F_gd H
          obtain rfl := Option.some.inj H
          exact rfl
        · obtain rfl := Option.some.inj H
          exact rfl
  · obtain ⟨p_8, G_8, H⟩ := F_bd H
    obtain ⟨_, H⟩ := F_gd H
    refine F_if H (fun _ H => ?_) (fun _ H => ?_)
    · obtain rfl := Option.some.inj H
      exact ((F_75_R G_8).trans rfl)
    · refine F_if H (fun _ H => ?_) (fun _ H => ?_)
      · obtain rfl := Option.some.inj H
        exact ((F_75_R G_8).trans rfl)
      · refine F_if H (fun _ H => ?_) (fun _ H => ?_)
        · obtain ⟨_, H⟩ := F_gd H
          obtain ⟨_, H⟩ := F_gd H
          obtain rfl := Option.some.inj H
          exact ((F_75_R G_8).trans rfl)
        · obtain rfl := Option.some.inj H
          exact ((F_75_R G_8).trans rfl)
set_option maxHeartbeats 4000000 in
set_option maxRecDepth 100000 in
theorem F_74_ok {N d : Nat} {t : Nat} (ht : t = 4 ∨ t = 20) {x_1 : Int32} {σ : st_S} {p : Int32 × st_S} (hr_42_4 : gR σ 42 4 = (t + 1)) (H : F_74 N t x_1 σ = some p) : vz_ev P0 (d + 2) 74 0 (lv_args 0 [.ref 42, .int x_1]) [] (hp σ) (.inl (some (.int p.1)), hp p.2) := by
  unfold F_74 at H
  rcases ht with rfl | rfl
  · refine ev_x (i := .aload_n 0) (len := 1) (p' := 1) (s' := [.ref 42]) rfl rfl rfl ?_
    refine ev_gl (p' := 4) (v := (gJ σ 42 8)) rfl rfl rfl ly_42 rfl rfl rfl ?_
    refine ev_x (i := .lconst 1) (len := 1) (p' := 5) (s' := [.long 1, .long (gJ σ 42 8)]) rfl rfl rfl ?_
    refine ev_x (i := .lcmp) (len := 1) (p' := 6) (s' := [.int (lg_cmp (gJ σ 42 8) 1)]) rfl rfl rfl ?_
    refine F_if H (fun c_1 H => ?_) (fun c_1 H => ?_)
    · refine ev_b0 (t := 13) (p' := 9) rfl rfl rfl (if_neg (fun q => q c_1)) ?_
      refine ev_x (i := .lconst 1) (len := 1) (p' := 10) (s' := [.long 1]) rfl rfl rfl ?_
      refine ev_x (i := .goto 14) (len := 3) (p' := 24) (s' := [.long 1]) rfl rfl rfl ?_
      refine ev_x (i := .lstore_n 2) (len := 1) (p' := 25) (s' := []) (l' := [(2, .long 1), (0, .ref 42), (1, .int x_1)]) rfl rfl rfl ?_
      refine ev_x (i := .aload_n 0) (len := 1) (p' := 26) (s' := [.ref 42]) rfl rfl rfl ?_
      refine ev_gl (p' := 29) (v := (gJ σ 42 7)) rfl rfl rfl ly_42 rfl rfl rfl ?_
      refine ev_x (i := .lload_n 2) (len := 1) (p' := 30) (s' := [.long 1, .long (gJ σ 42 7)]) rfl rfl rfl ?_
      obtain ⟨b_2, H⟩ := F_gd H
      refine ev_ldiv (p' := 31) rfl rfl b_2 rfl ?_
      refine ev_x (i := .lstore 4) (len := 2) (p' := 33) (s' := []) (l' := [(4, .long ((gJ σ 42 7) / 1)), (2, .long 1), (0, .ref 42), (1, .int x_1)]) rfl rfl rfl ?_
      refine ev_x (i := .aload_n 0) (len := 1) (p' := 34) (s' := [.ref 42]) rfl rfl rfl ?_
      refine ev_gl (p' := 37) (v := (gJ σ 42 8)) rfl rfl rfl ly_42 rfl rfl rfl ?_
      refine ev_x (i := .lload_n 2) (len := 1) (p' := 38) (s' := [.long 1, .long (gJ σ 42 8)]) rfl rfl rfl ?_
      refine ev_ldiv (p' := 39) rfl rfl b_2 rfl ?_
      refine ev_x (i := .lstore 6) (len := 2) (p' := 41) (s' := []) (l' := [(6, .long ((gJ σ 42 8) / 1)), (4, .long ((gJ σ 42 7) / 1)), (2, .long 1), (0, .ref 42), (1, .int x_1)]) rfl rfl rfl ?_
      refine ev_x (i := .lload 4) (len := 2) (p' := 43) (s' := [.long ((gJ σ 42 7) / 1)]) rfl rfl rfl ?_
      refine ev_x (i := .ldc2_w 103) (len := 3) (p' := 46) (s' := [.long 1000000000, .long ((gJ σ 42 7) / 1)]) rfl rfl rfl ?_
      refine ev_x (i := .lcmp) (len := 1) (p' := 47) (s' := [.int (lg_cmp ((gJ σ 42 7) / 1) 1000000000)]) rfl rfl rfl ?_
      refine F_if H (fun c_3 H => ?_) (fun c_3 H => ?_)
      · refine ev_b0 (t := 68) (p' := 68) rfl rfl rfl (if_pos c_3) ?_
        refine ev_x (i := .bipush 6) (len := 2) (p' := 70) (s' := [.int 6]) rfl rfl rfl ?_
        obtain rfl := Option.some.inj H
        exact ev_iret rfl rfl rfl rfl
      · refine ev_b0 (t := 68) (p' := 50) rfl rfl rfl (if_neg c_3) ?_
        refine ev_x (i := .lload 4) (len := 2) (p' := 52) (s' := [.long ((gJ σ 42 7) / 1)]) rfl rfl rfl ?_
        refine ev_x (i := .ldc2_w 105) (len := 3) (p' := 55) (s' := [.long (-1000000000), .long ((gJ σ 42 7) / 1)]) rfl rfl rfl ?_
        refine ev_x (i := .lcmp) (len := 1) (p' := 56) (s' := [.int (lg_cmp ((gJ σ 42 7) / 1) (-1000000000))]) rfl rfl rfl ?_
        refine F_if H (fun c_4 H => ?_) (fun c_4 H => ?_)
        · refine ev_b0 (t := 68) (p' := 68) rfl rfl rfl (if_pos c_4) ?_
          refine ev_x (i := .bipush 6) (len := 2) (p' := 70) (s' := [.int 6]) rfl rfl rfl ?_
          obtain rfl := Option.some.inj H
          exact ev_iret rfl rfl rfl rfl
        · refine ev_b0 (t := 68) (p' := 59) rfl rfl rfl (if_neg c_4) ?_
          refine ev_x (i := .lload 6) (len := 2) (p' := 61) (s' := [.long ((gJ σ 42 8) / 1)]) rfl rfl rfl ?_
          refine ev_x (i := .ldc2_w 103) (len := 3) (p' := 64) (s' := [.long 1000000000, .long ((gJ σ 42 8) / 1)]) rfl rfl rfl ?_
          refine ev_x (i := .lcmp) (len := 1) (p' := 65) (s' := [.int (lg_cmp ((gJ σ 42 8) / 1) 1000000000)]) rfl rfl rfl ?_
          refine F_if H (fun c_5 H => ?_) (fun c_5 H => ?_)
          · refine ev_b0 (t := 71) (p' := 71) rfl rfl rfl (if_pos c_5) ?_
            refine ev_x (i := .aload_n 0) (len := 1) (p' := 72) (s' := [.ref 42]) rfl rfl rfl ?_
            refine ev_gr (p' := 75) (v := 5) rfl rfl rfl ly_42 rfl rfl hr_42_4 ?_
            refine ev_gc (p' := 78) (v := 12) rfl rfl rfl ly_5 rfl rfl ?_
            refine ev_x (i := .iload_n 1) (len := 1) (p' := 79) (s' := [.int x_1, .ref 12]) rfl rfl rfl ?_
            refine ev_x (i := .lload 4) (len := 2) (p' := 81) (s' := [.long ((gJ σ 42 7) / 1), .int x_1, .ref 12]) rfl rfl rfl ?_
            refine ev_x (i := .l2i) (len := 1) (p' := 82) (s' := [.int (((gJ σ 42 7) / 1) : Int64).toInt32, .int x_1, .ref 12]) rfl rfl rfl ?_
            obtain ⟨b_6, H⟩ := F_gd H
            refine ev_pa (j := (x_1 : Int32).toNatClampNeg) (p' := 83) rfl rfl ly_12 rfl (gd_in b_6) rfl ?_
            refine ev_x (i := .aload_n 0) (len := 1) (p' := 84) (s' := [.ref 42]) rfl rfl rfl ?_
            refine ev_gr (p' := 87) (v := 5) rfl rfl rfl ly_42 rfl rfl hr_42_4 ?_
            refine ev_gc (p' := 90) (v := 13) rfl rfl rfl ly_5 rfl rfl ?_
            refine ev_x (i := .iload_n 1) (len := 1) (p' := 91) (s' := [.int x_1, .ref 13]) rfl rfl rfl ?_
            refine ev_x (i := .lload 6) (len := 2) (p' := 93) (s' := [.long ((gJ σ 42 8) / 1), .int x_1, .ref 13]) rfl rfl rfl ?_
            refine ev_x (i := .l2i) (len := 1) (p' := 94) (s' := [.int (((gJ σ 42 8) / 1) : Int64).toInt32, .int x_1, .ref 13]) rfl rfl rfl ?_
            obtain ⟨b_7, H⟩ := F_gd H
            refine ev_pa (j := (x_1 : Int32).toNatClampNeg) (p' := 95) rfl rfl ly_13 rfl (gd_in b_7) rfl ?_
            refine ev_x (i := .iconst 0) (len := 1) (p' := 96) (s' := [.int 0]) rfl rfl rfl ?_
            obtain rfl := Option.some.inj H
            exact ev_iret rfl rfl rfl rfl
          · refine ev_b0 (t := 71) (p' := 68) rfl rfl rfl (if_neg c_5) ?_
            refine ev_x (i := .bipush 6) (len := 2) (p' := 70) (s' := [.int 6]) rfl rfl rfl ?_
            obtain rfl := Option.some.inj H
            exact ev_iret rfl rfl rfl rfl
    · refine ev_b0 (t := 13) (p' := 13) rfl rfl rfl (if_pos c_1) ?_
      refine ev_x (i := .aload_n 0) (len := 1) (p' := 14) (s' := [.ref 42]) rfl rfl rfl ?_
      refine ev_gl (p' := 17) (v := (gJ σ 42 7)) rfl rfl rfl ly_42 rfl rfl rfl ?_
      refine ev_x (i := .aload_n 0) (len := 1) (p' := 18) (s' := [.ref 42, .long (gJ σ 42 7)]) rfl rfl rfl ?_
      refine ev_gl (p' := 21) (v := (gJ σ 42 8)) rfl rfl rfl ly_42 rfl rfl rfl ?_
      obtain ⟨p_8, G_8, H⟩ := F_bd H
      refine ev_callS (d := d + 1) (As := [.long (gJ σ 42 7), .long (gJ σ 42 8)]) rfl rfl rfl (by decide) rfl rfl rfl rfl rfl (F_75_ok (d := d + 0)   G_8) ?_
      refine ev_st (st' := [.long p_8.1]) rfl ?_
      refine ev_pc (pc' := 24) rfl ?_
      have e_8 := F_75_R G_8
      refine ev_x (i := .lstore_n 2) (len := 1) (p' := 25) (s' := []) (l' := [(2, .long p_8.1), (0, .ref 42), (1, .int x_1)]) rfl rfl rfl ?_
      refine ev_x (i := .aload_n 0) (len := 1) (p' := 26) (s' := [.ref 42]) rfl rfl rfl ?_
      refine ev_gl (p' := 29) (v := (gJ p_8.2 42 7)) rfl rfl rfl ly_42 rfl rfl rfl ?_
      refine ev_x (i := .lload_n 2) (len := 1) (p' := 30) (s' := [.long p_8.1, .long (gJ p_8.2 42 7)]) rfl rfl rfl ?_
      obtain ⟨b_9, H⟩ := F_gd H
      refine ev_ldiv (p' := 31) rfl rfl b_9 rfl ?_
      refine ev_x (i := .lstore 4) (len := 2) (p' := 33) (s' := []) (l' := [(4, .long ((gJ p_8.2 42 7) / p_8.1)), (2, .long p_8.1), (0, .ref 42), (1, .int x_1)]) rfl rfl rfl ?_
      refine ev_x (i := .aload_n 0) (len := 1) (p' := 34) (s' := [.ref 42]) rfl rfl rfl ?_
      refine ev_gl (p' := 37) (v := (gJ p_8.2 42 8)) rfl rfl rfl ly_42 rfl rfl rfl ?_
      refine ev_x (i := .lload_n 2) (len := 1) (p' := 38) (s' := [.long p_8.1, .long (gJ p_8.2 42 8)]) rfl rfl rfl ?_
      refine ev_ldiv (p' := 39) rfl rfl b_9 rfl ?_
      refine ev_x (i := .lstore 6) (len := 2) (p' := 41) (s' := []) (l' := [(6, .long ((gJ p_8.2 42 8) / p_8.1)), (4, .long ((gJ p_8.2 42 7) / p_8.1)), (2, .long p_8.1), (0, .ref 42), (1, .int x_1)]) rfl rfl rfl ?_
      refine ev_x (i := .lload 4) (len := 2) (p' := 43) (s' := [.long ((gJ p_8.2 42 7) / p_8.1)]) rfl rfl rfl ?_
      refine ev_x (i := .ldc2_w 103) (len := 3) (p' := 46) (s' := [.long 1000000000, .long ((gJ p_8.2 42 7) / p_8.1)]) rfl rfl rfl ?_
      refine ev_x (i := .lcmp) (len := 1) (p' := 47) (s' := [.int (lg_cmp ((gJ p_8.2 42 7) / p_8.1) 1000000000)]) rfl rfl rfl ?_
      refine F_if H (fun c_10 H => ?_) (fun c_10 H => ?_)
      · refine ev_b0 (t := 68) (p' := 68) rfl rfl rfl (if_pos c_10) ?_
        refine ev_x (i := .bipush 6) (len := 2) (p' := 70) (s' := [.int 6]) rfl rfl rfl ?_
        obtain rfl := Option.some.inj H
        exact ev_iret rfl rfl rfl rfl
      · refine ev_b0 (t := 68) (p' := 50) rfl rfl rfl (if_neg c_10) ?_
        refine ev_x (i := .lload 4) (len := 2) (p' := 52) (s' := [.long ((gJ p_8.2 42 7) / p_8.1)]) rfl rfl rfl ?_
        refine ev_x (i := .ldc2_w 105) (len := 3) (p' := 55) (s' := [.long (-1000000000), .long ((gJ p_8.2 42 7) / p_8.1)]) rfl rfl rfl ?_
        refine ev_x (i := .lcmp) (len := 1) (p' := 56) (s' := [.int (lg_cmp ((gJ p_8.2 42 7) / p_8.1) (-1000000000))]) rfl rfl rfl ?_
        refine F_if H (fun c_11 H => ?_) (fun c_11 H => ?_)
        · refine ev_b0 (t := 68) (p' := 68) rfl rfl rfl (if_pos c_11) ?_
          refine ev_x (i := .bipush 6) (len := 2) (p' := 70) (s' := [.int 6]) rfl rfl rfl ?_
          obtain rfl := Option.some.inj H
          exact ev_iret rfl rfl rfl rfl
        · refine ev_b0 (t := 68) (p' := 59) rfl rfl rfl (if_neg c_11) ?_
          refine ev_x (i := .lload 6) (len := 2) (p' := 61) (s' := [.long ((gJ p_8.2 42 8) / p_8.1)]) rfl rfl rfl ?_
          refine ev_x (i := .ldc2_w 103) (len := 3) (p' := 64) (s' := [.long 1000000000, .long ((gJ p_8.2 42 8) / p_8.1)]) rfl rfl rfl ?_
          refine ev_x (i := .lcmp) (len := 1) (p' := 65) (s' := [.int (lg_cmp ((gJ p_8.2 42 8) / p_8.1) 1000000000)]) rfl rfl rfl ?_
          refine F_if H (fun c_12 H => ?_) (fun c_12 H => ?_)
          · refine ev_b0 (t := 71) (p' := 71) rfl rfl rfl (if_pos c_12) ?_
            refine ev_x (i := .aload_n 0) (len := 1) (p' := 72) (s' := [.ref 42]) rfl rfl rfl ?_
            refine ev_gr (p' := 75) (v := 5) rfl rfl rfl ly_42 rfl rfl ((congrFun (congrFun e_8 42) 4).trans hr_42_4) ?_
            refine ev_gc (p' := 78) (v := 12) rfl rfl rfl ly_5 rfl rfl ?_
            refine ev_x (i := .iload_n 1) (len := 1) (p' := 79) (s' := [.int x_1, .ref 12]) rfl rfl rfl ?_
            refine ev_x (i := .lload 4) (len := 2) (p' := 81) (s' := [.long ((gJ p_8.2 42 7) / p_8.1), .int x_1, .ref 12]) rfl rfl rfl ?_
            refine ev_x (i := .l2i) (len := 1) (p' := 82) (s' := [.int (((gJ p_8.2 42 7) / p_8.1) : Int64).toInt32, .int x_1, .ref 12]) rfl rfl rfl ?_
            obtain ⟨b_13, H⟩ := F_gd H
            refine ev_pa (j := (x_1 : Int32).toNatClampNeg) (p' := 83) rfl rfl ly_12 rfl (gd_in b_13) rfl ?_
            refine ev_x (i := .aload_n 0) (len := 1) (p' := 84) (s' := [.ref 42]) rfl rfl rfl ?_
            refine ev_gr (p' := 87) (v := 5) rfl rfl rfl ly_42 rfl rfl ((congrFun (congrFun e_8 42) 4).trans hr_42_4) ?_
            refine ev_gc (p' := 90) (v := 13) rfl rfl rfl ly_5 rfl rfl ?_
            refine ev_x (i := .iload_n 1) (len := 1) (p' := 91) (s' := [.int x_1, .ref 13]) rfl rfl rfl ?_
            refine ev_x (i := .lload 6) (len := 2) (p' := 93) (s' := [.long ((gJ p_8.2 42 8) / p_8.1), .int x_1, .ref 13]) rfl rfl rfl ?_
            refine ev_x (i := .l2i) (len := 1) (p' := 94) (s' := [.int (((gJ p_8.2 42 8) / p_8.1) : Int64).toInt32, .int x_1, .ref 13]) rfl rfl rfl ?_
            obtain ⟨b_14, H⟩ := F_gd H
            refine ev_pa (j := (x_1 : Int32).toNatClampNeg) (p' := 95) rfl rfl ly_13 rfl (gd_in b_14) rfl ?_
            refine ev_x (i := .iconst 0) (len := 1) (p' := 96) (s' := [.int 0]) rfl rfl rfl ?_
            obtain rfl := Option.some.inj H
            exact ev_iret rfl rfl rfl rfl
          · refine ev_b0 (t := 71) (p' := 68) rfl rfl rfl (if_neg c_12) ?_
            refine ev_x (i := .bipush 6) (len := 2) (p' := 70) (s' := [.int 6]) rfl rfl rfl ?_
            obtain rfl := Option.some.inj H
            exact ev_iret rfl rfl rfl rfl
  · refine ev_x (i := .aload_n 0) (len := 1) (p' := 1) (s' := [.ref 42]) rfl rfl rfl ?_
    refine ev_gl (p' := 4) (v := (gJ σ 42 8)) rfl rfl rfl ly_42 rfl rfl rfl ?_
    refine ev_x (i := .lconst 1) (len := 1) (p' := 5) (s' := [.long 1, .long (gJ σ 42 8)]) rfl rfl rfl ?_
    refine ev_x (i := .lcmp) (len := 1) (p' := 6) (s' := [.int (lg_cmp (gJ σ 42 8) 1)]) rfl rfl rfl ?_
    refine F_if H (fun c_1 H => ?_) (fun c_1 H => ?_)
    · refine ev_b0 (t := 13) (p' := 9) rfl rfl rfl (if_neg (fun q => q c_1)) ?_
      refine ev_x (i := .lconst 1) (len := 1) (p' := 10) (s' := [.long 1]) rfl rfl rfl ?_
      refine ev_x (i := .goto 14) (len := 3) (p' := 24) (s' := [.long 1]) rfl rfl rfl ?_
      refine ev_x (i := .lstore_n 2) (len := 1) (p' := 25) (s' := []) (l' := [(2, .long 1), (0, .ref 42), (1, .int x_1)]) rfl rfl rfl ?_
      refine ev_x (i := .aload_n 0) (len := 1) (p' := 26) (s' := [.ref 42]) rfl rfl rfl ?_
      refine ev_gl (p' := 29) (v := (gJ σ 42 7)) rfl rfl rfl ly_42 rfl rfl rfl ?_
      refine ev_x (i := .lload_n 2) (len := 1) (p' := 30) (s' := [.long 1, .long (gJ σ 42 7)]) rfl rfl rfl ?_
      obtain ⟨b_2, H⟩ := F_gd H
      refine ev_ldiv (p' := 31) rfl rfl b_2 rfl ?_
      refine ev_x (i := .lstore 4) (len := 2) (p' := 33) (s' := []) (l' := [(4, .long ((gJ σ 42 7) / 1)), (2, .long 1), (0, .ref 42), (1, .int x_1)]) rfl rfl rfl ?_
      refine ev_x (i := .aload_n 0) (len := 1) (p' := 34) (s' := [.ref 42]) rfl rfl rfl ?_
      refine ev_gl (p' := 37) (v := (gJ σ 42 8)) rfl rfl rfl ly_42 rfl rfl rfl ?_
      refine ev_x (i := .lload_n 2) (len := 1) (p' := 38) (s' := [.long 1, .long (gJ σ 42 8)]) rfl rfl rfl ?_
      refine ev_ldiv (p' := 39) rfl rfl b_2 rfl ?_
      refine ev_x (i := .lstore 6) (len := 2) (p' := 41) (s' := []) (l' := [(6, .long ((gJ σ 42 8) / 1)), (4, .long ((gJ σ 42 7) / 1)), (2, .long 1), (0, .ref 42), (1, .int x_1)]) rfl rfl rfl ?_
      refine ev_x (i := .lload 4) (len := 2) (p' := 43) (s' := [.long ((gJ σ 42 7) / 1)]) rfl rfl rfl ?_
      refine ev_x (i := .ldc2_w 103) (len := 3) (p' := 46) (s' := [.long 1000000000, .long ((gJ σ 42 7) / 1)]) rfl rfl rfl ?_
      refine ev_x (i := .lcmp) (len := 1) (p' := 47) (s' := [.int (lg_cmp ((gJ σ 42 7) / 1) 1000000000)]) rfl rfl rfl ?_
      refine F_if H (fun c_3 H => ?_) (fun c_3 H => ?_)
      · refine ev_b0 (t := 68) (p' := 68) rfl rfl rfl (if_pos c_3) ?_
        refine ev_x (i := .bipush 6) (len := 2) (p' := 70) (s' := [.int 6]) rfl rfl rfl ?_
        obtain rfl := Option.some.inj H
        exact ev_iret rfl rfl rfl rfl
      · refine ev_b0 (t := 68) (p' := 50) rfl rfl rfl (if_neg c_3) ?_
        refine ev_x (i := .lload 4) (len := 2) (p' := 52) (s' := [.long ((gJ σ 42 7) / 1)]) rfl rfl rfl ?_
        refine ev_x (i := .ldc2_w 105) (len := 3) (p' := 55) (s' := [.long (-1000000000), .long ((gJ σ 42 7) / 1)]) rfl rfl rfl ?_
        refine ev_x (i := .lcmp) (len := 1) (p' := 56) (s' := [.int (lg_cmp ((gJ σ 42 7) / 1) (-1000000000))]) rfl rfl rfl ?_
        refine F_if H (fun c_4 H => ?_) (fun c_4 H => ?_)
        · refine ev_b0 (t := 68) (p' := 68) rfl rfl rfl (if_pos c_4) ?_
          refine ev_x (i := .bipush 6) (len := 2) (p' := 70) (s' := [.int 6]) rfl rfl rfl ?_
          obtain rfl := Option.some.inj H
          exact ev_iret rfl rfl rfl rfl
        · refine ev_b0 (t := 68) (p' := 59) rfl rfl rfl (if_neg c_4) ?_
          refine ev_x (i := .lload 6) (len := 2) (p' := 61) (s' := [.long ((gJ σ 42 8) / 1)]) rfl rfl rfl ?_
          refine ev_x (i := .ldc2_w 103) (len := 3) (p' := 64) (s' := [.long 1000000000, .long ((gJ σ 42 8) / 1)]) rfl rfl rfl ?_
          refine ev_x (i := .lcmp) (len := 1) (p' := 65) (s' := [.int (lg_cmp ((gJ σ 42 8) / 1) 1000000000)]) rfl rfl rfl ?_
          refine F_if H (fun c_5 H => ?_) (fun c_5 H => ?_)
          · refine ev_b0 (t := 71) (p' := 71) rfl rfl rfl (if_pos c_5) ?_
            refine ev_x (i := .aload_n 0) (len := 1) (p' := 72) (s' := [.ref 42]) rfl rfl rfl ?_
            refine ev_gr (p' := 75) (v := 21) rfl rfl rfl ly_42 rfl rfl hr_42_4 ?_
            refine ev_gc (p' := 78) (v := 28) rfl rfl rfl ly_21 rfl rfl ?_
            refine ev_x (i := .iload_n 1) (len := 1) (p' := 79) (s' := [.int x_1, .ref 28]) rfl rfl rfl ?_
            refine ev_x (i := .lload 4) (len := 2) (p' := 81) (s' := [.long ((gJ σ 42 7) / 1), .int x_1, .ref 28]) rfl rfl rfl ?_
            refine ev_x (i := .l2i) (len := 1) (p' := 82) (s' := [.int (((gJ σ 42 7) / 1) : Int64).toInt32, .int x_1, .ref 28]) rfl rfl rfl ?_
            obtain ⟨b_6, H⟩ := F_gd H
            refine ev_pa (j := (x_1 : Int32).toNatClampNeg) (p' := 83) rfl rfl ly_28 rfl (gd_in b_6) rfl ?_
            refine ev_x (i := .aload_n 0) (len := 1) (p' := 84) (s' := [.ref 42]) rfl rfl rfl ?_
            refine ev_gr (p' := 87) (v := 21) rfl rfl rfl ly_42 rfl rfl hr_42_4 ?_
            refine ev_gc (p' := 90) (v := 29) rfl rfl rfl ly_21 rfl rfl ?_
            refine ev_x (i := .iload_n 1) (len := 1) (p' := 91) (s' := [.int x_1, .ref 29]) rfl rfl rfl ?_
            refine ev_x (i := .lload 6) (len := 2) (p' := 93) (s' := [.long ((gJ σ 42 8) / 1), .int x_1, .ref 29]) rfl rfl rfl ?_
            refine ev_x (i := .l2i) (len := 1) (p' := 94) (s' := [.int (((gJ σ 42 8) / 1) : Int64).toInt32, .int x_1, .ref 29]) rfl rfl rfl ?_
            obtain ⟨b_7, H⟩ := F_gd H
            refine ev_pa (j := (x_1 : Int32).toNatClampNeg) (p' := 95) rfl rfl ly_29 rfl (gd_in b_7) rfl ?_
            refine ev_x (i := .iconst 0) (len := 1) (p' := 96) (s' := [.int 0]) rfl rfl rfl ?_
            obtain rfl := Option.some.inj H
            exact ev_iret rfl rfl rfl rfl
          · refine ev_b0 (t := 71) (p' := 68) rfl rfl rfl (if_neg c_5) ?_
            refine ev_x (i := .bipush 6) (len := 2) (p' := 70) (s' := [.int 6]) rfl rfl rfl ?_
            obtain rfl := Option.some.inj H
            exact ev_iret rfl rfl rfl rfl
    · refine ev_b0 (t := 13) (p' := 13) rfl rfl rfl (if_pos c_1) ?_
      refine ev_x (i := .aload_n 0) (len := 1) (p' := 14) (s' := [.ref 42]) rfl rfl rfl ?_
      refine ev_gl (p' := 17) (v := (gJ σ 42 7)) rfl rfl rfl ly_42 rfl rfl rfl ?_
      refine ev_x (i := .aload_n 0) (len := 1) (p' := 18) (s' := [.ref 42, .long (gJ σ 42 7)]) rfl rfl rfl ?_
      refine ev_gl (p' := 21) (v := (gJ σ 42 8)) rfl rfl rfl ly_42 rfl rfl rfl ?_
      obtain ⟨p_8, G_8, H⟩ := F_bd H
      refine ev_callS (d := d + 1) (As := [.long (gJ σ 42 7), .long (gJ σ 42 8)]) rfl rfl rfl (by decide) rfl rfl rfl rfl rfl (F_75_ok (d := d + 0)   G_8) ?_
      refine ev_st (st' := [.long p_8.1]) rfl ?_
      refine ev_pc (pc' := 24) rfl ?_
      have e_8 := F_75_R G_8
      refine ev_x (i := .lstore_n 2) (len := 1) (p' := 25) (s' := []) (l' := [(2, .long p_8.1), (0, .ref 42), (1, .int x_1)]) rfl rfl rfl ?_
      refine ev_x (i := .aload_n 0) (len := 1) (p' := 26) (s' := [.ref 42]) rfl rfl rfl ?_
      refine ev_gl (p' := 29) (v := (gJ p_8.2 42 7)) rfl rfl rfl ly_42 rfl rfl rfl ?_
      refine ev_x (i := .lload_n 2) (len := 1) (p' := 30) (s' := [.long p_8.1, .long (gJ p_8.2 42 7)]) rfl rfl rfl ?_
      obtain ⟨b_9, H⟩ := F_gd H
      refine ev_ldiv (p' := 31) rfl rfl b_9 rfl ?_
      refine ev_x (i := .lstore 4) (len := 2) (p' := 33) (s' := []) (l' := [(4, .long ((gJ p_8.2 42 7) / p_8.1)), (2, .long p_8.1), (0, .ref 42), (1, .int x_1)]) rfl rfl rfl ?_
      refine ev_x (i := .aload_n 0) (len := 1) (p' := 34) (s' := [.ref 42]) rfl rfl rfl ?_
      refine ev_gl (p' := 37) (v := (gJ p_8.2 42 8)) rfl rfl rfl ly_42 rfl rfl rfl ?_
      refine ev_x (i := .lload_n 2) (len := 1) (p' := 38) (s' := [.long p_8.1, .long (gJ p_8.2 42 8)]) rfl rfl rfl ?_
      refine ev_ldiv (p' := 39) rfl rfl b_9 rfl ?_
      refine ev_x (i := .lstore 6) (len := 2) (p' := 41) (s' := []) (l' := [(6, .long ((gJ p_8.2 42 8) / p_8.1)), (4, .long ((gJ p_8.2 42 7) / p_8.1)), (2, .long p_8.1), (0, .ref 42), (1, .int x_1)]) rfl rfl rfl ?_
      refine ev_x (i := .lload 4) (len := 2) (p' := 43) (s' := [.long ((gJ p_8.2 42 7) / p_8.1)]) rfl rfl rfl ?_
      refine ev_x (i := .ldc2_w 103) (len := 3) (p' := 46) (s' := [.long 1000000000, .long ((gJ p_8.2 42 7) / p_8.1)]) rfl rfl rfl ?_
      refine ev_x (i := .lcmp) (len := 1) (p' := 47) (s' := [.int (lg_cmp ((gJ p_8.2 42 7) / p_8.1) 1000000000)]) rfl rfl rfl ?_
      refine F_if H (fun c_10 H => ?_) (fun c_10 H => ?_)
      · refine ev_b0 (t := 68) (p' := 68) rfl rfl rfl (if_pos c_10) ?_
        refine ev_x (i := .bipush 6) (len := 2) (p' := 70) (s' := [.int 6]) rfl rfl rfl ?_
        obtain rfl := Option.some.inj H
        exact ev_iret rfl rfl rfl rfl
      · refine ev_b0 (t := 68) (p' := 50) rfl rfl rfl (if_neg c_10) ?_
        refine ev_x (i := .lload 4) (len := 2) (p' := 52) (s' := [.long ((gJ p_8.2 42 7) / p_8.1)]) rfl rfl rfl ?_
        refine ev_x (i := .ldc2_w 105) (len := 3) (p' := 55) (s' := [.long (-1000000000), .long ((gJ p_8.2 42 7) / p_8.1)]) rfl rfl rfl ?_
        refine ev_x (i := .lcmp) (len := 1) (p' := 56) (s' := [.int (lg_cmp ((gJ p_8.2 42 7) / p_8.1) (-1000000000))]) rfl rfl rfl ?_
        refine F_if H (fun c_11 H => ?_) (fun c_11 H => ?_)
        · refine ev_b0 (t := 68) (p' := 68) rfl rfl rfl (if_pos c_11) ?_
          refine ev_x (i := .bipush 6) (len := 2) (p' := 70) (s' := [.int 6]) rfl rfl rfl ?_
          obtain rfl := Option.some.inj H
          exact ev_iret rfl rfl rfl rfl
        · refine ev_b0 (t := 68) (p' := 59) rfl rfl rfl (if_neg c_11) ?_
          refine ev_x (i := .lload 6) (len := 2) (p' := 61) (s' := [.long ((gJ p_8.2 42 8) / p_8.1)]) rfl rfl rfl ?_
          refine ev_x (i := .ldc2_w 103) (len := 3) (p' := 64) (s' := [.long 1000000000, .long ((gJ p_8.2 42 8) / p_8.1)]) rfl rfl rfl ?_
          refine ev_x (i := .lcmp) (len := 1) (p' := 65) (s' := [.int (lg_cmp ((gJ p_8.2 42 8) / p_8.1) 1000000000)]) rfl rfl rfl ?_
          refine F_if H (fun c_12 H => ?_) (fun c_12 H => ?_)
          · refine ev_b0 (t := 71) (p' := 71) rfl rfl rfl (if_pos c_12) ?_
            refine ev_x (i := .aload_n 0) (len := 1) (p' := 72) (s' := [.ref 42]) rfl rfl rfl ?_
            refine ev_gr (p' := 75) (v := 21) rfl rfl rfl ly_42 rfl rfl ((congrFun (congrFun e_8 42) 4).trans hr_42_4) ?_
            refine ev_gc (p' := 78) (v := 28) rfl rfl rfl ly_21 rfl rfl ?_
            refine ev_x (i := .iload_n 1) (len := 1) (p' := 79) (s' := [.int x_1, .ref 28]) rfl rfl rfl ?_
            refine ev_x (i := .lload 4) (len := 2) (p' := 81) (s' := [.long ((gJ p_8.2 42 7) / p_8.1), .int x_1, .ref 28]) rfl rfl rfl ?_
            refine ev_x (i := .l2i) (len := 1) (p' := 82) (s' := [.int (((gJ p_8.2 42 7) / p_8.1) : Int64).toInt32, .int x_1, .ref 28]) rfl rfl rfl ?_
            obtain ⟨b_13, H⟩ := F_gd H
            refine ev_pa (j := (x_1 : Int32).toNatClampNeg) (p' := 83) rfl rfl ly_28 rfl (gd_in b_13) rfl ?_
            refine ev_x (i := .aload_n 0) (len := 1) (p' := 84) (s' := [.ref 42]) rfl rfl rfl ?_
            refine ev_gr (p' := 87) (v := 21) rfl rfl rfl ly_42 rfl rfl ((congrFun (congrFun e_8 42) 4).trans hr_42_4) ?_
            refine ev_gc (p' := 90) (v := 29) rfl rfl rfl ly_21 rfl rfl ?_
            refine ev_x (i := .iload_n 1) (len := 1) (p' := 91) (s' := [.int x_1, .ref 29]) rfl rfl rfl ?_
            refine ev_x (i := .lload 6) (len := 2) (p' := 93) (s' := [.long ((gJ p_8.2 42 8) / p_8.1), .int x_1, .ref 29]) rfl rfl rfl ?_
            refine ev_x (i := .l2i) (len := 1) (p' := 94) (s' := [.int (((gJ p_8.2 42 8) / p_8.1) : Int64).toInt32, .int x_1, .ref 29]) rfl rfl rfl ?_
            obtain ⟨b_14, H⟩ := F_gd H
            refine ev_pa (j := (x_1 : Int32).toNatClampNeg) (p' := 95) rfl rfl ly_29 rfl (gd_in b_14) rfl ?_
            refine ev_x (i := .iconst 0) (len := 1) (p' := 96) (s' := [.int 0]) rfl rfl rfl ?_
            obtain rfl := Option.some.inj H
            exact ev_iret rfl rfl rfl rfl
          · refine ev_b0 (t := 71) (p' := 68) rfl rfl rfl (if_neg c_12) ?_
            refine ev_x (i := .bipush 6) (len := 2) (p' := 70) (s' := [.int 6]) rfl rfl rfl ?_
            obtain rfl := Option.some.inj H
            exact ev_iret rfl rfl rfl rfl
/-- GameText$Machine.compare(I)I -/
def F_77 (N : Nat) (t : Nat) (x_1 : Int32) (σ : st_S) : Option (Int32 × st_S) :=
  if aB x_1 (gN σ (t + 4)) then
  if aB x_1 (gN σ (t + 5)) then
  if aB (gE (σ) (t + 4) (x_1 : Int32).toNatClampNeg) (gN σ (t + 8)) then
  if aB (gE (σ) (t + 5) (x_1 : Int32).toNatClampNeg) (gN σ (t + 9)) then
  if aB (gE (σ) (t + 5) (x_1 : Int32).toNatClampNeg) (gN σ (t + 8)) then
  if aB (gE (σ) (t + 4) (x_1 : Int32).toNatClampNeg) (gN σ (t + 9)) then
  if (lg_cmp (((gE (σ) (t + 8) ((gE (σ) (t + 4) (x_1 : Int32).toNatClampNeg) : Int32).toNatClampNeg) : Int32).toInt64 * ((gE (σ) (t + 9) ((gE (σ) (t + 5) (x_1 : Int32).toNatClampNeg) : Int32).toNatClampNeg) : Int32).toInt64) (((gE (σ) (t + 8) ((gE (σ) (t + 5) (x_1 : Int32).toNatClampNeg) : Int32).toNatClampNeg) : Int32).toInt64 * ((gE (σ) (t + 9) ((gE (σ) (t + 4) (x_1 : Int32).toNatClampNeg) : Int32).toNatClampNeg) : Int32).toInt64)) = 0 then
    some (0, σ)
  else
    some ((if 0 ≤ (lg_cmp (((gE (σ) (t + 8) ((gE (σ) (t + 4) (x_1 : Int32).toNatClampNeg) : Int32).toNatClampNeg) : Int32).toInt64 * ((gE (σ) (t + 9) ((gE (σ) (t + 5) (x_1 : Int32).toNatClampNeg) : Int32).toNatClampNeg) : Int32).toInt64) (((gE (σ) (t + 8) ((gE (σ) (t + 5) (x_1 : Int32).toNatClampNeg) : Int32).toNatClampNeg) : Int32).toInt64 * ((gE (σ) (t + 9) ((gE (σ) (t + 4) (x_1 : Int32).toNatClampNeg) : Int32).toNatClampNeg) : Int32).toInt64)) then 1 else (-1) : Int32), σ)
  else none
  else none
  else none
  else none
  else none
  else none
set_option maxRecDepth 100000 in
theorem F_77_R {N : Nat} {t : Nat} {x_1 : Int32} {σ : st_S} {p : Int32 × st_S} (H : F_77 N t x_1 σ = some p) : gR p.2 = gR σ := by
  unfold F_77 at H
  obtain ⟨_, H⟩ := F_gd H
  obtain ⟨_, H⟩ := F_gd H
  obtain ⟨_, H⟩ := F_gd H
  obtain ⟨_, H⟩ := F_gd H
  obtain ⟨_, H⟩ := F_gd H
  obtain ⟨_, H⟩ := F_gd H
  refine F_if H (fun _ H => ?_) (fun _ H => ?_)
  · obtain rfl := Option.some.inj H
    exact rfl
  · obtain rfl := Option.some.inj H
    exact rfl
set_option maxHeartbeats 4000000 in
set_option maxRecDepth 100000 in
theorem F_77_ok {N d : Nat} {t : Nat} (ht : t = 4 ∨ t = 20) {x_1 : Int32} {σ : st_S} {p : Int32 × st_S} (hr_42_4 : gR σ 42 4 = (t + 1)) (H : F_77 N t x_1 σ = some p) : vz_ev P0 (d + 1) 77 0 (lv_args 0 [.ref 42, .int x_1]) [] (hp σ) (.inl (some (.int p.1)), hp p.2) := by
  unfold F_77 at H
  rcases ht with rfl | rfl
  · refine ev_x (i := .aload_n 0) (len := 1) (p' := 1) (s' := [.ref 42]) rfl rfl rfl ?_
    refine ev_gr (p' := 4) (v := 5) rfl rfl rfl ly_42 rfl rfl hr_42_4 ?_
    refine ev_gc (p' := 7) (v := 8) rfl rfl rfl ly_5 rfl rfl ?_
    refine ev_x (i := .iload_n 1) (len := 1) (p' := 8) (s' := [.int x_1, .ref 8]) rfl rfl rfl ?_
    obtain ⟨b_1, H⟩ := F_gd H
    refine ev_ga (p' := 9) (v := (gE (σ) 8 (x_1 : Int32).toNatClampNeg)) rfl rfl ly_8 rfl (gd_in b_1) rfl ?_
    refine ev_x (i := .istore_n 2) (len := 1) (p' := 10) (s' := []) (l' := [(2, .int (gE (σ) 8 (x_1 : Int32).toNatClampNeg)), (0, .ref 42), (1, .int x_1)]) rfl rfl rfl ?_
    refine ev_x (i := .aload_n 0) (len := 1) (p' := 11) (s' := [.ref 42]) rfl rfl rfl ?_
    refine ev_gr (p' := 14) (v := 5) rfl rfl rfl ly_42 rfl rfl hr_42_4 ?_
    refine ev_gc (p' := 17) (v := 9) rfl rfl rfl ly_5 rfl rfl ?_
    refine ev_x (i := .iload_n 1) (len := 1) (p' := 18) (s' := [.int x_1, .ref 9]) rfl rfl rfl ?_
    obtain ⟨b_2, H⟩ := F_gd H
    refine ev_ga (p' := 19) (v := (gE (σ) 9 (x_1 : Int32).toNatClampNeg)) rfl rfl ly_9 rfl (gd_in b_2) rfl ?_
    refine ev_x (i := .istore_n 3) (len := 1) (p' := 20) (s' := []) (l' := [(3, .int (gE (σ) 9 (x_1 : Int32).toNatClampNeg)), (2, .int (gE (σ) 8 (x_1 : Int32).toNatClampNeg)), (0, .ref 42), (1, .int x_1)]) rfl rfl rfl ?_
    refine ev_x (i := .aload_n 0) (len := 1) (p' := 21) (s' := [.ref 42]) rfl rfl rfl ?_
    refine ev_gr (p' := 24) (v := 5) rfl rfl rfl ly_42 rfl rfl hr_42_4 ?_
    refine ev_gc (p' := 27) (v := 12) rfl rfl rfl ly_5 rfl rfl ?_
    refine ev_x (i := .iload_n 2) (len := 1) (p' := 28) (s' := [.int (gE (σ) 8 (x_1 : Int32).toNatClampNeg), .ref 12]) rfl rfl rfl ?_
    obtain ⟨b_3, H⟩ := F_gd H
    refine ev_ga (p' := 29) (v := (gE (σ) 12 ((gE (σ) 8 (x_1 : Int32).toNatClampNeg) : Int32).toNatClampNeg)) rfl rfl ly_12 rfl (gd_in b_3) rfl ?_
    refine ev_x (i := .i2l) (len := 1) (p' := 30) (s' := [.long ((gE (σ) 12 ((gE (σ) 8 (x_1 : Int32).toNatClampNeg) : Int32).toNatClampNeg) : Int32).toInt64]) rfl rfl rfl ?_
    refine ev_x (i := .aload_n 0) (len := 1) (p' := 31) (s' := [.ref 42, .long ((gE (σ) 12 ((gE (σ) 8 (x_1 : Int32).toNatClampNeg) : Int32).toNatClampNeg) : Int32).toInt64]) rfl rfl rfl ?_
    refine ev_gr (p' := 34) (v := 5) rfl rfl rfl ly_42 rfl rfl hr_42_4 ?_
    refine ev_gc (p' := 37) (v := 13) rfl rfl rfl ly_5 rfl rfl ?_
    refine ev_x (i := .iload_n 3) (len := 1) (p' := 38) (s' := [.int (gE (σ) 9 (x_1 : Int32).toNatClampNeg), .ref 13, .long ((gE (σ) 12 ((gE (σ) 8 (x_1 : Int32).toNatClampNeg) : Int32).toNatClampNeg) : Int32).toInt64]) rfl rfl rfl ?_
    obtain ⟨b_4, H⟩ := F_gd H
    refine ev_ga (p' := 39) (v := (gE (σ) 13 ((gE (σ) 9 (x_1 : Int32).toNatClampNeg) : Int32).toNatClampNeg)) rfl rfl ly_13 rfl (gd_in b_4) rfl ?_
    refine ev_x (i := .i2l) (len := 1) (p' := 40) (s' := [.long ((gE (σ) 13 ((gE (σ) 9 (x_1 : Int32).toNatClampNeg) : Int32).toNatClampNeg) : Int32).toInt64, .long ((gE (σ) 12 ((gE (σ) 8 (x_1 : Int32).toNatClampNeg) : Int32).toNatClampNeg) : Int32).toInt64]) rfl rfl rfl ?_
    refine ev_x (i := .lmul) (len := 1) (p' := 41) (s' := [.long (((gE (σ) 12 ((gE (σ) 8 (x_1 : Int32).toNatClampNeg) : Int32).toNatClampNeg) : Int32).toInt64 * ((gE (σ) 13 ((gE (σ) 9 (x_1 : Int32).toNatClampNeg) : Int32).toNatClampNeg) : Int32).toInt64)]) rfl rfl rfl ?_
    refine ev_x (i := .lstore 4) (len := 2) (p' := 43) (s' := []) (l' := [(4, .long (((gE (σ) 12 ((gE (σ) 8 (x_1 : Int32).toNatClampNeg) : Int32).toNatClampNeg) : Int32).toInt64 * ((gE (σ) 13 ((gE (σ) 9 (x_1 : Int32).toNatClampNeg) : Int32).toNatClampNeg) : Int32).toInt64)), (3, .int (gE (σ) 9 (x_1 : Int32).toNatClampNeg)), (2, .int (gE (σ) 8 (x_1 : Int32).toNatClampNeg)), (0, .ref 42), (1, .int x_1)]) rfl rfl rfl ?_
    refine ev_x (i := .aload_n 0) (len := 1) (p' := 44) (s' := [.ref 42]) rfl rfl rfl ?_
    refine ev_gr (p' := 47) (v := 5) rfl rfl rfl ly_42 rfl rfl hr_42_4 ?_
    refine ev_gc (p' := 50) (v := 12) rfl rfl rfl ly_5 rfl rfl ?_
    refine ev_x (i := .iload_n 3) (len := 1) (p' := 51) (s' := [.int (gE (σ) 9 (x_1 : Int32).toNatClampNeg), .ref 12]) rfl rfl rfl ?_
    obtain ⟨b_5, H⟩ := F_gd H
    refine ev_ga (p' := 52) (v := (gE (σ) 12 ((gE (σ) 9 (x_1 : Int32).toNatClampNeg) : Int32).toNatClampNeg)) rfl rfl ly_12 rfl (gd_in b_5) rfl ?_
    refine ev_x (i := .i2l) (len := 1) (p' := 53) (s' := [.long ((gE (σ) 12 ((gE (σ) 9 (x_1 : Int32).toNatClampNeg) : Int32).toNatClampNeg) : Int32).toInt64]) rfl rfl rfl ?_
    refine ev_x (i := .aload_n 0) (len := 1) (p' := 54) (s' := [.ref 42, .long ((gE (σ) 12 ((gE (σ) 9 (x_1 : Int32).toNatClampNeg) : Int32).toNatClampNeg) : Int32).toInt64]) rfl rfl rfl ?_
    refine ev_gr (p' := 57) (v := 5) rfl rfl rfl ly_42 rfl rfl hr_42_4 ?_
    refine ev_gc (p' := 60) (v := 13) rfl rfl rfl ly_5 rfl rfl ?_
    refine ev_x (i := .iload_n 2) (len := 1) (p' := 61) (s' := [.int (gE (σ) 8 (x_1 : Int32).toNatClampNeg), .ref 13, .long ((gE (σ) 12 ((gE (σ) 9 (x_1 : Int32).toNatClampNeg) : Int32).toNatClampNeg) : Int32).toInt64]) rfl rfl rfl ?_
    obtain ⟨b_6, H⟩ := F_gd H
    refine ev_ga (p' := 62) (v := (gE (σ) 13 ((gE (σ) 8 (x_1 : Int32).toNatClampNeg) : Int32).toNatClampNeg)) rfl rfl ly_13 rfl (gd_in b_6) rfl ?_
    refine ev_x (i := .i2l) (len := 1) (p' := 63) (s' := [.long ((gE (σ) 13 ((gE (σ) 8 (x_1 : Int32).toNatClampNeg) : Int32).toNatClampNeg) : Int32).toInt64, .long ((gE (σ) 12 ((gE (σ) 9 (x_1 : Int32).toNatClampNeg) : Int32).toNatClampNeg) : Int32).toInt64]) rfl rfl rfl ?_
    refine ev_x (i := .lmul) (len := 1) (p' := 64) (s' := [.long (((gE (σ) 12 ((gE (σ) 9 (x_1 : Int32).toNatClampNeg) : Int32).toNatClampNeg) : Int32).toInt64 * ((gE (σ) 13 ((gE (σ) 8 (x_1 : Int32).toNatClampNeg) : Int32).toNatClampNeg) : Int32).toInt64)]) rfl rfl rfl ?_
    refine ev_x (i := .lstore 6) (len := 2) (p' := 66) (s' := []) (l' := [(6, .long (((gE (σ) 12 ((gE (σ) 9 (x_1 : Int32).toNatClampNeg) : Int32).toNatClampNeg) : Int32).toInt64 * ((gE (σ) 13 ((gE (σ) 8 (x_1 : Int32).toNatClampNeg) : Int32).toNatClampNeg) : Int32).toInt64)), (4, .long (((gE (σ) 12 ((gE (σ) 8 (x_1 : Int32).toNatClampNeg) : Int32).toNatClampNeg) : Int32).toInt64 * ((gE (σ) 13 ((gE (σ) 9 (x_1 : Int32).toNatClampNeg) : Int32).toNatClampNeg) : Int32).toInt64)), (3, .int (gE (σ) 9 (x_1 : Int32).toNatClampNeg)), (2, .int (gE (σ) 8 (x_1 : Int32).toNatClampNeg)), (0, .ref 42), (1, .int x_1)]) rfl rfl rfl ?_
    refine ev_x (i := .lload 4) (len := 2) (p' := 68) (s' := [.long (((gE (σ) 12 ((gE (σ) 8 (x_1 : Int32).toNatClampNeg) : Int32).toNatClampNeg) : Int32).toInt64 * ((gE (σ) 13 ((gE (σ) 9 (x_1 : Int32).toNatClampNeg) : Int32).toNatClampNeg) : Int32).toInt64)]) rfl rfl rfl ?_
    refine ev_x (i := .lload 6) (len := 2) (p' := 70) (s' := [.long (((gE (σ) 12 ((gE (σ) 9 (x_1 : Int32).toNatClampNeg) : Int32).toNatClampNeg) : Int32).toInt64 * ((gE (σ) 13 ((gE (σ) 8 (x_1 : Int32).toNatClampNeg) : Int32).toNatClampNeg) : Int32).toInt64), .long (((gE (σ) 12 ((gE (σ) 8 (x_1 : Int32).toNatClampNeg) : Int32).toNatClampNeg) : Int32).toInt64 * ((gE (σ) 13 ((gE (σ) 9 (x_1 : Int32).toNatClampNeg) : Int32).toNatClampNeg) : Int32).toInt64)]) rfl rfl rfl ?_
    refine ev_x (i := .lcmp) (len := 1) (p' := 71) (s' := [.int (lg_cmp (((gE (σ) 12 ((gE (σ) 8 (x_1 : Int32).toNatClampNeg) : Int32).toNatClampNeg) : Int32).toInt64 * ((gE (σ) 13 ((gE (σ) 9 (x_1 : Int32).toNatClampNeg) : Int32).toNatClampNeg) : Int32).toInt64) (((gE (σ) 12 ((gE (σ) 9 (x_1 : Int32).toNatClampNeg) : Int32).toNatClampNeg) : Int32).toInt64 * ((gE (σ) 13 ((gE (σ) 8 (x_1 : Int32).toNatClampNeg) : Int32).toNatClampNeg) : Int32).toInt64))]) rfl rfl rfl ?_
    refine F_if H (fun c_7 H => ?_) (fun c_7 H => ?_)
    · refine ev_b0 (t := 76) (p' := 74) rfl rfl rfl (if_neg (fun q => q c_7)) ?_
      refine ev_x (i := .iconst 0) (len := 1) (p' := 75) (s' := [.int 0]) rfl rfl rfl ?_
      obtain rfl := Option.some.inj H
      exact ev_iret rfl rfl rfl rfl
    · refine ev_b0 (t := 76) (p' := 76) rfl rfl rfl (if_pos c_7) ?_
      refine ev_x (i := .lload 4) (len := 2) (p' := 78) (s' := [.long (((gE (σ) 12 ((gE (σ) 8 (x_1 : Int32).toNatClampNeg) : Int32).toNatClampNeg) : Int32).toInt64 * ((gE (σ) 13 ((gE (σ) 9 (x_1 : Int32).toNatClampNeg) : Int32).toNatClampNeg) : Int32).toInt64)]) rfl rfl rfl ?_
      refine ev_x (i := .lload 6) (len := 2) (p' := 80) (s' := [.long (((gE (σ) 12 ((gE (σ) 9 (x_1 : Int32).toNatClampNeg) : Int32).toNatClampNeg) : Int32).toInt64 * ((gE (σ) 13 ((gE (σ) 8 (x_1 : Int32).toNatClampNeg) : Int32).toNatClampNeg) : Int32).toInt64), .long (((gE (σ) 12 ((gE (σ) 8 (x_1 : Int32).toNatClampNeg) : Int32).toNatClampNeg) : Int32).toInt64 * ((gE (σ) 13 ((gE (σ) 9 (x_1 : Int32).toNatClampNeg) : Int32).toNatClampNeg) : Int32).toInt64)]) rfl rfl rfl ?_
      refine ev_x (i := .lcmp) (len := 1) (p' := 81) (s' := [.int (lg_cmp (((gE (σ) 12 ((gE (σ) 8 (x_1 : Int32).toNatClampNeg) : Int32).toNatClampNeg) : Int32).toInt64 * ((gE (σ) 13 ((gE (σ) 9 (x_1 : Int32).toNatClampNeg) : Int32).toNatClampNeg) : Int32).toInt64) (((gE (σ) 12 ((gE (σ) 9 (x_1 : Int32).toNatClampNeg) : Int32).toNatClampNeg) : Int32).toInt64 * ((gE (σ) 13 ((gE (σ) 8 (x_1 : Int32).toNatClampNeg) : Int32).toNatClampNeg) : Int32).toInt64))]) rfl rfl rfl ?_
      refine F_jn (A := vz_ev P0 (d + 1) 77 89 [(6, .long (((gE (σ) 12 ((gE (σ) 9 (x_1 : Int32).toNatClampNeg) : Int32).toNatClampNeg) : Int32).toInt64 * ((gE (σ) 13 ((gE (σ) 8 (x_1 : Int32).toNatClampNeg) : Int32).toNatClampNeg) : Int32).toInt64)), (4, .long (((gE (σ) 12 ((gE (σ) 8 (x_1 : Int32).toNatClampNeg) : Int32).toNatClampNeg) : Int32).toInt64 * ((gE (σ) 13 ((gE (σ) 9 (x_1 : Int32).toNatClampNeg) : Int32).toNatClampNeg) : Int32).toInt64)), (3, .int (gE (σ) 9 (x_1 : Int32).toNatClampNeg)), (2, .int (gE (σ) 8 (x_1 : Int32).toNatClampNeg)), (0, .ref 42), (1, .int x_1)] [.int (if 0 ≤ (lg_cmp (((gE (σ) 12 ((gE (σ) 8 (x_1 : Int32).toNatClampNeg) : Int32).toNatClampNeg) : Int32).toInt64 * ((gE (σ) 13 ((gE (σ) 9 (x_1 : Int32).toNatClampNeg) : Int32).toNatClampNeg) : Int32).toInt64) (((gE (σ) 12 ((gE (σ) 9 (x_1 : Int32).toNatClampNeg) : Int32).toNatClampNeg) : Int32).toInt64 * ((gE (σ) 13 ((gE (σ) 8 (x_1 : Int32).toNatClampNeg) : Int32).toNatClampNeg) : Int32).toInt64)) then 1 else (-1) : Int32)] (hp (σ)) (.inl (some (.int p.1)), hp p.2)) ?_ (fun J => ?_)
      · obtain rfl := Option.some.inj H
        exact ev_iret rfl rfl rfl rfl
      · by_cases c_8 : 0 ≤ (lg_cmp (((gE (σ) 12 ((gE (σ) 8 (x_1 : Int32).toNatClampNeg) : Int32).toNatClampNeg) : Int32).toInt64 * ((gE (σ) 13 ((gE (σ) 9 (x_1 : Int32).toNatClampNeg) : Int32).toNatClampNeg) : Int32).toInt64) (((gE (σ) 12 ((gE (σ) 9 (x_1 : Int32).toNatClampNeg) : Int32).toNatClampNeg) : Int32).toInt64 * ((gE (σ) 13 ((gE (σ) 8 (x_1 : Int32).toNatClampNeg) : Int32).toNatClampNeg) : Int32).toInt64))
        · refine ev_b0 (t := 88) (p' := 88) rfl rfl rfl (if_pos c_8) ?_
          refine ev_x (i := .iconst 1) (len := 1) (p' := 89) (s' := [.int 1]) rfl rfl rfl ?_
          exact ev_st (congrArg (fun z => Value.int z :: []) (by rw [if_pos c_8])) J
        · refine ev_b0 (t := 88) (p' := 84) rfl rfl rfl (if_neg c_8) ?_
          refine ev_x (i := .iconst (-1)) (len := 1) (p' := 85) (s' := [.int (-1)]) rfl rfl rfl ?_
          refine ev_x (i := .goto 4) (len := 3) (p' := 89) (s' := [.int (-1)]) rfl rfl rfl ?_
          exact ev_st (congrArg (fun z => Value.int z :: []) (by rw [if_neg c_8])) J
  · refine ev_x (i := .aload_n 0) (len := 1) (p' := 1) (s' := [.ref 42]) rfl rfl rfl ?_
    refine ev_gr (p' := 4) (v := 21) rfl rfl rfl ly_42 rfl rfl hr_42_4 ?_
    refine ev_gc (p' := 7) (v := 24) rfl rfl rfl ly_21 rfl rfl ?_
    refine ev_x (i := .iload_n 1) (len := 1) (p' := 8) (s' := [.int x_1, .ref 24]) rfl rfl rfl ?_
    obtain ⟨b_1, H⟩ := F_gd H
    refine ev_ga (p' := 9) (v := (gE (σ) 24 (x_1 : Int32).toNatClampNeg)) rfl rfl ly_24 rfl (gd_in b_1) rfl ?_
    refine ev_x (i := .istore_n 2) (len := 1) (p' := 10) (s' := []) (l' := [(2, .int (gE (σ) 24 (x_1 : Int32).toNatClampNeg)), (0, .ref 42), (1, .int x_1)]) rfl rfl rfl ?_
    refine ev_x (i := .aload_n 0) (len := 1) (p' := 11) (s' := [.ref 42]) rfl rfl rfl ?_
    refine ev_gr (p' := 14) (v := 21) rfl rfl rfl ly_42 rfl rfl hr_42_4 ?_
    refine ev_gc (p' := 17) (v := 25) rfl rfl rfl ly_21 rfl rfl ?_
    refine ev_x (i := .iload_n 1) (len := 1) (p' := 18) (s' := [.int x_1, .ref 25]) rfl rfl rfl ?_
    obtain ⟨b_2, H⟩ := F_gd H
    refine ev_ga (p' := 19) (v := (gE (σ) 25 (x_1 : Int32).toNatClampNeg)) rfl rfl ly_25 rfl (gd_in b_2) rfl ?_
    refine ev_x (i := .istore_n 3) (len := 1) (p' := 20) (s' := []) (l' := [(3, .int (gE (σ) 25 (x_1 : Int32).toNatClampNeg)), (2, .int (gE (σ) 24 (x_1 : Int32).toNatClampNeg)), (0, .ref 42), (1, .int x_1)]) rfl rfl rfl ?_
    refine ev_x (i := .aload_n 0) (len := 1) (p' := 21) (s' := [.ref 42]) rfl rfl rfl ?_
    refine ev_gr (p' := 24) (v := 21) rfl rfl rfl ly_42 rfl rfl hr_42_4 ?_
    refine ev_gc (p' := 27) (v := 28) rfl rfl rfl ly_21 rfl rfl ?_
    refine ev_x (i := .iload_n 2) (len := 1) (p' := 28) (s' := [.int (gE (σ) 24 (x_1 : Int32).toNatClampNeg), .ref 28]) rfl rfl rfl ?_
    obtain ⟨b_3, H⟩ := F_gd H
    refine ev_ga (p' := 29) (v := (gE (σ) 28 ((gE (σ) 24 (x_1 : Int32).toNatClampNeg) : Int32).toNatClampNeg)) rfl rfl ly_28 rfl (gd_in b_3) rfl ?_
    refine ev_x (i := .i2l) (len := 1) (p' := 30) (s' := [.long ((gE (σ) 28 ((gE (σ) 24 (x_1 : Int32).toNatClampNeg) : Int32).toNatClampNeg) : Int32).toInt64]) rfl rfl rfl ?_
    refine ev_x (i := .aload_n 0) (len := 1) (p' := 31) (s' := [.ref 42, .long ((gE (σ) 28 ((gE (σ) 24 (x_1 : Int32).toNatClampNeg) : Int32).toNatClampNeg) : Int32).toInt64]) rfl rfl rfl ?_
    refine ev_gr (p' := 34) (v := 21) rfl rfl rfl ly_42 rfl rfl hr_42_4 ?_
    refine ev_gc (p' := 37) (v := 29) rfl rfl rfl ly_21 rfl rfl ?_
    refine ev_x (i := .iload_n 3) (len := 1) (p' := 38) (s' := [.int (gE (σ) 25 (x_1 : Int32).toNatClampNeg), .ref 29, .long ((gE (σ) 28 ((gE (σ) 24 (x_1 : Int32).toNatClampNeg) : Int32).toNatClampNeg) : Int32).toInt64]) rfl rfl rfl ?_
    obtain ⟨b_4, H⟩ := F_gd H
    refine ev_ga (p' := 39) (v := (gE (σ) 29 ((gE (σ) 25 (x_1 : Int32).toNatClampNeg) : Int32).toNatClampNeg)) rfl rfl ly_29 rfl (gd_in b_4) rfl ?_
    refine ev_x (i := .i2l) (len := 1) (p' := 40) (s' := [.long ((gE (σ) 29 ((gE (σ) 25 (x_1 : Int32).toNatClampNeg) : Int32).toNatClampNeg) : Int32).toInt64, .long ((gE (σ) 28 ((gE (σ) 24 (x_1 : Int32).toNatClampNeg) : Int32).toNatClampNeg) : Int32).toInt64]) rfl rfl rfl ?_
    refine ev_x (i := .lmul) (len := 1) (p' := 41) (s' := [.long (((gE (σ) 28 ((gE (σ) 24 (x_1 : Int32).toNatClampNeg) : Int32).toNatClampNeg) : Int32).toInt64 * ((gE (σ) 29 ((gE (σ) 25 (x_1 : Int32).toNatClampNeg) : Int32).toNatClampNeg) : Int32).toInt64)]) rfl rfl rfl ?_
    refine ev_x (i := .lstore 4) (len := 2) (p' := 43) (s' := []) (l' := [(4, .long (((gE (σ) 28 ((gE (σ) 24 (x_1 : Int32).toNatClampNeg) : Int32).toNatClampNeg) : Int32).toInt64 * ((gE (σ) 29 ((gE (σ) 25 (x_1 : Int32).toNatClampNeg) : Int32).toNatClampNeg) : Int32).toInt64)), (3, .int (gE (σ) 25 (x_1 : Int32).toNatClampNeg)), (2, .int (gE (σ) 24 (x_1 : Int32).toNatClampNeg)), (0, .ref 42), (1, .int x_1)]) rfl rfl rfl ?_
    refine ev_x (i := .aload_n 0) (len := 1) (p' := 44) (s' := [.ref 42]) rfl rfl rfl ?_
    refine ev_gr (p' := 47) (v := 21) rfl rfl rfl ly_42 rfl rfl hr_42_4 ?_
    refine ev_gc (p' := 50) (v := 28) rfl rfl rfl ly_21 rfl rfl ?_
    refine ev_x (i := .iload_n 3) (len := 1) (p' := 51) (s' := [.int (gE (σ) 25 (x_1 : Int32).toNatClampNeg), .ref 28]) rfl rfl rfl ?_
    obtain ⟨b_5, H⟩ := F_gd H
    refine ev_ga (p' := 52) (v := (gE (σ) 28 ((gE (σ) 25 (x_1 : Int32).toNatClampNeg) : Int32).toNatClampNeg)) rfl rfl ly_28 rfl (gd_in b_5) rfl ?_
    refine ev_x (i := .i2l) (len := 1) (p' := 53) (s' := [.long ((gE (σ) 28 ((gE (σ) 25 (x_1 : Int32).toNatClampNeg) : Int32).toNatClampNeg) : Int32).toInt64]) rfl rfl rfl ?_
    refine ev_x (i := .aload_n 0) (len := 1) (p' := 54) (s' := [.ref 42, .long ((gE (σ) 28 ((gE (σ) 25 (x_1 : Int32).toNatClampNeg) : Int32).toNatClampNeg) : Int32).toInt64]) rfl rfl rfl ?_
    refine ev_gr (p' := 57) (v := 21) rfl rfl rfl ly_42 rfl rfl hr_42_4 ?_
    refine ev_gc (p' := 60) (v := 29) rfl rfl rfl ly_21 rfl rfl ?_
    refine ev_x (i := .iload_n 2) (len := 1) (p' := 61) (s' := [.int (gE (σ) 24 (x_1 : Int32).toNatClampNeg), .ref 29, .long ((gE (σ) 28 ((gE (σ) 25 (x_1 : Int32).toNatClampNeg) : Int32).toNatClampNeg) : Int32).toInt64]) rfl rfl rfl ?_
    obtain ⟨b_6, H⟩ := F_gd H
    refine ev_ga (p' := 62) (v := (gE (σ) 29 ((gE (σ) 24 (x_1 : Int32).toNatClampNeg) : Int32).toNatClampNeg)) rfl rfl ly_29 rfl (gd_in b_6) rfl ?_
    refine ev_x (i := .i2l) (len := 1) (p' := 63) (s' := [.long ((gE (σ) 29 ((gE (σ) 24 (x_1 : Int32).toNatClampNeg) : Int32).toNatClampNeg) : Int32).toInt64, .long ((gE (σ) 28 ((gE (σ) 25 (x_1 : Int32).toNatClampNeg) : Int32).toNatClampNeg) : Int32).toInt64]) rfl rfl rfl ?_
    refine ev_x (i := .lmul) (len := 1) (p' := 64) (s' := [.long (((gE (σ) 28 ((gE (σ) 25 (x_1 : Int32).toNatClampNeg) : Int32).toNatClampNeg) : Int32).toInt64 * ((gE (σ) 29 ((gE (σ) 24 (x_1 : Int32).toNatClampNeg) : Int32).toNatClampNeg) : Int32).toInt64)]) rfl rfl rfl ?_
    refine ev_x (i := .lstore 6) (len := 2) (p' := 66) (s' := []) (l' := [(6, .long (((gE (σ) 28 ((gE (σ) 25 (x_1 : Int32).toNatClampNeg) : Int32).toNatClampNeg) : Int32).toInt64 * ((gE (σ) 29 ((gE (σ) 24 (x_1 : Int32).toNatClampNeg) : Int32).toNatClampNeg) : Int32).toInt64)), (4, .long (((gE (σ) 28 ((gE (σ) 24 (x_1 : Int32).toNatClampNeg) : Int32).toNatClampNeg) : Int32).toInt64 * ((gE (σ) 29 ((gE (σ) 25 (x_1 : Int32).toNatClampNeg) : Int32).toNatClampNeg) : Int32).toInt64)), (3, .int (gE (σ) 25 (x_1 : Int32).toNatClampNeg)), (2, .int (gE (σ) 24 (x_1 : Int32).toNatClampNeg)), (0, .ref 42), (1, .int x_1)]) rfl rfl rfl ?_
    refine ev_x (i := .lload 4) (len := 2) (p' := 68) (s' := [.long (((gE (σ) 28 ((gE (σ) 24 (x_1 : Int32).toNatClampNeg) : Int32).toNatClampNeg) : Int32).toInt64 * ((gE (σ) 29 ((gE (σ) 25 (x_1 : Int32).toNatClampNeg) : Int32).toNatClampNeg) : Int32).toInt64)]) rfl rfl rfl ?_
    refine ev_x (i := .lload 6) (len := 2) (p' := 70) (s' := [.long (((gE (σ) 28 ((gE (σ) 25 (x_1 : Int32).toNatClampNeg) : Int32).toNatClampNeg) : Int32).toInt64 * ((gE (σ) 29 ((gE (σ) 24 (x_1 : Int32).toNatClampNeg) : Int32).toNatClampNeg) : Int32).toInt64), .long (((gE (σ) 28 ((gE (σ) 24 (x_1 : Int32).toNatClampNeg) : Int32).toNatClampNeg) : Int32).toInt64 * ((gE (σ) 29 ((gE (σ) 25 (x_1 : Int32).toNatClampNeg) : Int32).toNatClampNeg) : Int32).toInt64)]) rfl rfl rfl ?_
    refine ev_x (i := .lcmp) (len := 1) (p' := 71) (s' := [.int (lg_cmp (((gE (σ) 28 ((gE (σ) 24 (x_1 : Int32).toNatClampNeg) : Int32).toNatClampNeg) : Int32).toInt64 * ((gE (σ) 29 ((gE (σ) 25 (x_1 : Int32).toNatClampNeg) : Int32).toNatClampNeg) : Int32).toInt64) (((gE (σ) 28 ((gE (σ) 25 (x_1 : Int32).toNatClampNeg) : Int32).toNatClampNeg) : Int32).toInt64 * ((gE (σ) 29 ((gE (σ) 24 (x_1 : Int32).toNatClampNeg) : Int32).toNatClampNeg) : Int32).toInt64))]) rfl rfl rfl ?_
    refine F_if H (fun c_7 H => ?_) (fun c_7 H => ?_)
    · refine ev_b0 (t := 76) (p' := 74) rfl rfl rfl (if_neg (fun q => q c_7)) ?_
      refine ev_x (i := .iconst 0) (len := 1) (p' := 75) (s' := [.int 0]) rfl rfl rfl ?_
      obtain rfl := Option.some.inj H
      exact ev_iret rfl rfl rfl rfl
    · refine ev_b0 (t := 76) (p' := 76) rfl rfl rfl (if_pos c_7) ?_
      refine ev_x (i := .lload 4) (len := 2) (p' := 78) (s' := [.long (((gE (σ) 28 ((gE (σ) 24 (x_1 : Int32).toNatClampNeg) : Int32).toNatClampNeg) : Int32).toInt64 * ((gE (σ) 29 ((gE (σ) 25 (x_1 : Int32).toNatClampNeg) : Int32).toNatClampNeg) : Int32).toInt64)]) rfl rfl rfl ?_
      refine ev_x (i := .lload 6) (len := 2) (p' := 80) (s' := [.long (((gE (σ) 28 ((gE (σ) 25 (x_1 : Int32).toNatClampNeg) : Int32).toNatClampNeg) : Int32).toInt64 * ((gE (σ) 29 ((gE (σ) 24 (x_1 : Int32).toNatClampNeg) : Int32).toNatClampNeg) : Int32).toInt64), .long (((gE (σ) 28 ((gE (σ) 24 (x_1 : Int32).toNatClampNeg) : Int32).toNatClampNeg) : Int32).toInt64 * ((gE (σ) 29 ((gE (σ) 25 (x_1 : Int32).toNatClampNeg) : Int32).toNatClampNeg) : Int32).toInt64)]) rfl rfl rfl ?_
      refine ev_x (i := .lcmp) (len := 1) (p' := 81) (s' := [.int (lg_cmp (((gE (σ) 28 ((gE (σ) 24 (x_1 : Int32).toNatClampNeg) : Int32).toNatClampNeg) : Int32).toInt64 * ((gE (σ) 29 ((gE (σ) 25 (x_1 : Int32).toNatClampNeg) : Int32).toNatClampNeg) : Int32).toInt64) (((gE (σ) 28 ((gE (σ) 25 (x_1 : Int32).toNatClampNeg) : Int32).toNatClampNeg) : Int32).toInt64 * ((gE (σ) 29 ((gE (σ) 24 (x_1 : Int32).toNatClampNeg) : Int32).toNatClampNeg) : Int32).toInt64))]) rfl rfl rfl ?_
      refine F_jn (A := vz_ev P0 (d + 1) 77 89 [(6, .long (((gE (σ) 28 ((gE (σ) 25 (x_1 : Int32).toNatClampNeg) : Int32).toNatClampNeg) : Int32).toInt64 * ((gE (σ) 29 ((gE (σ) 24 (x_1 : Int32).toNatClampNeg) : Int32).toNatClampNeg) : Int32).toInt64)), (4, .long (((gE (σ) 28 ((gE (σ) 24 (x_1 : Int32).toNatClampNeg) : Int32).toNatClampNeg) : Int32).toInt64 * ((gE (σ) 29 ((gE (σ) 25 (x_1 : Int32).toNatClampNeg) : Int32).toNatClampNeg) : Int32).toInt64)), (3, .int (gE (σ) 25 (x_1 : Int32).toNatClampNeg)), (2, .int (gE (σ) 24 (x_1 : Int32).toNatClampNeg)), (0, .ref 42), (1, .int x_1)] [.int (if 0 ≤ (lg_cmp (((gE (σ) 28 ((gE (σ) 24 (x_1 : Int32).toNatClampNeg) : Int32).toNatClampNeg) : Int32).toInt64 * ((gE (σ) 29 ((gE (σ) 25 (x_1 : Int32).toNatClampNeg) : Int32).toNatClampNeg) : Int32).toInt64) (((gE (σ) 28 ((gE (σ) 25 (x_1 : Int32).toNatClampNeg) : Int32).toNatClampNeg) : Int32).toInt64 * ((gE (σ) 29 ((gE (σ) 24 (x_1 : Int32).toNatClampNeg) : Int32).toNatClampNeg) : Int32).toInt64)) then 1 else (-1) : Int32)] (hp (σ)) (.inl (some (.int p.1)), hp p.2)) ?_ (fun J => ?_)
      · obtain rfl := Option.some.inj H
        exact ev_iret rfl rfl rfl rfl
      · by_cases c_8 : 0 ≤ (lg_cmp (((gE (σ) 28 ((gE (σ) 24 (x_1 : Int32).toNatClampNeg) : Int32).toNatClampNeg) : Int32).toInt64 * ((gE (σ) 29 ((gE (σ) 25 (x_1 : Int32).toNatClampNeg) : Int32).toNatClampNeg) : Int32).toInt64) (((gE (σ) 28 ((gE (σ) 25 (x_1 : Int32).toNatClampNeg) : Int32).toNatClampNeg) : Int32).toInt64 * ((gE (σ) 29 ((gE (σ) 24 (x_1 : Int32).toNatClampNeg) : Int32).toNatClampNeg) : Int32).toInt64))
        · refine ev_b0 (t := 88) (p' := 88) rfl rfl rfl (if_pos c_8) ?_
          refine ev_x (i := .iconst 1) (len := 1) (p' := 89) (s' := [.int 1]) rfl rfl rfl ?_
          exact ev_st (congrArg (fun z => Value.int z :: []) (by rw [if_pos c_8])) J
        · refine ev_b0 (t := 88) (p' := 84) rfl rfl rfl (if_neg c_8) ?_
          refine ev_x (i := .iconst (-1)) (len := 1) (p' := 85) (s' := [.int (-1)]) rfl rfl rfl ?_
          refine ev_x (i := .goto 4) (len := 3) (p' := 89) (s' := [.int (-1)]) rfl rfl rfl ?_
          exact ev_st (congrArg (fun z => Value.int z :: []) (by rw [if_neg c_8])) J
/-- GameText$Machine.holds(II)Z -/
def F_78 (N : Nat) (x_0 : Int32) (x_1 : Int32) (σ : st_S) : Option (Int32 × st_S) :=
  if x_0 = 10 then
    some ((if x_1 = 0 then 1 else 0 : Int32), σ)
  else
  if x_0 = 11 then
    some ((if x_1 = 0 then 0 else 1 : Int32), σ)
  else
  if x_0 = 12 then
    some ((if 0 ≤ x_1 then 0 else 1 : Int32), σ)
  else
  if x_0 = 13 then
    some ((if 0 < x_1 then 0 else 1 : Int32), σ)
  else
  if x_0 = 14 then
    some ((if x_1 ≤ 0 then 0 else 1 : Int32), σ)
  else
    some ((if x_1 < 0 then 0 else 1 : Int32), σ)
set_option maxRecDepth 100000 in
theorem F_78_R {N : Nat} {x_0 : Int32} {x_1 : Int32} {σ : st_S} {p : Int32 × st_S} (H : F_78 N x_0 x_1 σ = some p) : gR p.2 = gR σ := by
  unfold F_78 at H
  refine F_if H (fun _ H => ?_) (fun _ H => ?_)
  · obtain rfl := Option.some.inj H
    exact rfl
  · refine F_if H (fun _ H => ?_) (fun _ H => ?_)
    · obtain rfl := Option.some.inj H
      exact rfl
    · refine F_if H (fun _ H => ?_) (fun _ H => ?_)
      · obtain rfl := Option.some.inj H
        exact rfl
      · refine F_if H (fun _ H => ?_) (fun _ H => ?_)
        · obtain rfl := Option.some.inj H
          exact rfl
        · refine F_if H (fun _ H => ?_) (fun _ H => ?_)
          · obtain rfl := Option.some.inj H
            exact rfl
          · obtain rfl := Option.some.inj H
            exact rfl
set_option maxHeartbeats 4000000 in
set_option maxRecDepth 100000 in
theorem F_78_ok {N d : Nat} {x_0 : Int32} {x_1 : Int32} {σ : st_S} {p : Int32 × st_S}  (H : F_78 N x_0 x_1 σ = some p) : vz_ev P0 (d + 1) 78 0 (lv_args 0 [.int x_0, .int x_1]) [] (hp σ) (.inl (some (.int p.1)), hp p.2) := by
  unfold F_78 at H
  refine ev_x (i := .iload_n 0) (len := 1) (p' := 1) (s' := [.int x_0]) rfl rfl rfl ?_
  refine F_if H (fun c_1 H => ?_) (fun c_1 H => ?_)
  · refine ev_st (st' := [.int 10]) (congrArg (fun z => Value.int z :: []) c_1) ?_
    refine ev_ts (off := 35) (t := 36) rfl rfl (by decide) rfl ?_
    refine ev_x (i := .iload_n 1) (len := 1) (p' := 37) (s' := [.int x_1]) rfl rfl rfl ?_
    refine F_jn (A := vz_ev P0 (d + 1) 78 45 [(0, .int x_0), (1, .int x_1)] [.int (if x_1 = 0 then 1 else 0 : Int32)] (hp (σ)) (.inl (some (.int p.1)), hp p.2)) ?_ (fun J => ?_)
    · obtain rfl := Option.some.inj H
      exact ev_iret rfl rfl rfl (fit_b (by (repeat' split) <;> decide))
    · by_cases c_2 : x_1 = 0
      · refine ev_b0 (t := 44) (p' := 40) rfl rfl rfl (if_neg (fun q => q c_2)) ?_
        refine ev_x (i := .iconst 1) (len := 1) (p' := 41) (s' := [.int 1]) rfl rfl rfl ?_
        refine ev_x (i := .goto 4) (len := 3) (p' := 45) (s' := [.int 1]) rfl rfl rfl ?_
        exact ev_st (congrArg (fun z => Value.int z :: []) (by rw [if_pos c_2])) J
      · refine ev_b0 (t := 44) (p' := 44) rfl rfl rfl (if_pos c_2) ?_
        refine ev_x (i := .iconst 0) (len := 1) (p' := 45) (s' := [.int 0]) rfl rfl rfl ?_
        exact ev_st (congrArg (fun z => Value.int z :: []) (by rw [if_neg c_2])) J
  · refine F_if H (fun c_3 H => ?_) (fun c_3 H => ?_)
    · refine ev_st (st' := [.int 11]) (congrArg (fun z => Value.int z :: []) c_3) ?_
      refine ev_ts (off := 45) (t := 46) rfl rfl (by decide) rfl ?_
      refine ev_x (i := .iload_n 1) (len := 1) (p' := 47) (s' := [.int x_1]) rfl rfl rfl ?_
      refine F_jn (A := vz_ev P0 (d + 1) 78 55 [(0, .int x_0), (1, .int x_1)] [.int (if x_1 = 0 then 0 else 1 : Int32)] (hp (σ)) (.inl (some (.int p.1)), hp p.2)) ?_ (fun J => ?_)
      · obtain rfl := Option.some.inj H
        exact ev_iret rfl rfl rfl (fit_b (by (repeat' split) <;> decide))
      · by_cases c_4 : x_1 = 0
        · refine ev_b0 (t := 54) (p' := 54) rfl rfl rfl (if_pos c_4) ?_
          refine ev_x (i := .iconst 0) (len := 1) (p' := 55) (s' := [.int 0]) rfl rfl rfl ?_
          exact ev_st (congrArg (fun z => Value.int z :: []) (by rw [if_pos c_4])) J
        · refine ev_b0 (t := 54) (p' := 50) rfl rfl rfl (if_neg c_4) ?_
          refine ev_x (i := .iconst 1) (len := 1) (p' := 51) (s' := [.int 1]) rfl rfl rfl ?_
          refine ev_x (i := .goto 4) (len := 3) (p' := 55) (s' := [.int 1]) rfl rfl rfl ?_
          exact ev_st (congrArg (fun z => Value.int z :: []) (by rw [if_neg c_4])) J
    · refine F_if H (fun c_5 H => ?_) (fun c_5 H => ?_)
      · refine ev_st (st' := [.int 12]) (congrArg (fun z => Value.int z :: []) c_5) ?_
        refine ev_ts (off := 55) (t := 56) rfl rfl (by decide) rfl ?_
        refine ev_x (i := .iload_n 1) (len := 1) (p' := 57) (s' := [.int x_1]) rfl rfl rfl ?_
        refine F_jn (A := vz_ev P0 (d + 1) 78 65 [(0, .int x_0), (1, .int x_1)] [.int (if 0 ≤ x_1 then 0 else 1 : Int32)] (hp (σ)) (.inl (some (.int p.1)), hp p.2)) ?_ (fun J => ?_)
        · obtain rfl := Option.some.inj H
          exact ev_iret rfl rfl rfl (fit_b (by (repeat' split) <;> decide))
        · by_cases c_6 : 0 ≤ x_1
          · refine ev_b0 (t := 64) (p' := 64) rfl rfl rfl (if_pos c_6) ?_
            refine ev_x (i := .iconst 0) (len := 1) (p' := 65) (s' := [.int 0]) rfl rfl rfl ?_
            exact ev_st (congrArg (fun z => Value.int z :: []) (by rw [if_pos c_6])) J
          · refine ev_b0 (t := 64) (p' := 60) rfl rfl rfl (if_neg c_6) ?_
            refine ev_x (i := .iconst 1) (len := 1) (p' := 61) (s' := [.int 1]) rfl rfl rfl ?_
            refine ev_x (i := .goto 4) (len := 3) (p' := 65) (s' := [.int 1]) rfl rfl rfl ?_
            exact ev_st (congrArg (fun z => Value.int z :: []) (by rw [if_neg c_6])) J
      · refine F_if H (fun c_7 H => ?_) (fun c_7 H => ?_)
        · refine ev_st (st' := [.int 13]) (congrArg (fun z => Value.int z :: []) c_7) ?_
          refine ev_ts (off := 65) (t := 66) rfl rfl (by decide) rfl ?_
          refine ev_x (i := .iload_n 1) (len := 1) (p' := 67) (s' := [.int x_1]) rfl rfl rfl ?_
          refine F_jn (A := vz_ev P0 (d + 1) 78 75 [(0, .int x_0), (1, .int x_1)] [.int (if 0 < x_1 then 0 else 1 : Int32)] (hp (σ)) (.inl (some (.int p.1)), hp p.2)) ?_ (fun J => ?_)
          · obtain rfl := Option.some.inj H
            exact ev_iret rfl rfl rfl (fit_b (by (repeat' split) <;> decide))
          · by_cases c_8 : 0 < x_1
            · refine ev_b0 (t := 74) (p' := 74) rfl rfl rfl (if_pos c_8) ?_
              refine ev_x (i := .iconst 0) (len := 1) (p' := 75) (s' := [.int 0]) rfl rfl rfl ?_
              exact ev_st (congrArg (fun z => Value.int z :: []) (by rw [if_pos c_8])) J
            · refine ev_b0 (t := 74) (p' := 70) rfl rfl rfl (if_neg c_8) ?_
              refine ev_x (i := .iconst 1) (len := 1) (p' := 71) (s' := [.int 1]) rfl rfl rfl ?_
              refine ev_x (i := .goto 4) (len := 3) (p' := 75) (s' := [.int 1]) rfl rfl rfl ?_
              exact ev_st (congrArg (fun z => Value.int z :: []) (by rw [if_neg c_8])) J
        · refine F_if H (fun c_9 H => ?_) (fun c_9 H => ?_)
          · refine ev_st (st' := [.int 14]) (congrArg (fun z => Value.int z :: []) c_9) ?_
            refine ev_ts (off := 75) (t := 76) rfl rfl (by decide) rfl ?_
            refine ev_x (i := .iload_n 1) (len := 1) (p' := 77) (s' := [.int x_1]) rfl rfl rfl ?_
            refine F_jn (A := vz_ev P0 (d + 1) 78 85 [(0, .int x_0), (1, .int x_1)] [.int (if x_1 ≤ 0 then 0 else 1 : Int32)] (hp (σ)) (.inl (some (.int p.1)), hp p.2)) ?_ (fun J => ?_)
            · obtain rfl := Option.some.inj H
              exact ev_iret rfl rfl rfl (fit_b (by (repeat' split) <;> decide))
            · by_cases c_10 : x_1 ≤ 0
              · refine ev_b0 (t := 84) (p' := 84) rfl rfl rfl (if_pos c_10) ?_
                refine ev_x (i := .iconst 0) (len := 1) (p' := 85) (s' := [.int 0]) rfl rfl rfl ?_
                exact ev_st (congrArg (fun z => Value.int z :: []) (by rw [if_pos c_10])) J
              · refine ev_b0 (t := 84) (p' := 80) rfl rfl rfl (if_neg c_10) ?_
                refine ev_x (i := .iconst 1) (len := 1) (p' := 81) (s' := [.int 1]) rfl rfl rfl ?_
                refine ev_x (i := .goto 4) (len := 3) (p' := 85) (s' := [.int 1]) rfl rfl rfl ?_
                exact ev_st (congrArg (fun z => Value.int z :: []) (by rw [if_neg c_10])) J
          · have n_10 : (10 : Int) ≠ (x_0 : Int32).toInt := i32_ne (k := 10) (by decide) c_1
            have n_11 : (11 : Int) ≠ (x_0 : Int32).toInt := i32_ne (k := 11) (by decide) c_3
            have n_12 : (12 : Int) ≠ (x_0 : Int32).toInt := i32_ne (k := 12) (by decide) c_5
            have n_13 : (13 : Int) ≠ (x_0 : Int32).toInt := i32_ne (k := 13) (by decide) c_7
            have n_14 : (14 : Int) ≠ (x_0 : Int32).toInt := i32_ne (k := 14) (by decide) c_9
            refine ev_ts (off := 85) (t := 86) rfl rfl ?hsw rfl ?_
            case hsw =>
              by_cases hq : (x_0 : Int32).toInt < 10 ∨ 14 < (x_0 : Int32).toInt
              · exact if_pos hq
              · rw [if_neg hq]
                exact absurd hq (by omega)
            refine ev_x (i := .iload_n 1) (len := 1) (p' := 87) (s' := [.int x_1]) rfl rfl rfl ?_
            refine F_jn (A := vz_ev P0 (d + 1) 78 95 [(0, .int x_0), (1, .int x_1)] [.int (if x_1 < 0 then 0 else 1 : Int32)] (hp (σ)) (.inl (some (.int p.1)), hp p.2)) ?_ (fun J => ?_)
            · obtain rfl := Option.some.inj H
              exact ev_iret rfl rfl rfl (fit_b (by (repeat' split) <;> decide))
            · by_cases c_11 : x_1 < 0
              · refine ev_b0 (t := 94) (p' := 94) rfl rfl rfl (if_pos c_11) ?_
                refine ev_x (i := .iconst 0) (len := 1) (p' := 95) (s' := [.int 0]) rfl rfl rfl ?_
                exact ev_st (congrArg (fun z => Value.int z :: []) (by rw [if_pos c_11])) J
              · refine ev_b0 (t := 94) (p' := 90) rfl rfl rfl (if_neg c_11) ?_
                refine ev_x (i := .iconst 1) (len := 1) (p' := 91) (s' := [.int 1]) rfl rfl rfl ?_
                refine ev_x (i := .goto 4) (len := 3) (p' := 95) (s' := [.int 1]) rfl rfl rfl ?_
                exact ev_st (congrArg (fun z => Value.int z :: []) (by rw [if_neg c_11])) J
/-- GameText$Machine.work(II)V -/
def F_76 (N : Nat) (t : Nat) (x_1 : Int32) (x_2 : Int32) (σ : st_S) : Option (st_S) :=
  if aB x_1 (gN σ (t + 4)) then
  if x_2 = 2 then
    if aB (gE (σ) (t + 4) (x_1 : Int32).toNatClampNeg) (gN σ 43) then
    if aB x_1 (gN σ (t + 8)) then
    some (st_e (σ) (t + 8) ((x_1 : Int32).toNatClampNeg) (gE (σ) 43 ((gE (σ) (t + 4) (x_1 : Int32).toNatClampNeg) : Int32).toNatClampNeg))
    else none
    else none
  else
  if x_2 = 3 then
    if aB (gE (σ) (t + 4) (x_1 : Int32).toNatClampNeg) (gN σ (t + 14)) then
    if aB (gE (σ) (t + 14) ((gE (σ) (t + 4) (x_1 : Int32).toNatClampNeg) : Int32).toNatClampNeg) (gN σ (t + 4)) then
    (F_62 N t (gE (σ) (t + 4) ((gE (σ) (t + 14) ((gE (σ) (t + 4) (x_1 : Int32).toNatClampNeg) : Int32).toNatClampNeg) : Int32).toNatClampNeg) x_1 (σ)).bind fun p_8 =>
    some (p_8)
    else none
    else none
  else
  if x_2 = 9 then
    if aB (gE (σ) (t + 4) (x_1 : Int32).toNatClampNeg) (gN σ (t + 8)) then
    if aB x_1 (gN σ (t + 8)) then
    if aB (gE (σ) (t + 4) (x_1 : Int32).toNatClampNeg) (gN σ (t + 9)) then
    if aB x_1 (gN σ (t + 9)) then
    some (st_e (st_e (σ) (t + 8) ((x_1 : Int32).toNatClampNeg) (-(gE (σ) (t + 8) ((gE (σ) (t + 4) (x_1 : Int32).toNatClampNeg) : Int32).toNatClampNeg))) (t + 9) ((x_1 : Int32).toNatClampNeg) (gE (σ) (t + 9) ((gE (σ) (t + 4) (x_1 : Int32).toNatClampNeg) : Int32).toNatClampNeg))
    else none
    else none
    else none
    else none
  else
  if x_2 = 16 then
    if aB (gE (σ) (t + 4) (x_1 : Int32).toNatClampNeg) (gN σ (t + 8)) then
    if aB x_1 (gN σ (t + 8)) then
    some (st_e (σ) (t + 8) ((x_1 : Int32).toNatClampNeg) (1 - (gE (σ) (t + 8) ((gE (σ) (t + 4) (x_1 : Int32).toNatClampNeg) : Int32).toNatClampNeg)))
    else none
    else none
  else
  if x_2 = 17 then
    if aB (gE (σ) (t + 4) (x_1 : Int32).toNatClampNeg) (gN σ (t + 8)) then
    if (gE (σ) (t + 8) ((gE (σ) (t + 4) (x_1 : Int32).toNatClampNeg) : Int32).toNatClampNeg) = 1 then
      if aB x_1 (gN σ (t + 5)) then
      if aB (gE (σ) (t + 5) (x_1 : Int32).toNatClampNeg) (gN σ (t + 8)) then
      if aB x_1 (gN σ (t + 8)) then
      some (st_e (σ) (t + 8) ((x_1 : Int32).toNatClampNeg) (gE (σ) (t + 8) ((gE (σ) (t + 5) (x_1 : Int32).toNatClampNeg) : Int32).toNatClampNeg))
      else none
      else none
      else none
    else
      if aB x_1 (gN σ (t + 8)) then
      some (st_e (σ) (t + 8) ((x_1 : Int32).toNatClampNeg) 0)
      else none
    else none
  else
  if x_2 = 18 then
    if aB (gE (σ) (t + 4) (x_1 : Int32).toNatClampNeg) (gN σ (t + 8)) then
    if (gE (σ) (t + 8) ((gE (σ) (t + 4) (x_1 : Int32).toNatClampNeg) : Int32).toNatClampNeg) = 1 then
      if aB x_1 (gN σ (t + 8)) then
      some (st_e (σ) (t + 8) ((x_1 : Int32).toNatClampNeg) 1)
      else none
    else
      if aB x_1 (gN σ (t + 5)) then
      if aB (gE (σ) (t + 5) (x_1 : Int32).toNatClampNeg) (gN σ (t + 8)) then
      if aB x_1 (gN σ (t + 8)) then
      some (st_e (σ) (t + 8) ((x_1 : Int32).toNatClampNeg) (gE (σ) (t + 8) ((gE (σ) (t + 5) (x_1 : Int32).toNatClampNeg) : Int32).toNatClampNeg))
      else none
      else none
      else none
    else none
  else
  if x_2 = 19 then
    if aB (gE (σ) (t + 4) (x_1 : Int32).toNatClampNeg) (gN σ (t + 8)) then
    if (gE (σ) (t + 8) ((gE (σ) (t + 4) (x_1 : Int32).toNatClampNeg) : Int32).toNatClampNeg) = 1 then
      if aB x_1 (gN σ (t + 5)) then
      (F_62 N t (gE (σ) (t + 5) (x_1 : Int32).toNatClampNeg) x_1 (σ)).bind fun p_35 =>
      some (p_35)
      else none
    else
      if aB x_1 (gN σ (t + 6)) then
      (F_62 N t (gE (σ) (t + 6) (x_1 : Int32).toNatClampNeg) x_1 (σ)).bind fun p_37 =>
      some (p_37)
      else none
    else none
  else
  if x_2 = 20 then
    (F_77 N t x_1 (σ)).bind fun p_39 =>
    if 0 < p_39.1 then
      if aB x_1 (gN p_39.2 (t + 5)) then
      (F_62 N t (gE (p_39.2) (t + 5) (x_1 : Int32).toNatClampNeg) x_1 (p_39.2)).bind fun p_42 =>
      some (p_42)
      else none
    else
      (F_62 N t (gE (σ) (t + 4) (x_1 : Int32).toNatClampNeg) x_1 (p_39.2)).bind fun p_43 =>
      some (p_43)
  else
  if x_2 = 21 then
    (F_77 N t x_1 (σ)).bind fun p_45 =>
    if p_45.1 < 0 then
      if aB x_1 (gN p_45.2 (t + 5)) then
      (F_62 N t (gE (p_45.2) (t + 5) (x_1 : Int32).toNatClampNeg) x_1 (p_45.2)).bind fun p_48 =>
      some (p_48)
      else none
    else
      (F_62 N t (gE (σ) (t + 4) (x_1 : Int32).toNatClampNeg) x_1 (p_45.2)).bind fun p_49 =>
      some (p_49)
  else
  if x_2 = 22 then
    (F_62 N t (gE (σ) (t + 4) (x_1 : Int32).toNatClampNeg) x_1 (σ)).bind fun p_51 =>
    some (p_51)
  else
    if x_2 < 10 then
      some (σ)
    else
      if 15 < x_2 then
        some (σ)
      else
        (F_77 N t x_1 (σ)).bind fun p_54 =>
        (F_78 N x_2 p_54.1 (p_54.2)).bind fun p_55 =>
        if aB x_1 (gN p_55.2 (t + 8)) then
        some (st_e (p_55.2) (t + 8) ((x_1 : Int32).toNatClampNeg) (if p_55.1 = 0 then 0 else 1 : Int32))
        else none
  else none
set_option maxRecDepth 100000 in
theorem F_76_R {N : Nat} {t : Nat} {x_1 : Int32} {x_2 : Int32} {σ : st_S} {p : st_S} (H : F_76 N t x_1 x_2 σ = some p) : gR p = gR σ := by
  unfold F_76 at H
  obtain ⟨_, H⟩ := F_gd H
  refine F_if H (fun _ H => ?_) (fun _ H => ?_)
  · obtain ⟨_, H⟩ := F_gd H
    obtain ⟨_, H⟩ := F_gd H
    obtain rfl := Option.some.inj H
    exact rfl
  · refine F_if H (fun _ H => ?_) (fun _ H => ?_)
    · obtain ⟨_, H⟩ := F_gd H
      obtain ⟨_, H⟩ := F_gd H
      obtain ⟨p_8, G_8, H⟩ := F_bd H
      obtain rfl := Option.some.inj H
      exact ((F_62_R G_8).trans rfl)
    · refine F_if H (fun _ H => ?_) (fun _ H => ?_)
      · obtain ⟨_, H⟩ := F_gd H
        obtain ⟨_, H⟩ := F_gd H
        obtain ⟨_, H⟩ := F_gd H
        obtain ⟨_, H⟩ := F_gd H
        obtain rfl := Option.some.inj H
        exact rfl
      · refine F_if H (fun _ H => ?_) (fun _ H => ?_)
        · obtain ⟨_, H⟩ := F_gd H
          obtain ⟨_, H⟩ := F_gd H
          obtain rfl := Option.some.inj H
          exact rfl
        · refine F_if H (fun _ H => ?_) (fun _ H => ?_)
          · obtain ⟨_, H⟩ := F_gd H
            refine F_if H (fun _ H => ?_) (fun _ H => ?_)
            · obtain ⟨_, H⟩ := F_gd H
              obtain ⟨_, H⟩ := F_gd H
              obtain ⟨_, H⟩ := F_gd H
              obtain rfl := Option.some.inj H
              exact rfl
            · obtain ⟨_, H⟩ := F_gd H
              obtain rfl := Option.some.inj H
              exact rfl
          · refine F_if H (fun _ H => ?_) (fun _ H => ?_)
            · obtain ⟨_, H⟩ := F_gd H
              refine F_if H (fun _ H => ?_) (fun _ H => ?_)
              · obtain ⟨_, H⟩ := F_gd H
                obtain rfl := Option.some.inj H
                exact rfl
              · obtain ⟨_, H⟩ := F_gd H
                obtain ⟨_, H⟩ := F_gd H
                obtain ⟨_, H⟩ := F_gd H
                obtain rfl := Option.some.inj H
                exact rfl
            · refine F_if H (fun _ H => ?_) (fun _ H => ?_)
              · obtain ⟨_, H⟩ := F_gd H
                refine F_if H (fun _ H => ?_) (fun _ H => ?_)
                · obtain ⟨_, H⟩ := F_gd H
                  obtain ⟨p_35, G_35, H⟩ := F_bd H
                  obtain rfl := Option.some.inj H
                  exact ((F_62_R G_35).trans rfl)
                · obtain ⟨_, H⟩ := F_gd H
                  obtain ⟨p_37, G_37, H⟩ := F_bd H
                  obtain rfl := Option.some.inj H
                  exact ((F_62_R G_37).trans rfl)
              · refine F_if H (fun _ H => ?_) (fun _ H => ?_)
                · obtain ⟨p_39, G_39, H⟩ := F_bd H
                  refine F_if H (fun _ H => ?_) (fun _ H => ?_)
                  · obtain ⟨_, H⟩ := F_gd H
                    obtain ⟨p_42, G_42, H⟩ := F_bd H
                    obtain rfl := Option.some.inj H
                    exact ((F_62_R G_42).trans ((F_77_R G_39).trans rfl))
                  · obtain ⟨p_43, G_43, H⟩ := F_bd H
                    obtain rfl := Option.some.inj H
                    exact ((F_62_R G_43).trans ((F_77_R G_39).trans rfl))
                · refine F_if H (fun _ H => ?_) (fun _ H => ?_)
                  · obtain ⟨p_45, G_45, H⟩ := F_bd H
                    refine F_if H (fun _ H => ?_) (fun _ H => ?_)
                    · obtain ⟨_, H⟩ := F_gd H
                      obtain ⟨p_48, G_48, H⟩ := F_bd H
                      obtain rfl := Option.some.inj H
                      exact ((F_62_R G_48).trans ((F_77_R G_45).trans rfl))
                    · obtain ⟨p_49, G_49, H⟩ := F_bd H
                      obtain rfl := Option.some.inj H
                      exact ((F_62_R G_49).trans ((F_77_R G_45).trans rfl))
                  · refine F_if H (fun _ H => ?_) (fun _ H => ?_)
                    · obtain ⟨p_51, G_51, H⟩ := F_bd H
                      obtain rfl := Option.some.inj H
                      exact ((F_62_R G_51).trans rfl)
                    · refine F_if H (fun _ H => ?_) (fun _ H => ?_)
                      · obtain rfl := Option.some.inj H
                        exact rfl
                      · refine F_if H (fun _ H => ?_) (fun _ H => ?_)
                        · obtain rfl := Option.some.inj H
                          exact rfl
                        · obtain ⟨p_54, G_54, H⟩ := F_bd H
                          obtain ⟨p_55, G_55, H⟩ := F_bd H
                          obtain ⟨_, H⟩ := F_gd H
                          obtain rfl := Option.some.inj H
                          exact ((F_78_R G_55).trans ((F_77_R G_54).trans rfl))
set_option maxHeartbeats 4000000 in
set_option maxRecDepth 100000 in
theorem F_76_ok {N d : Nat} {t : Nat} (ht : t = 4 ∨ t = 20) {x_1 : Int32} {x_2 : Int32} {σ : st_S} {p : st_S} (hr_42_3 : gR σ 42 3 = t) (hr_42_4 : gR σ 42 4 = (t + 1)) (H : F_76 N t x_1 x_2 σ = some p) : vz_ev P0 (d + 2) 76 0 (lv_args 0 [.ref 42, .int x_1, .int x_2]) [] (hp σ) (.inl none, hp p) := by
  unfold F_76 at H
  rcases ht with rfl | rfl
  · refine ev_x (i := .aload_n 0) (len := 1) (p' := 1) (s' := [.ref 42]) rfl rfl rfl ?_
    refine ev_gr (p' := 4) (v := 5) rfl rfl rfl ly_42 rfl rfl hr_42_4 ?_
    refine ev_gc (p' := 7) (v := 8) rfl rfl rfl ly_5 rfl rfl ?_
    refine ev_x (i := .iload_n 1) (len := 1) (p' := 8) (s' := [.int x_1, .ref 8]) rfl rfl rfl ?_
    obtain ⟨b_1, H⟩ := F_gd H
    refine ev_ga (p' := 9) (v := (gE (σ) 8 (x_1 : Int32).toNatClampNeg)) rfl rfl ly_8 rfl (gd_in b_1) rfl ?_
    refine ev_x (i := .istore_n 3) (len := 1) (p' := 10) (s' := []) (l' := [(3, .int (gE (σ) 8 (x_1 : Int32).toNatClampNeg)), (0, .ref 42), (1, .int x_1), (2, .int x_2)]) rfl rfl rfl ?_
    refine ev_x (i := .iload_n 2) (len := 1) (p' := 11) (s' := [.int x_2]) rfl rfl rfl ?_
    refine F_if H (fun c_2 H => ?_) (fun c_2 H => ?_)
    · refine ev_st (st' := [.int 2]) (congrArg (fun z => Value.int z :: []) c_2) ?_
      refine ev_ts (off := 97) (t := 108) rfl rfl (by decide) rfl ?_
      refine ev_x (i := .aload_n 0) (len := 1) (p' := 109) (s' := [.ref 42]) rfl rfl rfl ?_
      refine ev_gr (p' := 112) (v := 5) rfl rfl rfl ly_42 rfl rfl hr_42_4 ?_
      refine ev_gc (p' := 115) (v := 12) rfl rfl rfl ly_5 rfl rfl ?_
      refine ev_x (i := .iload_n 1) (len := 1) (p' := 116) (s' := [.int x_1, .ref 12]) rfl rfl rfl ?_
      refine ev_x (i := .aload_n 0) (len := 1) (p' := 117) (s' := [.ref 42, .int x_1, .ref 12]) rfl rfl rfl ?_
      refine ev_gc (p' := 120) (v := 43) rfl rfl rfl ly_42 rfl rfl ?_
      refine ev_x (i := .iload_n 3) (len := 1) (p' := 121) (s' := [.int (gE (σ) 8 (x_1 : Int32).toNatClampNeg), .ref 43, .int x_1, .ref 12]) rfl rfl rfl ?_
      obtain ⟨b_3, H⟩ := F_gd H
      refine ev_ga (p' := 122) (v := (gE (σ) 43 ((gE (σ) 8 (x_1 : Int32).toNatClampNeg) : Int32).toNatClampNeg)) rfl rfl ly_43 rfl (gd_in b_3) rfl ?_
      obtain ⟨b_4, H⟩ := F_gd H
      refine ev_pa (j := (x_1 : Int32).toNatClampNeg) (p' := 123) rfl rfl ly_12 rfl (gd_in b_4) rfl ?_
      refine ev_x (i := .goto 345) (len := 3) (p' := 468) (s' := []) rfl rfl rfl ?_
      obtain rfl := Option.some.inj H
      exact ev_vret rfl rfl rfl
    · refine F_if H (fun c_5 H => ?_) (fun c_5 H => ?_)
      · refine ev_st (st' := [.int 3]) (congrArg (fun z => Value.int z :: []) c_5) ?_
        refine ev_ts (off := 115) (t := 126) rfl rfl (by decide) rfl ?_
        refine ev_x (i := .aload_n 0) (len := 1) (p' := 127) (s' := [.ref 42]) rfl rfl rfl ?_
        refine ev_gr (p' := 130) (v := 5) rfl rfl rfl ly_42 rfl rfl hr_42_4 ?_
        refine ev_x (i := .aload_n 0) (len := 1) (p' := 131) (s' := [.ref 42, .ref 5]) rfl rfl rfl ?_
        refine ev_gr (p' := 134) (v := 5) rfl rfl rfl ly_42 rfl rfl hr_42_4 ?_
        refine ev_gc (p' := 137) (v := 8) rfl rfl rfl ly_5 rfl rfl ?_
        refine ev_x (i := .aload_n 0) (len := 1) (p' := 138) (s' := [.ref 42, .ref 8, .ref 5]) rfl rfl rfl ?_
        refine ev_gr (p' := 141) (v := 4) rfl rfl rfl ly_42 rfl rfl hr_42_3 ?_
        refine ev_gc (p' := 144) (v := 18) rfl rfl rfl ly_4 rfl rfl ?_
        refine ev_x (i := .iload_n 3) (len := 1) (p' := 145) (s' := [.int (gE (σ) 8 (x_1 : Int32).toNatClampNeg), .ref 18, .ref 8, .ref 5]) rfl rfl rfl ?_
        obtain ⟨b_6, H⟩ := F_gd H
        refine ev_ga (p' := 146) (v := (gE (σ) 18 ((gE (σ) 8 (x_1 : Int32).toNatClampNeg) : Int32).toNatClampNeg)) rfl rfl ly_18 rfl (gd_in b_6) rfl ?_
        obtain ⟨b_7, H⟩ := F_gd H
        refine ev_ga (p' := 147) (v := (gE (σ) 8 ((gE (σ) 18 ((gE (σ) 8 (x_1 : Int32).toNatClampNeg) : Int32).toNatClampNeg) : Int32).toNatClampNeg)) rfl rfl ly_8 rfl (gd_in b_7) rfl ?_
        refine ev_x (i := .iload_n 1) (len := 1) (p' := 148) (s' := [.int x_1, .int (gE (σ) 8 ((gE (σ) 18 ((gE (σ) 8 (x_1 : Int32).toNatClampNeg) : Int32).toNatClampNeg) : Int32).toNatClampNeg), .ref 5]) rfl rfl rfl ?_
        obtain ⟨p_8, G_8, H⟩ := F_bd H
        refine ev_cv (d := d + 1) (As := [.int (gE (σ) 8 ((gE (σ) 18 ((gE (σ) 8 (x_1 : Int32).toNatClampNeg) : Int32).toNatClampNeg) : Int32).toNatClampNeg), .int x_1]) (a := 5) (p' := 151) rfl rfl rfl ly_5 rfl rfl rfl rfl rfl rfl rfl (F_62_ok (d := d + 0) (ht := (Or.inl rfl))  G_8) ?_
        refine ev_st (st' := []) rfl ?_
        have e_8 := F_62_R G_8
        refine ev_x (i := .goto 317) (len := 3) (p' := 468) (s' := []) rfl rfl rfl ?_
        obtain rfl := Option.some.inj H
        exact ev_vret rfl rfl rfl
      · refine F_if H (fun c_9 H => ?_) (fun c_9 H => ?_)
        · refine ev_st (st' := [.int 9]) (congrArg (fun z => Value.int z :: []) c_9) ?_
          refine ev_ts (off := 143) (t := 154) rfl rfl (by decide) rfl ?_
          refine ev_x (i := .aload_n 0) (len := 1) (p' := 155) (s' := [.ref 42]) rfl rfl rfl ?_
          refine ev_gr (p' := 158) (v := 5) rfl rfl rfl ly_42 rfl rfl hr_42_4 ?_
          refine ev_gc (p' := 161) (v := 12) rfl rfl rfl ly_5 rfl rfl ?_
          refine ev_x (i := .iload_n 1) (len := 1) (p' := 162) (s' := [.int x_1, .ref 12]) rfl rfl rfl ?_
          refine ev_x (i := .aload_n 0) (len := 1) (p' := 163) (s' := [.ref 42, .int x_1, .ref 12]) rfl rfl rfl ?_
          refine ev_gr (p' := 166) (v := 5) rfl rfl rfl ly_42 rfl rfl hr_42_4 ?_
          refine ev_gc (p' := 169) (v := 12) rfl rfl rfl ly_5 rfl rfl ?_
          refine ev_x (i := .iload_n 3) (len := 1) (p' := 170) (s' := [.int (gE (σ) 8 (x_1 : Int32).toNatClampNeg), .ref 12, .int x_1, .ref 12]) rfl rfl rfl ?_
          obtain ⟨b_10, H⟩ := F_gd H
          refine ev_ga (p' := 171) (v := (gE (σ) 12 ((gE (σ) 8 (x_1 : Int32).toNatClampNeg) : Int32).toNatClampNeg)) rfl rfl ly_12 rfl (gd_in b_10) rfl ?_
          refine ev_x (i := .ineg) (len := 1) (p' := 172) (s' := [.int (-(gE (σ) 12 ((gE (σ) 8 (x_1 : Int32).toNatClampNeg) : Int32).toNatClampNeg)), .int x_1, .ref 12]) rfl rfl rfl ?_
          obtain ⟨b_11, H⟩ := F_gd H
          refine ev_pa (j := (x_1 : Int32).toNatClampNeg) (p' := 173) rfl rfl ly_12 rfl (gd_in b_11) rfl ?_
          refine ev_x (i := .aload_n 0) (len := 1) (p' := 174) (s' := [.ref 42]) rfl rfl rfl ?_
          refine ev_gr (p' := 177) (v := 5) rfl rfl rfl ly_42 rfl rfl hr_42_4 ?_
          refine ev_gc (p' := 180) (v := 13) rfl rfl rfl ly_5 rfl rfl ?_
          refine ev_x (i := .iload_n 1) (len := 1) (p' := 181) (s' := [.int x_1, .ref 13]) rfl rfl rfl ?_
          refine ev_x (i := .aload_n 0) (len := 1) (p' := 182) (s' := [.ref 42, .int x_1, .ref 13]) rfl rfl rfl ?_
          refine ev_gr (p' := 185) (v := 5) rfl rfl rfl ly_42 rfl rfl hr_42_4 ?_
          refine ev_gc (p' := 188) (v := 13) rfl rfl rfl ly_5 rfl rfl ?_
          refine ev_x (i := .iload_n 3) (len := 1) (p' := 189) (s' := [.int (gE (σ) 8 (x_1 : Int32).toNatClampNeg), .ref 13, .int x_1, .ref 13]) rfl rfl rfl ?_
          obtain ⟨b_12, H⟩ := F_gd H
          refine ev_ga (p' := 190) (v := (gE (σ) 13 ((gE (σ) 8 (x_1 : Int32).toNatClampNeg) : Int32).toNatClampNeg)) rfl rfl ly_13 rfl (gd_in b_12) rfl ?_
          obtain ⟨b_13, H⟩ := F_gd H
          refine ev_pa (j := (x_1 : Int32).toNatClampNeg) (p' := 191) rfl rfl ly_13 rfl (gd_in b_13) rfl ?_
          refine ev_x (i := .goto 277) (len := 3) (p' := 468) (s' := []) rfl rfl rfl ?_
          obtain rfl := Option.some.inj H
          exact ev_vret rfl rfl rfl
        · refine F_if H (fun c_14 H => ?_) (fun c_14 H => ?_)
          · refine ev_st (st' := [.int 16]) (congrArg (fun z => Value.int z :: []) c_14) ?_
            refine ev_ts (off := 183) (t := 194) rfl rfl (by decide) rfl ?_
            refine ev_x (i := .aload_n 0) (len := 1) (p' := 195) (s' := [.ref 42]) rfl rfl rfl ?_
            refine ev_gr (p' := 198) (v := 5) rfl rfl rfl ly_42 rfl rfl hr_42_4 ?_
            refine ev_gc (p' := 201) (v := 12) rfl rfl rfl ly_5 rfl rfl ?_
            refine ev_x (i := .iload_n 1) (len := 1) (p' := 202) (s' := [.int x_1, .ref 12]) rfl rfl rfl ?_
            refine ev_x (i := .iconst 1) (len := 1) (p' := 203) (s' := [.int 1, .int x_1, .ref 12]) rfl rfl rfl ?_
            refine ev_x (i := .aload_n 0) (len := 1) (p' := 204) (s' := [.ref 42, .int 1, .int x_1, .ref 12]) rfl rfl rfl ?_
            refine ev_gr (p' := 207) (v := 5) rfl rfl rfl ly_42 rfl rfl hr_42_4 ?_
            refine ev_gc (p' := 210) (v := 12) rfl rfl rfl ly_5 rfl rfl ?_
            refine ev_x (i := .iload_n 3) (len := 1) (p' := 211) (s' := [.int (gE (σ) 8 (x_1 : Int32).toNatClampNeg), .ref 12, .int 1, .int x_1, .ref 12]) rfl rfl rfl ?_
            obtain ⟨b_15, H⟩ := F_gd H
            refine ev_ga (p' := 212) (v := (gE (σ) 12 ((gE (σ) 8 (x_1 : Int32).toNatClampNeg) : Int32).toNatClampNeg)) rfl rfl ly_12 rfl (gd_in b_15) rfl ?_
            refine ev_x (i := .isub) (len := 1) (p' := 213) (s' := [.int (1 - (gE (σ) 12 ((gE (σ) 8 (x_1 : Int32).toNatClampNeg) : Int32).toNatClampNeg)), .int x_1, .ref 12]) rfl rfl rfl ?_
            obtain ⟨b_16, H⟩ := F_gd H
            refine ev_pa (j := (x_1 : Int32).toNatClampNeg) (p' := 214) rfl rfl ly_12 rfl (gd_in b_16) rfl ?_
            refine ev_x (i := .goto 254) (len := 3) (p' := 468) (s' := []) rfl rfl rfl ?_
            obtain rfl := Option.some.inj H
            exact ev_vret rfl rfl rfl
          · refine F_if H (fun c_17 H => ?_) (fun c_17 H => ?_)
            · refine ev_st (st' := [.int 17]) (congrArg (fun z => Value.int z :: []) c_17) ?_
              refine ev_ts (off := 206) (t := 217) rfl rfl (by decide) rfl ?_
              refine ev_x (i := .aload_n 0) (len := 1) (p' := 218) (s' := [.ref 42]) rfl rfl rfl ?_
              refine ev_gr (p' := 221) (v := 5) rfl rfl rfl ly_42 rfl rfl hr_42_4 ?_
              refine ev_gc (p' := 224) (v := 12) rfl rfl rfl ly_5 rfl rfl ?_
              refine ev_x (i := .iload_n 1) (len := 1) (p' := 225) (s' := [.int x_1, .ref 12]) rfl rfl rfl ?_
              refine ev_x (i := .aload_n 0) (len := 1) (p' := 226) (s' := [.ref 42, .int x_1, .ref 12]) rfl rfl rfl ?_
              refine ev_gr (p' := 229) (v := 5) rfl rfl rfl ly_42 rfl rfl hr_42_4 ?_
              refine ev_gc (p' := 232) (v := 12) rfl rfl rfl ly_5 rfl rfl ?_
              refine ev_x (i := .iload_n 3) (len := 1) (p' := 233) (s' := [.int (gE (σ) 8 (x_1 : Int32).toNatClampNeg), .ref 12, .int x_1, .ref 12]) rfl rfl rfl ?_
              obtain ⟨b_18, H⟩ := F_gd H
              refine ev_ga (p' := 234) (v := (gE (σ) 12 ((gE (σ) 8 (x_1 : Int32).toNatClampNeg) : Int32).toNatClampNeg)) rfl rfl ly_12 rfl (gd_in b_18) rfl ?_
              refine ev_x (i := .iconst 1) (len := 1) (p' := 235) (s' := [.int 1, .int (gE (σ) 12 ((gE (σ) 8 (x_1 : Int32).toNatClampNeg) : Int32).toNatClampNeg), .int x_1, .ref 12]) rfl rfl rfl ?_
              refine F_if H (fun c_19 H => ?_) (fun c_19 H => ?_)
              · refine ev_b2 (t := 258) (p' := 238) rfl rfl rfl (if_neg (fun q => q c_19)) ?_
                refine ev_x (i := .aload_n 0) (len := 1) (p' := 239) (s' := [.ref 42, .int x_1, .ref 12]) rfl rfl rfl ?_
                refine ev_gr (p' := 242) (v := 5) rfl rfl rfl ly_42 rfl rfl hr_42_4 ?_
                refine ev_gc (p' := 245) (v := 12) rfl rfl rfl ly_5 rfl rfl ?_
                refine ev_x (i := .aload_n 0) (len := 1) (p' := 246) (s' := [.ref 42, .ref 12, .int x_1, .ref 12]) rfl rfl rfl ?_
                refine ev_gr (p' := 249) (v := 5) rfl rfl rfl ly_42 rfl rfl hr_42_4 ?_
                refine ev_gc (p' := 252) (v := 9) rfl rfl rfl ly_5 rfl rfl ?_
                refine ev_x (i := .iload_n 1) (len := 1) (p' := 253) (s' := [.int x_1, .ref 9, .ref 12, .int x_1, .ref 12]) rfl rfl rfl ?_
                obtain ⟨b_20, H⟩ := F_gd H
                refine ev_ga (p' := 254) (v := (gE (σ) 9 (x_1 : Int32).toNatClampNeg)) rfl rfl ly_9 rfl (gd_in b_20) rfl ?_
                obtain ⟨b_21, H⟩ := F_gd H
                refine ev_ga (p' := 255) (v := (gE (σ) 12 ((gE (σ) 9 (x_1 : Int32).toNatClampNeg) : Int32).toNatClampNeg)) rfl rfl ly_12 rfl (gd_in b_21) rfl ?_
                refine ev_x (i := .goto 4) (len := 3) (p' := 259) (s' := [.int (gE (σ) 12 ((gE (σ) 9 (x_1 : Int32).toNatClampNeg) : Int32).toNatClampNeg), .int x_1, .ref 12]) rfl rfl rfl ?_
                obtain ⟨b_22, H⟩ := F_gd H
                refine ev_pa (j := (x_1 : Int32).toNatClampNeg) (p' := 260) rfl rfl ly_12 rfl (gd_in b_22) rfl ?_
                refine ev_x (i := .goto 208) (len := 3) (p' := 468) (s' := []) rfl rfl rfl ?_
                obtain rfl := Option.some.inj H
                exact ev_vret rfl rfl rfl
              · refine ev_b2 (t := 258) (p' := 258) rfl rfl rfl (if_pos c_19) ?_
                refine ev_x (i := .iconst 0) (len := 1) (p' := 259) (s' := [.int 0, .int x_1, .ref 12]) rfl rfl rfl ?_
                obtain ⟨b_23, H⟩ := F_gd H
                refine ev_pa (j := (x_1 : Int32).toNatClampNeg) (p' := 260) rfl rfl ly_12 rfl (gd_in b_23) rfl ?_
                refine ev_x (i := .goto 208) (len := 3) (p' := 468) (s' := []) rfl rfl rfl ?_
                obtain rfl := Option.some.inj H
                exact ev_vret rfl rfl rfl
            · refine F_if H (fun c_24 H => ?_) (fun c_24 H => ?_)
              · refine ev_st (st' := [.int 18]) (congrArg (fun z => Value.int z :: []) c_24) ?_
                refine ev_ts (off := 252) (t := 263) rfl rfl (by decide) rfl ?_
                refine ev_x (i := .aload_n 0) (len := 1) (p' := 264) (s' := [.ref 42]) rfl rfl rfl ?_
                refine ev_gr (p' := 267) (v := 5) rfl rfl rfl ly_42 rfl rfl hr_42_4 ?_
                refine ev_gc (p' := 270) (v := 12) rfl rfl rfl ly_5 rfl rfl ?_
                refine ev_x (i := .iload_n 1) (len := 1) (p' := 271) (s' := [.int x_1, .ref 12]) rfl rfl rfl ?_
                refine ev_x (i := .aload_n 0) (len := 1) (p' := 272) (s' := [.ref 42, .int x_1, .ref 12]) rfl rfl rfl ?_
                refine ev_gr (p' := 275) (v := 5) rfl rfl rfl ly_42 rfl rfl hr_42_4 ?_
                refine ev_gc (p' := 278) (v := 12) rfl rfl rfl ly_5 rfl rfl ?_
                refine ev_x (i := .iload_n 3) (len := 1) (p' := 279) (s' := [.int (gE (σ) 8 (x_1 : Int32).toNatClampNeg), .ref 12, .int x_1, .ref 12]) rfl rfl rfl ?_
                obtain ⟨b_25, H⟩ := F_gd H
                refine ev_ga (p' := 280) (v := (gE (σ) 12 ((gE (σ) 8 (x_1 : Int32).toNatClampNeg) : Int32).toNatClampNeg)) rfl rfl ly_12 rfl (gd_in b_25) rfl ?_
                refine ev_x (i := .iconst 1) (len := 1) (p' := 281) (s' := [.int 1, .int (gE (σ) 12 ((gE (σ) 8 (x_1 : Int32).toNatClampNeg) : Int32).toNatClampNeg), .int x_1, .ref 12]) rfl rfl rfl ?_
                refine F_if H (fun c_26 H => ?_) (fun c_26 H => ?_)
                · refine ev_b2 (t := 288) (p' := 284) rfl rfl rfl (if_neg (fun q => q c_26)) ?_
                  refine ev_x (i := .iconst 1) (len := 1) (p' := 285) (s' := [.int 1, .int x_1, .ref 12]) rfl rfl rfl ?_
                  refine ev_x (i := .goto 20) (len := 3) (p' := 305) (s' := [.int 1, .int x_1, .ref 12]) rfl rfl rfl ?_
                  obtain ⟨b_27, H⟩ := F_gd H
                  refine ev_pa (j := (x_1 : Int32).toNatClampNeg) (p' := 306) rfl rfl ly_12 rfl (gd_in b_27) rfl ?_
                  refine ev_x (i := .goto 162) (len := 3) (p' := 468) (s' := []) rfl rfl rfl ?_
                  obtain rfl := Option.some.inj H
                  exact ev_vret rfl rfl rfl
                · refine ev_b2 (t := 288) (p' := 288) rfl rfl rfl (if_pos c_26) ?_
                  refine ev_x (i := .aload_n 0) (len := 1) (p' := 289) (s' := [.ref 42, .int x_1, .ref 12]) rfl rfl rfl ?_
                  refine ev_gr (p' := 292) (v := 5) rfl rfl rfl ly_42 rfl rfl hr_42_4 ?_
                  refine ev_gc (p' := 295) (v := 12) rfl rfl rfl ly_5 rfl rfl ?_
                  refine ev_x (i := .aload_n 0) (len := 1) (p' := 296) (s' := [.ref 42, .ref 12, .int x_1, .ref 12]) rfl rfl rfl ?_
                  refine ev_gr (p' := 299) (v := 5) rfl rfl rfl ly_42 rfl rfl hr_42_4 ?_
                  refine ev_gc (p' := 302) (v := 9) rfl rfl rfl ly_5 rfl rfl ?_
                  refine ev_x (i := .iload_n 1) (len := 1) (p' := 303) (s' := [.int x_1, .ref 9, .ref 12, .int x_1, .ref 12]) rfl rfl rfl ?_
                  obtain ⟨b_28, H⟩ := F_gd H
                  refine ev_ga (p' := 304) (v := (gE (σ) 9 (x_1 : Int32).toNatClampNeg)) rfl rfl ly_9 rfl (gd_in b_28) rfl ?_
                  obtain ⟨b_29, H⟩ := F_gd H
                  refine ev_ga (p' := 305) (v := (gE (σ) 12 ((gE (σ) 9 (x_1 : Int32).toNatClampNeg) : Int32).toNatClampNeg)) rfl rfl ly_12 rfl (gd_in b_29) rfl ?_
                  obtain ⟨b_30, H⟩ := F_gd H
                  refine ev_pa (j := (x_1 : Int32).toNatClampNeg) (p' := 306) rfl rfl ly_12 rfl (gd_in b_30) rfl ?_
                  refine ev_x (i := .goto 162) (len := 3) (p' := 468) (s' := []) rfl rfl rfl ?_
                  obtain rfl := Option.some.inj H
                  exact ev_vret rfl rfl rfl
              · refine F_if H (fun c_31 H => ?_) (fun c_31 H => ?_)
                · refine ev_st (st' := [.int 19]) (congrArg (fun z => Value.int z :: []) c_31) ?_
                  refine ev_ts (off := 298) (t := 309) rfl rfl (by decide) rfl ?_
                  refine ev_x (i := .aload_n 0) (len := 1) (p' := 310) (s' := [.ref 42]) rfl rfl rfl ?_
                  refine ev_gr (p' := 313) (v := 5) rfl rfl rfl ly_42 rfl rfl hr_42_4 ?_
                  refine ev_x (i := .aload_n 0) (len := 1) (p' := 314) (s' := [.ref 42, .ref 5]) rfl rfl rfl ?_
                  refine ev_gr (p' := 317) (v := 5) rfl rfl rfl ly_42 rfl rfl hr_42_4 ?_
                  refine ev_gc (p' := 320) (v := 12) rfl rfl rfl ly_5 rfl rfl ?_
                  refine ev_x (i := .iload_n 3) (len := 1) (p' := 321) (s' := [.int (gE (σ) 8 (x_1 : Int32).toNatClampNeg), .ref 12, .ref 5]) rfl rfl rfl ?_
                  obtain ⟨b_32, H⟩ := F_gd H
                  refine ev_ga (p' := 322) (v := (gE (σ) 12 ((gE (σ) 8 (x_1 : Int32).toNatClampNeg) : Int32).toNatClampNeg)) rfl rfl ly_12 rfl (gd_in b_32) rfl ?_
                  refine ev_x (i := .iconst 1) (len := 1) (p' := 323) (s' := [.int 1, .int (gE (σ) 12 ((gE (σ) 8 (x_1 : Int32).toNatClampNeg) : Int32).toNatClampNeg), .ref 5]) rfl rfl rfl ?_
                  refine F_if H (fun c_33 H => ?_) (fun c_33 H => ?_)
                  · refine ev_b2 (t := 338) (p' := 326) rfl rfl rfl (if_neg (fun q => q c_33)) ?_
                    refine ev_x (i := .aload_n 0) (len := 1) (p' := 327) (s' := [.ref 42, .ref 5]) rfl rfl rfl ?_
                    refine ev_gr (p' := 330) (v := 5) rfl rfl rfl ly_42 rfl rfl hr_42_4 ?_
                    refine ev_gc (p' := 333) (v := 9) rfl rfl rfl ly_5 rfl rfl ?_
                    refine ev_x (i := .iload_n 1) (len := 1) (p' := 334) (s' := [.int x_1, .ref 9, .ref 5]) rfl rfl rfl ?_
                    obtain ⟨b_34, H⟩ := F_gd H
                    refine ev_ga (p' := 335) (v := (gE (σ) 9 (x_1 : Int32).toNatClampNeg)) rfl rfl ly_9 rfl (gd_in b_34) rfl ?_
                    refine ev_x (i := .goto 12) (len := 3) (p' := 347) (s' := [.int (gE (σ) 9 (x_1 : Int32).toNatClampNeg), .ref 5]) rfl rfl rfl ?_
                    refine ev_x (i := .iload_n 1) (len := 1) (p' := 348) (s' := [.int x_1, .int (gE (σ) 9 (x_1 : Int32).toNatClampNeg), .ref 5]) rfl rfl rfl ?_
                    obtain ⟨p_35, G_35, H⟩ := F_bd H
                    refine ev_cv (d := d + 1) (As := [.int (gE (σ) 9 (x_1 : Int32).toNatClampNeg), .int x_1]) (a := 5) (p' := 351) rfl rfl rfl ly_5 rfl rfl rfl rfl rfl rfl rfl (F_62_ok (d := d + 0) (ht := (Or.inl rfl))  G_35) ?_
                    refine ev_st (st' := []) rfl ?_
                    have e_35 := F_62_R G_35
                    refine ev_x (i := .goto 117) (len := 3) (p' := 468) (s' := []) rfl rfl rfl ?_
                    obtain rfl := Option.some.inj H
                    exact ev_vret rfl rfl rfl
                  · refine ev_b2 (t := 338) (p' := 338) rfl rfl rfl (if_pos c_33) ?_
                    refine ev_x (i := .aload_n 0) (len := 1) (p' := 339) (s' := [.ref 42, .ref 5]) rfl rfl rfl ?_
                    refine ev_gr (p' := 342) (v := 5) rfl rfl rfl ly_42 rfl rfl hr_42_4 ?_
                    refine ev_gc (p' := 345) (v := 10) rfl rfl rfl ly_5 rfl rfl ?_
                    refine ev_x (i := .iload_n 1) (len := 1) (p' := 346) (s' := [.int x_1, .ref 10, .ref 5]) rfl rfl rfl ?_
                    obtain ⟨b_36, H⟩ := F_gd H
                    refine ev_ga (p' := 347) (v := (gE (σ) 10 (x_1 : Int32).toNatClampNeg)) rfl rfl ly_10 rfl (gd_in b_36) rfl ?_
                    refine ev_x (i := .iload_n 1) (len := 1) (p' := 348) (s' := [.int x_1, .int (gE (σ) 10 (x_1 : Int32).toNatClampNeg), .ref 5]) rfl rfl rfl ?_
                    obtain ⟨p_37, G_37, H⟩ := F_bd H
                    refine ev_cv (d := d + 1) (As := [.int (gE (σ) 10 (x_1 : Int32).toNatClampNeg), .int x_1]) (a := 5) (p' := 351) rfl rfl rfl ly_5 rfl rfl rfl rfl rfl rfl rfl (F_62_ok (d := d + 0) (ht := (Or.inl rfl))  G_37) ?_
                    refine ev_st (st' := []) rfl ?_
                    have e_37 := F_62_R G_37
                    refine ev_x (i := .goto 117) (len := 3) (p' := 468) (s' := []) rfl rfl rfl ?_
                    obtain rfl := Option.some.inj H
                    exact ev_vret rfl rfl rfl
                · refine F_if H (fun c_38 H => ?_) (fun c_38 H => ?_)
                  · refine ev_st (st' := [.int 20]) (congrArg (fun z => Value.int z :: []) c_38) ?_
                    refine ev_ts (off := 343) (t := 354) rfl rfl (by decide) rfl ?_
                    refine ev_x (i := .aload_n 0) (len := 1) (p' := 355) (s' := [.ref 42]) rfl rfl rfl ?_
                    refine ev_gr (p' := 358) (v := 5) rfl rfl rfl ly_42 rfl rfl hr_42_4 ?_
                    refine ev_x (i := .aload_n 0) (len := 1) (p' := 359) (s' := [.ref 42, .ref 5]) rfl rfl rfl ?_
                    refine ev_x (i := .iload_n 1) (len := 1) (p' := 360) (s' := [.int x_1, .ref 42, .ref 5]) rfl rfl rfl ?_
                    obtain ⟨p_39, G_39, H⟩ := F_bd H
                    refine ev_cv (d := d + 1) (As := [.int x_1]) (a := 42) (p' := 363) rfl rfl rfl ly_42 rfl rfl rfl rfl rfl rfl rfl (F_77_ok (d := d + 0) (ht := (Or.inl rfl)) (hr_42_4 := hr_42_4) G_39) ?_
                    refine ev_st (st' := [.int p_39.1, .ref 5]) rfl ?_
                    have e_39 := F_77_R G_39
                    refine F_if H (fun c_40 H => ?_) (fun c_40 H => ?_)
                    · refine ev_b0 (t := 370) (p' := 370) rfl rfl rfl (if_pos c_40) ?_
                      refine ev_x (i := .aload_n 0) (len := 1) (p' := 371) (s' := [.ref 42, .ref 5]) rfl rfl rfl ?_
                      refine ev_gr (p' := 374) (v := 5) rfl rfl rfl ly_42 rfl rfl ((congrFun (congrFun e_39 42) 4).trans hr_42_4) ?_
                      refine ev_gc (p' := 377) (v := 9) rfl rfl rfl ly_5 rfl rfl ?_
                      refine ev_x (i := .iload_n 1) (len := 1) (p' := 378) (s' := [.int x_1, .ref 9, .ref 5]) rfl rfl rfl ?_
                      obtain ⟨b_41, H⟩ := F_gd H
                      refine ev_ga (p' := 379) (v := (gE (p_39.2) 9 (x_1 : Int32).toNatClampNeg)) rfl rfl ly_9 rfl (gd_in b_41) rfl ?_
                      refine ev_x (i := .iload_n 1) (len := 1) (p' := 380) (s' := [.int x_1, .int (gE (p_39.2) 9 (x_1 : Int32).toNatClampNeg), .ref 5]) rfl rfl rfl ?_
                      obtain ⟨p_42, G_42, H⟩ := F_bd H
                      refine ev_cv (d := d + 1) (As := [.int (gE (p_39.2) 9 (x_1 : Int32).toNatClampNeg), .int x_1]) (a := 5) (p' := 383) rfl rfl rfl ly_5 rfl rfl rfl rfl rfl rfl rfl (F_62_ok (d := d + 0) (ht := (Or.inl rfl))  G_42) ?_
                      refine ev_st (st' := []) rfl ?_
                      have e_42 := F_62_R G_42
                      refine ev_x (i := .goto 85) (len := 3) (p' := 468) (s' := []) rfl rfl rfl ?_
                      obtain rfl := Option.some.inj H
                      exact ev_vret rfl rfl rfl
                    · refine ev_b0 (t := 370) (p' := 366) rfl rfl rfl (if_neg c_40) ?_
                      refine ev_x (i := .iload_n 3) (len := 1) (p' := 367) (s' := [.int (gE (σ) 8 (x_1 : Int32).toNatClampNeg), .ref 5]) rfl rfl rfl ?_
                      refine ev_x (i := .goto 12) (len := 3) (p' := 379) (s' := [.int (gE (σ) 8 (x_1 : Int32).toNatClampNeg), .ref 5]) rfl rfl rfl ?_
                      refine ev_x (i := .iload_n 1) (len := 1) (p' := 380) (s' := [.int x_1, .int (gE (σ) 8 (x_1 : Int32).toNatClampNeg), .ref 5]) rfl rfl rfl ?_
                      obtain ⟨p_43, G_43, H⟩ := F_bd H
                      refine ev_cv (d := d + 1) (As := [.int (gE (σ) 8 (x_1 : Int32).toNatClampNeg), .int x_1]) (a := 5) (p' := 383) rfl rfl rfl ly_5 rfl rfl rfl rfl rfl rfl rfl (F_62_ok (d := d + 0) (ht := (Or.inl rfl))  G_43) ?_
                      refine ev_st (st' := []) rfl ?_
                      have e_43 := F_62_R G_43
                      refine ev_x (i := .goto 85) (len := 3) (p' := 468) (s' := []) rfl rfl rfl ?_
                      obtain rfl := Option.some.inj H
                      exact ev_vret rfl rfl rfl
                  · refine F_if H (fun c_44 H => ?_) (fun c_44 H => ?_)
                    · refine ev_st (st' := [.int 21]) (congrArg (fun z => Value.int z :: []) c_44) ?_
                      refine ev_ts (off := 375) (t := 386) rfl rfl (by decide) rfl ?_
                      refine ev_x (i := .aload_n 0) (len := 1) (p' := 387) (s' := [.ref 42]) rfl rfl rfl ?_
                      refine ev_gr (p' := 390) (v := 5) rfl rfl rfl ly_42 rfl rfl hr_42_4 ?_
                      refine ev_x (i := .aload_n 0) (len := 1) (p' := 391) (s' := [.ref 42, .ref 5]) rfl rfl rfl ?_
                      refine ev_x (i := .iload_n 1) (len := 1) (p' := 392) (s' := [.int x_1, .ref 42, .ref 5]) rfl rfl rfl ?_
                      obtain ⟨p_45, G_45, H⟩ := F_bd H
                      refine ev_cv (d := d + 1) (As := [.int x_1]) (a := 42) (p' := 395) rfl rfl rfl ly_42 rfl rfl rfl rfl rfl rfl rfl (F_77_ok (d := d + 0) (ht := (Or.inl rfl)) (hr_42_4 := hr_42_4) G_45) ?_
                      refine ev_st (st' := [.int p_45.1, .ref 5]) rfl ?_
                      have e_45 := F_77_R G_45
                      refine F_if H (fun c_46 H => ?_) (fun c_46 H => ?_)
                      · refine ev_b0 (t := 402) (p' := 402) rfl rfl rfl (if_pos c_46) ?_
                        refine ev_x (i := .aload_n 0) (len := 1) (p' := 403) (s' := [.ref 42, .ref 5]) rfl rfl rfl ?_
                        refine ev_gr (p' := 406) (v := 5) rfl rfl rfl ly_42 rfl rfl ((congrFun (congrFun e_45 42) 4).trans hr_42_4) ?_
                        refine ev_gc (p' := 409) (v := 9) rfl rfl rfl ly_5 rfl rfl ?_
                        refine ev_x (i := .iload_n 1) (len := 1) (p' := 410) (s' := [.int x_1, .ref 9, .ref 5]) rfl rfl rfl ?_
                        obtain ⟨b_47, H⟩ := F_gd H
                        refine ev_ga (p' := 411) (v := (gE (p_45.2) 9 (x_1 : Int32).toNatClampNeg)) rfl rfl ly_9 rfl (gd_in b_47) rfl ?_
                        refine ev_x (i := .iload_n 1) (len := 1) (p' := 412) (s' := [.int x_1, .int (gE (p_45.2) 9 (x_1 : Int32).toNatClampNeg), .ref 5]) rfl rfl rfl ?_
                        obtain ⟨p_48, G_48, H⟩ := F_bd H
                        refine ev_cv (d := d + 1) (As := [.int (gE (p_45.2) 9 (x_1 : Int32).toNatClampNeg), .int x_1]) (a := 5) (p' := 415) rfl rfl rfl ly_5 rfl rfl rfl rfl rfl rfl rfl (F_62_ok (d := d + 0) (ht := (Or.inl rfl))  G_48) ?_
                        refine ev_st (st' := []) rfl ?_
                        have e_48 := F_62_R G_48
                        refine ev_x (i := .goto 53) (len := 3) (p' := 468) (s' := []) rfl rfl rfl ?_
                        obtain rfl := Option.some.inj H
                        exact ev_vret rfl rfl rfl
                      · refine ev_b0 (t := 402) (p' := 398) rfl rfl rfl (if_neg c_46) ?_
                        refine ev_x (i := .iload_n 3) (len := 1) (p' := 399) (s' := [.int (gE (σ) 8 (x_1 : Int32).toNatClampNeg), .ref 5]) rfl rfl rfl ?_
                        refine ev_x (i := .goto 12) (len := 3) (p' := 411) (s' := [.int (gE (σ) 8 (x_1 : Int32).toNatClampNeg), .ref 5]) rfl rfl rfl ?_
                        refine ev_x (i := .iload_n 1) (len := 1) (p' := 412) (s' := [.int x_1, .int (gE (σ) 8 (x_1 : Int32).toNatClampNeg), .ref 5]) rfl rfl rfl ?_
                        obtain ⟨p_49, G_49, H⟩ := F_bd H
                        refine ev_cv (d := d + 1) (As := [.int (gE (σ) 8 (x_1 : Int32).toNatClampNeg), .int x_1]) (a := 5) (p' := 415) rfl rfl rfl ly_5 rfl rfl rfl rfl rfl rfl rfl (F_62_ok (d := d + 0) (ht := (Or.inl rfl))  G_49) ?_
                        refine ev_st (st' := []) rfl ?_
                        have e_49 := F_62_R G_49
                        refine ev_x (i := .goto 53) (len := 3) (p' := 468) (s' := []) rfl rfl rfl ?_
                        obtain rfl := Option.some.inj H
                        exact ev_vret rfl rfl rfl
                    · refine F_if H (fun c_50 H => ?_) (fun c_50 H => ?_)
                      · refine ev_st (st' := [.int 22]) (congrArg (fun z => Value.int z :: []) c_50) ?_
                        refine ev_ts (off := 407) (t := 418) rfl rfl (by decide) rfl ?_
                        refine ev_x (i := .aload_n 0) (len := 1) (p' := 419) (s' := [.ref 42]) rfl rfl rfl ?_
                        refine ev_gr (p' := 422) (v := 5) rfl rfl rfl ly_42 rfl rfl hr_42_4 ?_
                        refine ev_x (i := .iload_n 3) (len := 1) (p' := 423) (s' := [.int (gE (σ) 8 (x_1 : Int32).toNatClampNeg), .ref 5]) rfl rfl rfl ?_
                        refine ev_x (i := .iload_n 1) (len := 1) (p' := 424) (s' := [.int x_1, .int (gE (σ) 8 (x_1 : Int32).toNatClampNeg), .ref 5]) rfl rfl rfl ?_
                        obtain ⟨p_51, G_51, H⟩ := F_bd H
                        refine ev_cv (d := d + 1) (As := [.int (gE (σ) 8 (x_1 : Int32).toNatClampNeg), .int x_1]) (a := 5) (p' := 427) rfl rfl rfl ly_5 rfl rfl rfl rfl rfl rfl rfl (F_62_ok (d := d + 0) (ht := (Or.inl rfl))  G_51) ?_
                        refine ev_st (st' := []) rfl ?_
                        have e_51 := F_62_R G_51
                        refine ev_x (i := .goto 41) (len := 3) (p' := 468) (s' := []) rfl rfl rfl ?_
                        obtain rfl := Option.some.inj H
                        exact ev_vret rfl rfl rfl
                      · have n_2 : (2 : Int) ≠ (x_2 : Int32).toInt := i32_ne (k := 2) (by decide) c_2
                        have n_3 : (3 : Int) ≠ (x_2 : Int32).toInt := i32_ne (k := 3) (by decide) c_5
                        have n_9 : (9 : Int) ≠ (x_2 : Int32).toInt := i32_ne (k := 9) (by decide) c_9
                        have n_16 : (16 : Int) ≠ (x_2 : Int32).toInt := i32_ne (k := 16) (by decide) c_14
                        have n_17 : (17 : Int) ≠ (x_2 : Int32).toInt := i32_ne (k := 17) (by decide) c_17
                        have n_18 : (18 : Int) ≠ (x_2 : Int32).toInt := i32_ne (k := 18) (by decide) c_24
                        have n_19 : (19 : Int) ≠ (x_2 : Int32).toInt := i32_ne (k := 19) (by decide) c_31
                        have n_20 : (20 : Int) ≠ (x_2 : Int32).toInt := i32_ne (k := 20) (by decide) c_38
                        have n_21 : (21 : Int) ≠ (x_2 : Int32).toInt := i32_ne (k := 21) (by decide) c_44
                        have n_22 : (22 : Int) ≠ (x_2 : Int32).toInt := i32_ne (k := 22) (by decide) c_50
                        refine ev_ts (off := 419) (t := 430) rfl rfl ?hsw rfl ?_
                        case hsw =>
                          by_cases hq : (x_2 : Int32).toInt < 2 ∨ 22 < (x_2 : Int32).toInt
                          · exact if_pos hq
                          · rw [if_neg hq]
                            have hw : (x_2 : Int32).toInt = 4 ∨ (x_2 : Int32).toInt = 5 ∨ (x_2 : Int32).toInt = 6 ∨ (x_2 : Int32).toInt = 7 ∨ (x_2 : Int32).toInt = 8 ∨ (x_2 : Int32).toInt = 10 ∨ (x_2 : Int32).toInt = 11 ∨ (x_2 : Int32).toInt = 12 ∨ (x_2 : Int32).toInt = 13 ∨ (x_2 : Int32).toInt = 14 ∨ (x_2 : Int32).toInt = 15 := by omega
                            rcases hw with hw | hw | hw | hw | hw | hw | hw | hw | hw | hw | hw <;> rw [hw] <;> rfl
                        refine ev_x (i := .iload_n 2) (len := 1) (p' := 431) (s' := [.int x_2]) rfl rfl rfl ?_
                        refine ev_x (i := .bipush 10) (len := 2) (p' := 433) (s' := [.int 10, .int x_2]) rfl rfl rfl ?_
                        refine F_if H (fun c_52 H => ?_) (fun c_52 H => ?_)
                        · refine ev_b2 (t := 468) (p' := 468) rfl rfl rfl (if_pos c_52) ?_
                          obtain rfl := Option.some.inj H
                          exact ev_vret rfl rfl rfl
                        · refine ev_b2 (t := 468) (p' := 436) rfl rfl rfl (if_neg c_52) ?_
                          refine ev_x (i := .iload_n 2) (len := 1) (p' := 437) (s' := [.int x_2]) rfl rfl rfl ?_
                          refine ev_x (i := .bipush 15) (len := 2) (p' := 439) (s' := [.int 15, .int x_2]) rfl rfl rfl ?_
                          refine F_if H (fun c_53 H => ?_) (fun c_53 H => ?_)
                          · refine ev_b2 (t := 468) (p' := 468) rfl rfl rfl (if_pos c_53) ?_
                            obtain rfl := Option.some.inj H
                            exact ev_vret rfl rfl rfl
                          · refine ev_b2 (t := 468) (p' := 442) rfl rfl rfl (if_neg c_53) ?_
                            refine ev_x (i := .aload_n 0) (len := 1) (p' := 443) (s' := [.ref 42]) rfl rfl rfl ?_
                            refine ev_gr (p' := 446) (v := 5) rfl rfl rfl ly_42 rfl rfl hr_42_4 ?_
                            refine ev_gc (p' := 449) (v := 12) rfl rfl rfl ly_5 rfl rfl ?_
                            refine ev_x (i := .iload_n 1) (len := 1) (p' := 450) (s' := [.int x_1, .ref 12]) rfl rfl rfl ?_
                            refine ev_x (i := .iload_n 2) (len := 1) (p' := 451) (s' := [.int x_2, .int x_1, .ref 12]) rfl rfl rfl ?_
                            refine ev_x (i := .aload_n 0) (len := 1) (p' := 452) (s' := [.ref 42, .int x_2, .int x_1, .ref 12]) rfl rfl rfl ?_
                            refine ev_x (i := .iload_n 1) (len := 1) (p' := 453) (s' := [.int x_1, .ref 42, .int x_2, .int x_1, .ref 12]) rfl rfl rfl ?_
                            obtain ⟨p_54, G_54, H⟩ := F_bd H
                            refine ev_cv (d := d + 1) (As := [.int x_1]) (a := 42) (p' := 456) rfl rfl rfl ly_42 rfl rfl rfl rfl rfl rfl rfl (F_77_ok (d := d + 0) (ht := (Or.inl rfl)) (hr_42_4 := hr_42_4) G_54) ?_
                            refine ev_st (st' := [.int p_54.1, .int x_2, .int x_1, .ref 12]) rfl ?_
                            have e_54 := F_77_R G_54
                            obtain ⟨p_55, G_55, H⟩ := F_bd H
                            refine ev_callS (d := d + 1) (As := [.int x_2, .int p_54.1]) rfl rfl rfl (by decide) rfl rfl rfl rfl rfl (F_78_ok (d := d + 0)   G_55) ?_
                            refine ev_st (st' := [.int p_55.1, .int x_1, .ref 12]) rfl ?_
                            refine ev_pc (pc' := 459) rfl ?_
                            have e_55 := F_78_R G_55
                            refine F_jn (A := vz_ev P0 (d + 2) 76 467 [(3, .int (gE (σ) 8 (x_1 : Int32).toNatClampNeg)), (0, .ref 42), (1, .int x_1), (2, .int x_2)] [.int (if p_55.1 = 0 then 0 else 1 : Int32), .int x_1, .ref 12] (hp (p_55.2)) (.inl none, hp p)) ?_ (fun J => ?_)
                            · obtain ⟨b_57, H⟩ := F_gd H
                              refine ev_pa (j := (x_1 : Int32).toNatClampNeg) (p' := 468) rfl rfl ly_12 rfl (gd_in b_57) rfl ?_
                              obtain rfl := Option.some.inj H
                              exact ev_vret rfl rfl rfl
                            · by_cases c_56 : p_55.1 = 0
                              · refine ev_b0 (t := 466) (p' := 466) rfl rfl rfl (if_pos c_56) ?_
                                refine ev_x (i := .iconst 0) (len := 1) (p' := 467) (s' := [.int 0, .int x_1, .ref 12]) rfl rfl rfl ?_
                                exact ev_st (congrArg (fun z => Value.int z :: [.int x_1, .ref 12]) (by rw [if_pos c_56])) J
                              · refine ev_b0 (t := 466) (p' := 462) rfl rfl rfl (if_neg c_56) ?_
                                refine ev_x (i := .iconst 1) (len := 1) (p' := 463) (s' := [.int 1, .int x_1, .ref 12]) rfl rfl rfl ?_
                                refine ev_x (i := .goto 4) (len := 3) (p' := 467) (s' := [.int 1, .int x_1, .ref 12]) rfl rfl rfl ?_
                                exact ev_st (congrArg (fun z => Value.int z :: [.int x_1, .ref 12]) (by rw [if_neg c_56])) J
  · refine ev_x (i := .aload_n 0) (len := 1) (p' := 1) (s' := [.ref 42]) rfl rfl rfl ?_
    refine ev_gr (p' := 4) (v := 21) rfl rfl rfl ly_42 rfl rfl hr_42_4 ?_
    refine ev_gc (p' := 7) (v := 24) rfl rfl rfl ly_21 rfl rfl ?_
    refine ev_x (i := .iload_n 1) (len := 1) (p' := 8) (s' := [.int x_1, .ref 24]) rfl rfl rfl ?_
    obtain ⟨b_1, H⟩ := F_gd H
    refine ev_ga (p' := 9) (v := (gE (σ) 24 (x_1 : Int32).toNatClampNeg)) rfl rfl ly_24 rfl (gd_in b_1) rfl ?_
    refine ev_x (i := .istore_n 3) (len := 1) (p' := 10) (s' := []) (l' := [(3, .int (gE (σ) 24 (x_1 : Int32).toNatClampNeg)), (0, .ref 42), (1, .int x_1), (2, .int x_2)]) rfl rfl rfl ?_
    refine ev_x (i := .iload_n 2) (len := 1) (p' := 11) (s' := [.int x_2]) rfl rfl rfl ?_
    refine F_if H (fun c_2 H => ?_) (fun c_2 H => ?_)
    · refine ev_st (st' := [.int 2]) (congrArg (fun z => Value.int z :: []) c_2) ?_
      refine ev_ts (off := 97) (t := 108) rfl rfl (by decide) rfl ?_
      refine ev_x (i := .aload_n 0) (len := 1) (p' := 109) (s' := [.ref 42]) rfl rfl rfl ?_
      refine ev_gr (p' := 112) (v := 21) rfl rfl rfl ly_42 rfl rfl hr_42_4 ?_
      refine ev_gc (p' := 115) (v := 28) rfl rfl rfl ly_21 rfl rfl ?_
      refine ev_x (i := .iload_n 1) (len := 1) (p' := 116) (s' := [.int x_1, .ref 28]) rfl rfl rfl ?_
      refine ev_x (i := .aload_n 0) (len := 1) (p' := 117) (s' := [.ref 42, .int x_1, .ref 28]) rfl rfl rfl ?_
      refine ev_gc (p' := 120) (v := 43) rfl rfl rfl ly_42 rfl rfl ?_
      refine ev_x (i := .iload_n 3) (len := 1) (p' := 121) (s' := [.int (gE (σ) 24 (x_1 : Int32).toNatClampNeg), .ref 43, .int x_1, .ref 28]) rfl rfl rfl ?_
      obtain ⟨b_3, H⟩ := F_gd H
      refine ev_ga (p' := 122) (v := (gE (σ) 43 ((gE (σ) 24 (x_1 : Int32).toNatClampNeg) : Int32).toNatClampNeg)) rfl rfl ly_43 rfl (gd_in b_3) rfl ?_
      obtain ⟨b_4, H⟩ := F_gd H
      refine ev_pa (j := (x_1 : Int32).toNatClampNeg) (p' := 123) rfl rfl ly_28 rfl (gd_in b_4) rfl ?_
      refine ev_x (i := .goto 345) (len := 3) (p' := 468) (s' := []) rfl rfl rfl ?_
      obtain rfl := Option.some.inj H
      exact ev_vret rfl rfl rfl
    · refine F_if H (fun c_5 H => ?_) (fun c_5 H => ?_)
      · refine ev_st (st' := [.int 3]) (congrArg (fun z => Value.int z :: []) c_5) ?_
        refine ev_ts (off := 115) (t := 126) rfl rfl (by decide) rfl ?_
        refine ev_x (i := .aload_n 0) (len := 1) (p' := 127) (s' := [.ref 42]) rfl rfl rfl ?_
        refine ev_gr (p' := 130) (v := 21) rfl rfl rfl ly_42 rfl rfl hr_42_4 ?_
        refine ev_x (i := .aload_n 0) (len := 1) (p' := 131) (s' := [.ref 42, .ref 21]) rfl rfl rfl ?_
        refine ev_gr (p' := 134) (v := 21) rfl rfl rfl ly_42 rfl rfl hr_42_4 ?_
        refine ev_gc (p' := 137) (v := 24) rfl rfl rfl ly_21 rfl rfl ?_
        refine ev_x (i := .aload_n 0) (len := 1) (p' := 138) (s' := [.ref 42, .ref 24, .ref 21]) rfl rfl rfl ?_
        refine ev_gr (p' := 141) (v := 20) rfl rfl rfl ly_42 rfl rfl hr_42_3 ?_
        refine ev_gc (p' := 144) (v := 34) rfl rfl rfl ly_20 rfl rfl ?_
        refine ev_x (i := .iload_n 3) (len := 1) (p' := 145) (s' := [.int (gE (σ) 24 (x_1 : Int32).toNatClampNeg), .ref 34, .ref 24, .ref 21]) rfl rfl rfl ?_
        obtain ⟨b_6, H⟩ := F_gd H
        refine ev_ga (p' := 146) (v := (gE (σ) 34 ((gE (σ) 24 (x_1 : Int32).toNatClampNeg) : Int32).toNatClampNeg)) rfl rfl ly_34 rfl (gd_in b_6) rfl ?_
        obtain ⟨b_7, H⟩ := F_gd H
        refine ev_ga (p' := 147) (v := (gE (σ) 24 ((gE (σ) 34 ((gE (σ) 24 (x_1 : Int32).toNatClampNeg) : Int32).toNatClampNeg) : Int32).toNatClampNeg)) rfl rfl ly_24 rfl (gd_in b_7) rfl ?_
        refine ev_x (i := .iload_n 1) (len := 1) (p' := 148) (s' := [.int x_1, .int (gE (σ) 24 ((gE (σ) 34 ((gE (σ) 24 (x_1 : Int32).toNatClampNeg) : Int32).toNatClampNeg) : Int32).toNatClampNeg), .ref 21]) rfl rfl rfl ?_
        obtain ⟨p_8, G_8, H⟩ := F_bd H
        refine ev_cv (d := d + 1) (As := [.int (gE (σ) 24 ((gE (σ) 34 ((gE (σ) 24 (x_1 : Int32).toNatClampNeg) : Int32).toNatClampNeg) : Int32).toNatClampNeg), .int x_1]) (a := 21) (p' := 151) rfl rfl rfl ly_21 rfl rfl rfl rfl rfl rfl rfl (F_62_ok (d := d + 0) (ht := (Or.inr rfl))  G_8) ?_
        refine ev_st (st' := []) rfl ?_
        have e_8 := F_62_R G_8
        refine ev_x (i := .goto 317) (len := 3) (p' := 468) (s' := []) rfl rfl rfl ?_
        obtain rfl := Option.some.inj H
        exact ev_vret rfl rfl rfl
      · refine F_if H (fun c_9 H => ?_) (fun c_9 H => ?_)
        · refine ev_st (st' := [.int 9]) (congrArg (fun z => Value.int z :: []) c_9) ?_
          refine ev_ts (off := 143) (t := 154) rfl rfl (by decide) rfl ?_
          refine ev_x (i := .aload_n 0) (len := 1) (p' := 155) (s' := [.ref 42]) rfl rfl rfl ?_
          refine ev_gr (p' := 158) (v := 21) rfl rfl rfl ly_42 rfl rfl hr_42_4 ?_
          refine ev_gc (p' := 161) (v := 28) rfl rfl rfl ly_21 rfl rfl ?_
          refine ev_x (i := .iload_n 1) (len := 1) (p' := 162) (s' := [.int x_1, .ref 28]) rfl rfl rfl ?_
          refine ev_x (i := .aload_n 0) (len := 1) (p' := 163) (s' := [.ref 42, .int x_1, .ref 28]) rfl rfl rfl ?_
          refine ev_gr (p' := 166) (v := 21) rfl rfl rfl ly_42 rfl rfl hr_42_4 ?_
          refine ev_gc (p' := 169) (v := 28) rfl rfl rfl ly_21 rfl rfl ?_
          refine ev_x (i := .iload_n 3) (len := 1) (p' := 170) (s' := [.int (gE (σ) 24 (x_1 : Int32).toNatClampNeg), .ref 28, .int x_1, .ref 28]) rfl rfl rfl ?_
          obtain ⟨b_10, H⟩ := F_gd H
          refine ev_ga (p' := 171) (v := (gE (σ) 28 ((gE (σ) 24 (x_1 : Int32).toNatClampNeg) : Int32).toNatClampNeg)) rfl rfl ly_28 rfl (gd_in b_10) rfl ?_
          refine ev_x (i := .ineg) (len := 1) (p' := 172) (s' := [.int (-(gE (σ) 28 ((gE (σ) 24 (x_1 : Int32).toNatClampNeg) : Int32).toNatClampNeg)), .int x_1, .ref 28]) rfl rfl rfl ?_
          obtain ⟨b_11, H⟩ := F_gd H
          refine ev_pa (j := (x_1 : Int32).toNatClampNeg) (p' := 173) rfl rfl ly_28 rfl (gd_in b_11) rfl ?_
          refine ev_x (i := .aload_n 0) (len := 1) (p' := 174) (s' := [.ref 42]) rfl rfl rfl ?_
          refine ev_gr (p' := 177) (v := 21) rfl rfl rfl ly_42 rfl rfl hr_42_4 ?_
          refine ev_gc (p' := 180) (v := 29) rfl rfl rfl ly_21 rfl rfl ?_
          refine ev_x (i := .iload_n 1) (len := 1) (p' := 181) (s' := [.int x_1, .ref 29]) rfl rfl rfl ?_
          refine ev_x (i := .aload_n 0) (len := 1) (p' := 182) (s' := [.ref 42, .int x_1, .ref 29]) rfl rfl rfl ?_
          refine ev_gr (p' := 185) (v := 21) rfl rfl rfl ly_42 rfl rfl hr_42_4 ?_
          refine ev_gc (p' := 188) (v := 29) rfl rfl rfl ly_21 rfl rfl ?_
          refine ev_x (i := .iload_n 3) (len := 1) (p' := 189) (s' := [.int (gE (σ) 24 (x_1 : Int32).toNatClampNeg), .ref 29, .int x_1, .ref 29]) rfl rfl rfl ?_
          obtain ⟨b_12, H⟩ := F_gd H
          refine ev_ga (p' := 190) (v := (gE (σ) 29 ((gE (σ) 24 (x_1 : Int32).toNatClampNeg) : Int32).toNatClampNeg)) rfl rfl ly_29 rfl (gd_in b_12) rfl ?_
          obtain ⟨b_13, H⟩ := F_gd H
          refine ev_pa (j := (x_1 : Int32).toNatClampNeg) (p' := 191) rfl rfl ly_29 rfl (gd_in b_13) rfl ?_
          refine ev_x (i := .goto 277) (len := 3) (p' := 468) (s' := []) rfl rfl rfl ?_
          obtain rfl := Option.some.inj H
          exact ev_vret rfl rfl rfl
        · refine F_if H (fun c_14 H => ?_) (fun c_14 H => ?_)
          · refine ev_st (st' := [.int 16]) (congrArg (fun z => Value.int z :: []) c_14) ?_
            refine ev_ts (off := 183) (t := 194) rfl rfl (by decide) rfl ?_
            refine ev_x (i := .aload_n 0) (len := 1) (p' := 195) (s' := [.ref 42]) rfl rfl rfl ?_
            refine ev_gr (p' := 198) (v := 21) rfl rfl rfl ly_42 rfl rfl hr_42_4 ?_
            refine ev_gc (p' := 201) (v := 28) rfl rfl rfl ly_21 rfl rfl ?_
            refine ev_x (i := .iload_n 1) (len := 1) (p' := 202) (s' := [.int x_1, .ref 28]) rfl rfl rfl ?_
            refine ev_x (i := .iconst 1) (len := 1) (p' := 203) (s' := [.int 1, .int x_1, .ref 28]) rfl rfl rfl ?_
            refine ev_x (i := .aload_n 0) (len := 1) (p' := 204) (s' := [.ref 42, .int 1, .int x_1, .ref 28]) rfl rfl rfl ?_
            refine ev_gr (p' := 207) (v := 21) rfl rfl rfl ly_42 rfl rfl hr_42_4 ?_
            refine ev_gc (p' := 210) (v := 28) rfl rfl rfl ly_21 rfl rfl ?_
            refine ev_x (i := .iload_n 3) (len := 1) (p' := 211) (s' := [.int (gE (σ) 24 (x_1 : Int32).toNatClampNeg), .ref 28, .int 1, .int x_1, .ref 28]) rfl rfl rfl ?_
            obtain ⟨b_15, H⟩ := F_gd H
            refine ev_ga (p' := 212) (v := (gE (σ) 28 ((gE (σ) 24 (x_1 : Int32).toNatClampNeg) : Int32).toNatClampNeg)) rfl rfl ly_28 rfl (gd_in b_15) rfl ?_
            refine ev_x (i := .isub) (len := 1) (p' := 213) (s' := [.int (1 - (gE (σ) 28 ((gE (σ) 24 (x_1 : Int32).toNatClampNeg) : Int32).toNatClampNeg)), .int x_1, .ref 28]) rfl rfl rfl ?_
            obtain ⟨b_16, H⟩ := F_gd H
            refine ev_pa (j := (x_1 : Int32).toNatClampNeg) (p' := 214) rfl rfl ly_28 rfl (gd_in b_16) rfl ?_
            refine ev_x (i := .goto 254) (len := 3) (p' := 468) (s' := []) rfl rfl rfl ?_
            obtain rfl := Option.some.inj H
            exact ev_vret rfl rfl rfl
          · refine F_if H (fun c_17 H => ?_) (fun c_17 H => ?_)
            · refine ev_st (st' := [.int 17]) (congrArg (fun z => Value.int z :: []) c_17) ?_
              refine ev_ts (off := 206) (t := 217) rfl rfl (by decide) rfl ?_
              refine ev_x (i := .aload_n 0) (len := 1) (p' := 218) (s' := [.ref 42]) rfl rfl rfl ?_
              refine ev_gr (p' := 221) (v := 21) rfl rfl rfl ly_42 rfl rfl hr_42_4 ?_
              refine ev_gc (p' := 224) (v := 28) rfl rfl rfl ly_21 rfl rfl ?_
              refine ev_x (i := .iload_n 1) (len := 1) (p' := 225) (s' := [.int x_1, .ref 28]) rfl rfl rfl ?_
              refine ev_x (i := .aload_n 0) (len := 1) (p' := 226) (s' := [.ref 42, .int x_1, .ref 28]) rfl rfl rfl ?_
              refine ev_gr (p' := 229) (v := 21) rfl rfl rfl ly_42 rfl rfl hr_42_4 ?_
              refine ev_gc (p' := 232) (v := 28) rfl rfl rfl ly_21 rfl rfl ?_
              refine ev_x (i := .iload_n 3) (len := 1) (p' := 233) (s' := [.int (gE (σ) 24 (x_1 : Int32).toNatClampNeg), .ref 28, .int x_1, .ref 28]) rfl rfl rfl ?_
              obtain ⟨b_18, H⟩ := F_gd H
              refine ev_ga (p' := 234) (v := (gE (σ) 28 ((gE (σ) 24 (x_1 : Int32).toNatClampNeg) : Int32).toNatClampNeg)) rfl rfl ly_28 rfl (gd_in b_18) rfl ?_
              refine ev_x (i := .iconst 1) (len := 1) (p' := 235) (s' := [.int 1, .int (gE (σ) 28 ((gE (σ) 24 (x_1 : Int32).toNatClampNeg) : Int32).toNatClampNeg), .int x_1, .ref 28]) rfl rfl rfl ?_
              refine F_if H (fun c_19 H => ?_) (fun c_19 H => ?_)
              · refine ev_b2 (t := 258) (p' := 238) rfl rfl rfl (if_neg (fun q => q c_19)) ?_
                refine ev_x (i := .aload_n 0) (len := 1) (p' := 239) (s' := [.ref 42, .int x_1, .ref 28]) rfl rfl rfl ?_
                refine ev_gr (p' := 242) (v := 21) rfl rfl rfl ly_42 rfl rfl hr_42_4 ?_
                refine ev_gc (p' := 245) (v := 28) rfl rfl rfl ly_21 rfl rfl ?_
                refine ev_x (i := .aload_n 0) (len := 1) (p' := 246) (s' := [.ref 42, .ref 28, .int x_1, .ref 28]) rfl rfl rfl ?_
                refine ev_gr (p' := 249) (v := 21) rfl rfl rfl ly_42 rfl rfl hr_42_4 ?_
                refine ev_gc (p' := 252) (v := 25) rfl rfl rfl ly_21 rfl rfl ?_
                refine ev_x (i := .iload_n 1) (len := 1) (p' := 253) (s' := [.int x_1, .ref 25, .ref 28, .int x_1, .ref 28]) rfl rfl rfl ?_
                obtain ⟨b_20, H⟩ := F_gd H
                refine ev_ga (p' := 254) (v := (gE (σ) 25 (x_1 : Int32).toNatClampNeg)) rfl rfl ly_25 rfl (gd_in b_20) rfl ?_
                obtain ⟨b_21, H⟩ := F_gd H
                refine ev_ga (p' := 255) (v := (gE (σ) 28 ((gE (σ) 25 (x_1 : Int32).toNatClampNeg) : Int32).toNatClampNeg)) rfl rfl ly_28 rfl (gd_in b_21) rfl ?_
                refine ev_x (i := .goto 4) (len := 3) (p' := 259) (s' := [.int (gE (σ) 28 ((gE (σ) 25 (x_1 : Int32).toNatClampNeg) : Int32).toNatClampNeg), .int x_1, .ref 28]) rfl rfl rfl ?_
                obtain ⟨b_22, H⟩ := F_gd H
                refine ev_pa (j := (x_1 : Int32).toNatClampNeg) (p' := 260) rfl rfl ly_28 rfl (gd_in b_22) rfl ?_
                refine ev_x (i := .goto 208) (len := 3) (p' := 468) (s' := []) rfl rfl rfl ?_
                obtain rfl := Option.some.inj H
                exact ev_vret rfl rfl rfl
              · refine ev_b2 (t := 258) (p' := 258) rfl rfl rfl (if_pos c_19) ?_
                refine ev_x (i := .iconst 0) (len := 1) (p' := 259) (s' := [.int 0, .int x_1, .ref 28]) rfl rfl rfl ?_
                obtain ⟨b_23, H⟩ := F_gd H
                refine ev_pa (j := (x_1 : Int32).toNatClampNeg) (p' := 260) rfl rfl ly_28 rfl (gd_in b_23) rfl ?_
                refine ev_x (i := .goto 208) (len := 3) (p' := 468) (s' := []) rfl rfl rfl ?_
                obtain rfl := Option.some.inj H
                exact ev_vret rfl rfl rfl
            · refine F_if H (fun c_24 H => ?_) (fun c_24 H => ?_)
              · refine ev_st (st' := [.int 18]) (congrArg (fun z => Value.int z :: []) c_24) ?_
                refine ev_ts (off := 252) (t := 263) rfl rfl (by decide) rfl ?_
                refine ev_x (i := .aload_n 0) (len := 1) (p' := 264) (s' := [.ref 42]) rfl rfl rfl ?_
                refine ev_gr (p' := 267) (v := 21) rfl rfl rfl ly_42 rfl rfl hr_42_4 ?_
                refine ev_gc (p' := 270) (v := 28) rfl rfl rfl ly_21 rfl rfl ?_
                refine ev_x (i := .iload_n 1) (len := 1) (p' := 271) (s' := [.int x_1, .ref 28]) rfl rfl rfl ?_
                refine ev_x (i := .aload_n 0) (len := 1) (p' := 272) (s' := [.ref 42, .int x_1, .ref 28]) rfl rfl rfl ?_
                refine ev_gr (p' := 275) (v := 21) rfl rfl rfl ly_42 rfl rfl hr_42_4 ?_
                refine ev_gc (p' := 278) (v := 28) rfl rfl rfl ly_21 rfl rfl ?_
                refine ev_x (i := .iload_n 3) (len := 1) (p' := 279) (s' := [.int (gE (σ) 24 (x_1 : Int32).toNatClampNeg), .ref 28, .int x_1, .ref 28]) rfl rfl rfl ?_
                obtain ⟨b_25, H⟩ := F_gd H
                refine ev_ga (p' := 280) (v := (gE (σ) 28 ((gE (σ) 24 (x_1 : Int32).toNatClampNeg) : Int32).toNatClampNeg)) rfl rfl ly_28 rfl (gd_in b_25) rfl ?_
                refine ev_x (i := .iconst 1) (len := 1) (p' := 281) (s' := [.int 1, .int (gE (σ) 28 ((gE (σ) 24 (x_1 : Int32).toNatClampNeg) : Int32).toNatClampNeg), .int x_1, .ref 28]) rfl rfl rfl ?_
                refine F_if H (fun c_26 H => ?_) (fun c_26 H => ?_)
                · refine ev_b2 (t := 288) (p' := 284) rfl rfl rfl (if_neg (fun q => q c_26)) ?_
                  refine ev_x (i := .iconst 1) (len := 1) (p' := 285) (s' := [.int 1, .int x_1, .ref 28]) rfl rfl rfl ?_
                  refine ev_x (i := .goto 20) (len := 3) (p' := 305) (s' := [.int 1, .int x_1, .ref 28]) rfl rfl rfl ?_
                  obtain ⟨b_27, H⟩ := F_gd H
                  refine ev_pa (j := (x_1 : Int32).toNatClampNeg) (p' := 306) rfl rfl ly_28 rfl (gd_in b_27) rfl ?_
                  refine ev_x (i := .goto 162) (len := 3) (p' := 468) (s' := []) rfl rfl rfl ?_
                  obtain rfl := Option.some.inj H
                  exact ev_vret rfl rfl rfl
                · refine ev_b2 (t := 288) (p' := 288) rfl rfl rfl (if_pos c_26) ?_
                  refine ev_x (i := .aload_n 0) (len := 1) (p' := 289) (s' := [.ref 42, .int x_1, .ref 28]) rfl rfl rfl ?_
                  refine ev_gr (p' := 292) (v := 21) rfl rfl rfl ly_42 rfl rfl hr_42_4 ?_
                  refine ev_gc (p' := 295) (v := 28) rfl rfl rfl ly_21 rfl rfl ?_
                  refine ev_x (i := .aload_n 0) (len := 1) (p' := 296) (s' := [.ref 42, .ref 28, .int x_1, .ref 28]) rfl rfl rfl ?_
                  refine ev_gr (p' := 299) (v := 21) rfl rfl rfl ly_42 rfl rfl hr_42_4 ?_
                  refine ev_gc (p' := 302) (v := 25) rfl rfl rfl ly_21 rfl rfl ?_
                  refine ev_x (i := .iload_n 1) (len := 1) (p' := 303) (s' := [.int x_1, .ref 25, .ref 28, .int x_1, .ref 28]) rfl rfl rfl ?_
                  obtain ⟨b_28, H⟩ := F_gd H
                  refine ev_ga (p' := 304) (v := (gE (σ) 25 (x_1 : Int32).toNatClampNeg)) rfl rfl ly_25 rfl (gd_in b_28) rfl ?_
                  obtain ⟨b_29, H⟩ := F_gd H
                  refine ev_ga (p' := 305) (v := (gE (σ) 28 ((gE (σ) 25 (x_1 : Int32).toNatClampNeg) : Int32).toNatClampNeg)) rfl rfl ly_28 rfl (gd_in b_29) rfl ?_
                  obtain ⟨b_30, H⟩ := F_gd H
                  refine ev_pa (j := (x_1 : Int32).toNatClampNeg) (p' := 306) rfl rfl ly_28 rfl (gd_in b_30) rfl ?_
                  refine ev_x (i := .goto 162) (len := 3) (p' := 468) (s' := []) rfl rfl rfl ?_
                  obtain rfl := Option.some.inj H
                  exact ev_vret rfl rfl rfl
              · refine F_if H (fun c_31 H => ?_) (fun c_31 H => ?_)
                · refine ev_st (st' := [.int 19]) (congrArg (fun z => Value.int z :: []) c_31) ?_
                  refine ev_ts (off := 298) (t := 309) rfl rfl (by decide) rfl ?_
                  refine ev_x (i := .aload_n 0) (len := 1) (p' := 310) (s' := [.ref 42]) rfl rfl rfl ?_
                  refine ev_gr (p' := 313) (v := 21) rfl rfl rfl ly_42 rfl rfl hr_42_4 ?_
                  refine ev_x (i := .aload_n 0) (len := 1) (p' := 314) (s' := [.ref 42, .ref 21]) rfl rfl rfl ?_
                  refine ev_gr (p' := 317) (v := 21) rfl rfl rfl ly_42 rfl rfl hr_42_4 ?_
                  refine ev_gc (p' := 320) (v := 28) rfl rfl rfl ly_21 rfl rfl ?_
                  refine ev_x (i := .iload_n 3) (len := 1) (p' := 321) (s' := [.int (gE (σ) 24 (x_1 : Int32).toNatClampNeg), .ref 28, .ref 21]) rfl rfl rfl ?_
                  obtain ⟨b_32, H⟩ := F_gd H
                  refine ev_ga (p' := 322) (v := (gE (σ) 28 ((gE (σ) 24 (x_1 : Int32).toNatClampNeg) : Int32).toNatClampNeg)) rfl rfl ly_28 rfl (gd_in b_32) rfl ?_
                  refine ev_x (i := .iconst 1) (len := 1) (p' := 323) (s' := [.int 1, .int (gE (σ) 28 ((gE (σ) 24 (x_1 : Int32).toNatClampNeg) : Int32).toNatClampNeg), .ref 21]) rfl rfl rfl ?_
                  refine F_if H (fun c_33 H => ?_) (fun c_33 H => ?_)
                  · refine ev_b2 (t := 338) (p' := 326) rfl rfl rfl (if_neg (fun q => q c_33)) ?_
                    refine ev_x (i := .aload_n 0) (len := 1) (p' := 327) (s' := [.ref 42, .ref 21]) rfl rfl rfl ?_
                    refine ev_gr (p' := 330) (v := 21) rfl rfl rfl ly_42 rfl rfl hr_42_4 ?_
                    refine ev_gc (p' := 333) (v := 25) rfl rfl rfl ly_21 rfl rfl ?_
                    refine ev_x (i := .iload_n 1) (len := 1) (p' := 334) (s' := [.int x_1, .ref 25, .ref 21]) rfl rfl rfl ?_
                    obtain ⟨b_34, H⟩ := F_gd H
                    refine ev_ga (p' := 335) (v := (gE (σ) 25 (x_1 : Int32).toNatClampNeg)) rfl rfl ly_25 rfl (gd_in b_34) rfl ?_
                    refine ev_x (i := .goto 12) (len := 3) (p' := 347) (s' := [.int (gE (σ) 25 (x_1 : Int32).toNatClampNeg), .ref 21]) rfl rfl rfl ?_
                    refine ev_x (i := .iload_n 1) (len := 1) (p' := 348) (s' := [.int x_1, .int (gE (σ) 25 (x_1 : Int32).toNatClampNeg), .ref 21]) rfl rfl rfl ?_
                    obtain ⟨p_35, G_35, H⟩ := F_bd H
                    refine ev_cv (d := d + 1) (As := [.int (gE (σ) 25 (x_1 : Int32).toNatClampNeg), .int x_1]) (a := 21) (p' := 351) rfl rfl rfl ly_21 rfl rfl rfl rfl rfl rfl rfl (F_62_ok (d := d + 0) (ht := (Or.inr rfl))  G_35) ?_
                    refine ev_st (st' := []) rfl ?_
                    have e_35 := F_62_R G_35
                    refine ev_x (i := .goto 117) (len := 3) (p' := 468) (s' := []) rfl rfl rfl ?_
                    obtain rfl := Option.some.inj H
                    exact ev_vret rfl rfl rfl
                  · refine ev_b2 (t := 338) (p' := 338) rfl rfl rfl (if_pos c_33) ?_
                    refine ev_x (i := .aload_n 0) (len := 1) (p' := 339) (s' := [.ref 42, .ref 21]) rfl rfl rfl ?_
                    refine ev_gr (p' := 342) (v := 21) rfl rfl rfl ly_42 rfl rfl hr_42_4 ?_
                    refine ev_gc (p' := 345) (v := 26) rfl rfl rfl ly_21 rfl rfl ?_
                    refine ev_x (i := .iload_n 1) (len := 1) (p' := 346) (s' := [.int x_1, .ref 26, .ref 21]) rfl rfl rfl ?_
                    obtain ⟨b_36, H⟩ := F_gd H
                    refine ev_ga (p' := 347) (v := (gE (σ) 26 (x_1 : Int32).toNatClampNeg)) rfl rfl ly_26 rfl (gd_in b_36) rfl ?_
                    refine ev_x (i := .iload_n 1) (len := 1) (p' := 348) (s' := [.int x_1, .int (gE (σ) 26 (x_1 : Int32).toNatClampNeg), .ref 21]) rfl rfl rfl ?_
                    obtain ⟨p_37, G_37, H⟩ := F_bd H
                    refine ev_cv (d := d + 1) (As := [.int (gE (σ) 26 (x_1 : Int32).toNatClampNeg), .int x_1]) (a := 21) (p' := 351) rfl rfl rfl ly_21 rfl rfl rfl rfl rfl rfl rfl (F_62_ok (d := d + 0) (ht := (Or.inr rfl))  G_37) ?_
                    refine ev_st (st' := []) rfl ?_
                    have e_37 := F_62_R G_37
                    refine ev_x (i := .goto 117) (len := 3) (p' := 468) (s' := []) rfl rfl rfl ?_
                    obtain rfl := Option.some.inj H
                    exact ev_vret rfl rfl rfl
                · refine F_if H (fun c_38 H => ?_) (fun c_38 H => ?_)
                  · refine ev_st (st' := [.int 20]) (congrArg (fun z => Value.int z :: []) c_38) ?_
                    refine ev_ts (off := 343) (t := 354) rfl rfl (by decide) rfl ?_
                    refine ev_x (i := .aload_n 0) (len := 1) (p' := 355) (s' := [.ref 42]) rfl rfl rfl ?_
                    refine ev_gr (p' := 358) (v := 21) rfl rfl rfl ly_42 rfl rfl hr_42_4 ?_
                    refine ev_x (i := .aload_n 0) (len := 1) (p' := 359) (s' := [.ref 42, .ref 21]) rfl rfl rfl ?_
                    refine ev_x (i := .iload_n 1) (len := 1) (p' := 360) (s' := [.int x_1, .ref 42, .ref 21]) rfl rfl rfl ?_
                    obtain ⟨p_39, G_39, H⟩ := F_bd H
                    refine ev_cv (d := d + 1) (As := [.int x_1]) (a := 42) (p' := 363) rfl rfl rfl ly_42 rfl rfl rfl rfl rfl rfl rfl (F_77_ok (d := d + 0) (ht := (Or.inr rfl)) (hr_42_4 := hr_42_4) G_39) ?_
                    refine ev_st (st' := [.int p_39.1, .ref 21]) rfl ?_
                    have e_39 := F_77_R G_39
                    refine F_if H (fun c_40 H => ?_) (fun c_40 H => ?_)
                    · refine ev_b0 (t := 370) (p' := 370) rfl rfl rfl (if_pos c_40) ?_
                      refine ev_x (i := .aload_n 0) (len := 1) (p' := 371) (s' := [.ref 42, .ref 21]) rfl rfl rfl ?_
                      refine ev_gr (p' := 374) (v := 21) rfl rfl rfl ly_42 rfl rfl ((congrFun (congrFun e_39 42) 4).trans hr_42_4) ?_
                      refine ev_gc (p' := 377) (v := 25) rfl rfl rfl ly_21 rfl rfl ?_
                      refine ev_x (i := .iload_n 1) (len := 1) (p' := 378) (s' := [.int x_1, .ref 25, .ref 21]) rfl rfl rfl ?_
                      obtain ⟨b_41, H⟩ := F_gd H
                      refine ev_ga (p' := 379) (v := (gE (p_39.2) 25 (x_1 : Int32).toNatClampNeg)) rfl rfl ly_25 rfl (gd_in b_41) rfl ?_
                      refine ev_x (i := .iload_n 1) (len := 1) (p' := 380) (s' := [.int x_1, .int (gE (p_39.2) 25 (x_1 : Int32).toNatClampNeg), .ref 21]) rfl rfl rfl ?_
                      obtain ⟨p_42, G_42, H⟩ := F_bd H
                      refine ev_cv (d := d + 1) (As := [.int (gE (p_39.2) 25 (x_1 : Int32).toNatClampNeg), .int x_1]) (a := 21) (p' := 383) rfl rfl rfl ly_21 rfl rfl rfl rfl rfl rfl rfl (F_62_ok (d := d + 0) (ht := (Or.inr rfl))  G_42) ?_
                      refine ev_st (st' := []) rfl ?_
                      have e_42 := F_62_R G_42
                      refine ev_x (i := .goto 85) (len := 3) (p' := 468) (s' := []) rfl rfl rfl ?_
                      obtain rfl := Option.some.inj H
                      exact ev_vret rfl rfl rfl
                    · refine ev_b0 (t := 370) (p' := 366) rfl rfl rfl (if_neg c_40) ?_
                      refine ev_x (i := .iload_n 3) (len := 1) (p' := 367) (s' := [.int (gE (σ) 24 (x_1 : Int32).toNatClampNeg), .ref 21]) rfl rfl rfl ?_
                      refine ev_x (i := .goto 12) (len := 3) (p' := 379) (s' := [.int (gE (σ) 24 (x_1 : Int32).toNatClampNeg), .ref 21]) rfl rfl rfl ?_
                      refine ev_x (i := .iload_n 1) (len := 1) (p' := 380) (s' := [.int x_1, .int (gE (σ) 24 (x_1 : Int32).toNatClampNeg), .ref 21]) rfl rfl rfl ?_
                      obtain ⟨p_43, G_43, H⟩ := F_bd H
                      refine ev_cv (d := d + 1) (As := [.int (gE (σ) 24 (x_1 : Int32).toNatClampNeg), .int x_1]) (a := 21) (p' := 383) rfl rfl rfl ly_21 rfl rfl rfl rfl rfl rfl rfl (F_62_ok (d := d + 0) (ht := (Or.inr rfl))  G_43) ?_
                      refine ev_st (st' := []) rfl ?_
                      have e_43 := F_62_R G_43
                      refine ev_x (i := .goto 85) (len := 3) (p' := 468) (s' := []) rfl rfl rfl ?_
                      obtain rfl := Option.some.inj H
                      exact ev_vret rfl rfl rfl
                  · refine F_if H (fun c_44 H => ?_) (fun c_44 H => ?_)
                    · refine ev_st (st' := [.int 21]) (congrArg (fun z => Value.int z :: []) c_44) ?_
                      refine ev_ts (off := 375) (t := 386) rfl rfl (by decide) rfl ?_
                      refine ev_x (i := .aload_n 0) (len := 1) (p' := 387) (s' := [.ref 42]) rfl rfl rfl ?_
                      refine ev_gr (p' := 390) (v := 21) rfl rfl rfl ly_42 rfl rfl hr_42_4 ?_
                      refine ev_x (i := .aload_n 0) (len := 1) (p' := 391) (s' := [.ref 42, .ref 21]) rfl rfl rfl ?_
                      refine ev_x (i := .iload_n 1) (len := 1) (p' := 392) (s' := [.int x_1, .ref 42, .ref 21]) rfl rfl rfl ?_
                      obtain ⟨p_45, G_45, H⟩ := F_bd H
                      refine ev_cv (d := d + 1) (As := [.int x_1]) (a := 42) (p' := 395) rfl rfl rfl ly_42 rfl rfl rfl rfl rfl rfl rfl (F_77_ok (d := d + 0) (ht := (Or.inr rfl)) (hr_42_4 := hr_42_4) G_45) ?_
                      refine ev_st (st' := [.int p_45.1, .ref 21]) rfl ?_
                      have e_45 := F_77_R G_45
                      refine F_if H (fun c_46 H => ?_) (fun c_46 H => ?_)
                      · refine ev_b0 (t := 402) (p' := 402) rfl rfl rfl (if_pos c_46) ?_
                        refine ev_x (i := .aload_n 0) (len := 1) (p' := 403) (s' := [.ref 42, .ref 21]) rfl rfl rfl ?_
                        refine ev_gr (p' := 406) (v := 21) rfl rfl rfl ly_42 rfl rfl ((congrFun (congrFun e_45 42) 4).trans hr_42_4) ?_
                        refine ev_gc (p' := 409) (v := 25) rfl rfl rfl ly_21 rfl rfl ?_
                        refine ev_x (i := .iload_n 1) (len := 1) (p' := 410) (s' := [.int x_1, .ref 25, .ref 21]) rfl rfl rfl ?_
                        obtain ⟨b_47, H⟩ := F_gd H
                        refine ev_ga (p' := 411) (v := (gE (p_45.2) 25 (x_1 : Int32).toNatClampNeg)) rfl rfl ly_25 rfl (gd_in b_47) rfl ?_
                        refine ev_x (i := .iload_n 1) (len := 1) (p' := 412) (s' := [.int x_1, .int (gE (p_45.2) 25 (x_1 : Int32).toNatClampNeg), .ref 21]) rfl rfl rfl ?_
                        obtain ⟨p_48, G_48, H⟩ := F_bd H
                        refine ev_cv (d := d + 1) (As := [.int (gE (p_45.2) 25 (x_1 : Int32).toNatClampNeg), .int x_1]) (a := 21) (p' := 415) rfl rfl rfl ly_21 rfl rfl rfl rfl rfl rfl rfl (F_62_ok (d := d + 0) (ht := (Or.inr rfl))  G_48) ?_
                        refine ev_st (st' := []) rfl ?_
                        have e_48 := F_62_R G_48
                        refine ev_x (i := .goto 53) (len := 3) (p' := 468) (s' := []) rfl rfl rfl ?_
                        obtain rfl := Option.some.inj H
                        exact ev_vret rfl rfl rfl
                      · refine ev_b0 (t := 402) (p' := 398) rfl rfl rfl (if_neg c_46) ?_
                        refine ev_x (i := .iload_n 3) (len := 1) (p' := 399) (s' := [.int (gE (σ) 24 (x_1 : Int32).toNatClampNeg), .ref 21]) rfl rfl rfl ?_
                        refine ev_x (i := .goto 12) (len := 3) (p' := 411) (s' := [.int (gE (σ) 24 (x_1 : Int32).toNatClampNeg), .ref 21]) rfl rfl rfl ?_
                        refine ev_x (i := .iload_n 1) (len := 1) (p' := 412) (s' := [.int x_1, .int (gE (σ) 24 (x_1 : Int32).toNatClampNeg), .ref 21]) rfl rfl rfl ?_
                        obtain ⟨p_49, G_49, H⟩ := F_bd H
                        refine ev_cv (d := d + 1) (As := [.int (gE (σ) 24 (x_1 : Int32).toNatClampNeg), .int x_1]) (a := 21) (p' := 415) rfl rfl rfl ly_21 rfl rfl rfl rfl rfl rfl rfl (F_62_ok (d := d + 0) (ht := (Or.inr rfl))  G_49) ?_
                        refine ev_st (st' := []) rfl ?_
                        have e_49 := F_62_R G_49
                        refine ev_x (i := .goto 53) (len := 3) (p' := 468) (s' := []) rfl rfl rfl ?_
                        obtain rfl := Option.some.inj H
                        exact ev_vret rfl rfl rfl
                    · refine F_if H (fun c_50 H => ?_) (fun c_50 H => ?_)
                      · refine ev_st (st' := [.int 22]) (congrArg (fun z => Value.int z :: []) c_50) ?_
                        refine ev_ts (off := 407) (t := 418) rfl rfl (by decide) rfl ?_
                        refine ev_x (i := .aload_n 0) (len := 1) (p' := 419) (s' := [.ref 42]) rfl rfl rfl ?_
                        refine ev_gr (p' := 422) (v := 21) rfl rfl rfl ly_42 rfl rfl hr_42_4 ?_
                        refine ev_x (i := .iload_n 3) (len := 1) (p' := 423) (s' := [.int (gE (σ) 24 (x_1 : Int32).toNatClampNeg), .ref 21]) rfl rfl rfl ?_
                        refine ev_x (i := .iload_n 1) (len := 1) (p' := 424) (s' := [.int x_1, .int (gE (σ) 24 (x_1 : Int32).toNatClampNeg), .ref 21]) rfl rfl rfl ?_
                        obtain ⟨p_51, G_51, H⟩ := F_bd H
                        refine ev_cv (d := d + 1) (As := [.int (gE (σ) 24 (x_1 : Int32).toNatClampNeg), .int x_1]) (a := 21) (p' := 427) rfl rfl rfl ly_21 rfl rfl rfl rfl rfl rfl rfl (F_62_ok (d := d + 0) (ht := (Or.inr rfl))  G_51) ?_
                        refine ev_st (st' := []) rfl ?_
                        have e_51 := F_62_R G_51
                        refine ev_x (i := .goto 41) (len := 3) (p' := 468) (s' := []) rfl rfl rfl ?_
                        obtain rfl := Option.some.inj H
                        exact ev_vret rfl rfl rfl
                      · have n_2 : (2 : Int) ≠ (x_2 : Int32).toInt := i32_ne (k := 2) (by decide) c_2
                        have n_3 : (3 : Int) ≠ (x_2 : Int32).toInt := i32_ne (k := 3) (by decide) c_5
                        have n_9 : (9 : Int) ≠ (x_2 : Int32).toInt := i32_ne (k := 9) (by decide) c_9
                        have n_16 : (16 : Int) ≠ (x_2 : Int32).toInt := i32_ne (k := 16) (by decide) c_14
                        have n_17 : (17 : Int) ≠ (x_2 : Int32).toInt := i32_ne (k := 17) (by decide) c_17
                        have n_18 : (18 : Int) ≠ (x_2 : Int32).toInt := i32_ne (k := 18) (by decide) c_24
                        have n_19 : (19 : Int) ≠ (x_2 : Int32).toInt := i32_ne (k := 19) (by decide) c_31
                        have n_20 : (20 : Int) ≠ (x_2 : Int32).toInt := i32_ne (k := 20) (by decide) c_38
                        have n_21 : (21 : Int) ≠ (x_2 : Int32).toInt := i32_ne (k := 21) (by decide) c_44
                        have n_22 : (22 : Int) ≠ (x_2 : Int32).toInt := i32_ne (k := 22) (by decide) c_50
                        refine ev_ts (off := 419) (t := 430) rfl rfl ?hsw rfl ?_
                        case hsw =>
                          by_cases hq : (x_2 : Int32).toInt < 2 ∨ 22 < (x_2 : Int32).toInt
                          · exact if_pos hq
                          · rw [if_neg hq]
                            have hw : (x_2 : Int32).toInt = 4 ∨ (x_2 : Int32).toInt = 5 ∨ (x_2 : Int32).toInt = 6 ∨ (x_2 : Int32).toInt = 7 ∨ (x_2 : Int32).toInt = 8 ∨ (x_2 : Int32).toInt = 10 ∨ (x_2 : Int32).toInt = 11 ∨ (x_2 : Int32).toInt = 12 ∨ (x_2 : Int32).toInt = 13 ∨ (x_2 : Int32).toInt = 14 ∨ (x_2 : Int32).toInt = 15 := by omega
                            rcases hw with hw | hw | hw | hw | hw | hw | hw | hw | hw | hw | hw <;> rw [hw] <;> rfl
                        refine ev_x (i := .iload_n 2) (len := 1) (p' := 431) (s' := [.int x_2]) rfl rfl rfl ?_
                        refine ev_x (i := .bipush 10) (len := 2) (p' := 433) (s' := [.int 10, .int x_2]) rfl rfl rfl ?_
                        refine F_if H (fun c_52 H => ?_) (fun c_52 H => ?_)
                        · refine ev_b2 (t := 468) (p' := 468) rfl rfl rfl (if_pos c_52) ?_
                          obtain rfl := Option.some.inj H
                          exact ev_vret rfl rfl rfl
                        · refine ev_b2 (t := 468) (p' := 436) rfl rfl rfl (if_neg c_52) ?_
                          refine ev_x (i := .iload_n 2) (len := 1) (p' := 437) (s' := [.int x_2]) rfl rfl rfl ?_
                          refine ev_x (i := .bipush 15) (len := 2) (p' := 439) (s' := [.int 15, .int x_2]) rfl rfl rfl ?_
                          refine F_if H (fun c_53 H => ?_) (fun c_53 H => ?_)
                          · refine ev_b2 (t := 468) (p' := 468) rfl rfl rfl (if_pos c_53) ?_
                            obtain rfl := Option.some.inj H
                            exact ev_vret rfl rfl rfl
                          · refine ev_b2 (t := 468) (p' := 442) rfl rfl rfl (if_neg c_53) ?_
                            refine ev_x (i := .aload_n 0) (len := 1) (p' := 443) (s' := [.ref 42]) rfl rfl rfl ?_
                            refine ev_gr (p' := 446) (v := 21) rfl rfl rfl ly_42 rfl rfl hr_42_4 ?_
                            refine ev_gc (p' := 449) (v := 28) rfl rfl rfl ly_21 rfl rfl ?_
                            refine ev_x (i := .iload_n 1) (len := 1) (p' := 450) (s' := [.int x_1, .ref 28]) rfl rfl rfl ?_
                            refine ev_x (i := .iload_n 2) (len := 1) (p' := 451) (s' := [.int x_2, .int x_1, .ref 28]) rfl rfl rfl ?_
                            refine ev_x (i := .aload_n 0) (len := 1) (p' := 452) (s' := [.ref 42, .int x_2, .int x_1, .ref 28]) rfl rfl rfl ?_
                            refine ev_x (i := .iload_n 1) (len := 1) (p' := 453) (s' := [.int x_1, .ref 42, .int x_2, .int x_1, .ref 28]) rfl rfl rfl ?_
                            obtain ⟨p_54, G_54, H⟩ := F_bd H
                            refine ev_cv (d := d + 1) (As := [.int x_1]) (a := 42) (p' := 456) rfl rfl rfl ly_42 rfl rfl rfl rfl rfl rfl rfl (F_77_ok (d := d + 0) (ht := (Or.inr rfl)) (hr_42_4 := hr_42_4) G_54) ?_
                            refine ev_st (st' := [.int p_54.1, .int x_2, .int x_1, .ref 28]) rfl ?_
                            have e_54 := F_77_R G_54
                            obtain ⟨p_55, G_55, H⟩ := F_bd H
                            refine ev_callS (d := d + 1) (As := [.int x_2, .int p_54.1]) rfl rfl rfl (by decide) rfl rfl rfl rfl rfl (F_78_ok (d := d + 0)   G_55) ?_
                            refine ev_st (st' := [.int p_55.1, .int x_1, .ref 28]) rfl ?_
                            refine ev_pc (pc' := 459) rfl ?_
                            have e_55 := F_78_R G_55
                            refine F_jn (A := vz_ev P0 (d + 2) 76 467 [(3, .int (gE (σ) 24 (x_1 : Int32).toNatClampNeg)), (0, .ref 42), (1, .int x_1), (2, .int x_2)] [.int (if p_55.1 = 0 then 0 else 1 : Int32), .int x_1, .ref 28] (hp (p_55.2)) (.inl none, hp p)) ?_ (fun J => ?_)
                            · obtain ⟨b_57, H⟩ := F_gd H
                              refine ev_pa (j := (x_1 : Int32).toNatClampNeg) (p' := 468) rfl rfl ly_28 rfl (gd_in b_57) rfl ?_
                              obtain rfl := Option.some.inj H
                              exact ev_vret rfl rfl rfl
                            · by_cases c_56 : p_55.1 = 0
                              · refine ev_b0 (t := 466) (p' := 466) rfl rfl rfl (if_pos c_56) ?_
                                refine ev_x (i := .iconst 0) (len := 1) (p' := 467) (s' := [.int 0, .int x_1, .ref 28]) rfl rfl rfl ?_
                                exact ev_st (congrArg (fun z => Value.int z :: [.int x_1, .ref 28]) (by rw [if_pos c_56])) J
                              · refine ev_b0 (t := 466) (p' := 462) rfl rfl rfl (if_neg c_56) ?_
                                refine ev_x (i := .iconst 1) (len := 1) (p' := 463) (s' := [.int 1, .int x_1, .ref 28]) rfl rfl rfl ?_
                                refine ev_x (i := .goto 4) (len := 3) (p' := 467) (s' := [.int 1, .int x_1, .ref 28]) rfl rfl rfl ?_
                                exact ev_st (congrArg (fun z => Value.int z :: [.int x_1, .ref 28]) (by rw [if_neg c_56])) J
/-- GameText$Machine.run(I)I, its loops -/
def L_70 (N : Nat) (t : Nat) : Nat → Int32 → Int32 → Int32 → Int32 → st_S → Option (Int32 × st_S)
  | 0, _, _, _, _, _ => none
  | k + 1, l_2, l_3, l_4, l_5, σ =>
      if l_4 ≤ l_5 then
        some (0, σ)
      else
        if aB l_3 (gN σ (t + 2)) then
        if (gE (σ) (t + 2) (l_3 : Int32).toNatClampNeg) = 26 then
          if l_2 = 0 then
            some (0, σ)
          else
            if aB (l_2 + (-1)) (gN σ 45) then
            if aB (gE (σ) 45 ((l_2 + (-1)) : Int32).toNatClampNeg) (gN σ (t + 4)) then
            if aB (gE (σ) (t + 4) ((gE (σ) 45 ((l_2 + (-1)) : Int32).toNatClampNeg) : Int32).toNatClampNeg) (gN σ 44) then
            L_70 N t k (l_2 + (-1)) (gE (σ) 45 ((l_2 + (-1)) : Int32).toNatClampNeg) l_4 (l_5 + 1) (st_e (σ) 44 (((gE (σ) (t + 4) ((gE (σ) 45 ((l_2 + (-1)) : Int32).toNatClampNeg) : Int32).toNatClampNeg) : Int32).toNatClampNeg) (gI σ 42 5))
            else none
            else none
            else none
        else
          if (gE (σ) (t + 2) (l_3 : Int32).toNatClampNeg) = 3 then
            if aB l_3 (gN σ (t + 4)) then
            if aB (gE (σ) (t + 4) (l_3 : Int32).toNatClampNeg) (gN σ 44) then
            if (gE (σ) 44 ((gE (σ) (t + 4) (l_3 : Int32).toNatClampNeg) : Int32).toNatClampNeg) = (gI σ 42 5) then
              if (gE (σ) (t + 2) (l_3 : Int32).toNatClampNeg) < 23 then
                if (gE (σ) (t + 2) (l_3 : Int32).toNatClampNeg) < 4 then
                  (F_76 N t l_3 (gE (σ) (t + 2) (l_3 : Int32).toNatClampNeg) (σ)).bind fun p_15 =>
                  L_70 N t k l_2 (l_3 + 1) l_4 (l_5 + 1) (p_15)
                else
                  if 8 < (gE (σ) (t + 2) (l_3 : Int32).toNatClampNeg) then
                    (F_76 N t l_3 (gE (σ) (t + 2) (l_3 : Int32).toNatClampNeg) (σ)).bind fun p_17 =>
                    L_70 N t k l_2 (l_3 + 1) l_4 (l_5 + 1) (p_17)
                  else
                    (F_72 N t l_3 (gE (σ) (t + 2) (l_3 : Int32).toNatClampNeg) (σ)).bind fun p_18 =>
                    if p_18.1 = 0 then
                      (F_74 N t l_3 (p_18.2)).bind fun p_20 =>
                      if p_20.1 = 0 then
                        L_70 N t k l_2 (l_3 + 1) l_4 (l_5 + 1) (p_20.2)
                      else
                        if aB l_3 (gN p_20.2 (t + 3)) then
                        some (p_20.1, st_i (p_20.2) 42 6 (gE (p_20.2) (t + 3) (l_3 : Int32).toNatClampNeg))
                        else none
                    else
                        if aB l_3 (gN p_18.2 (t + 3)) then
                        some (p_18.1, st_i (p_18.2) 42 6 (gE (p_18.2) (t + 3) (l_3 : Int32).toNatClampNeg))
                        else none
              else
                (F_71 N t l_3 (gE (σ) (t + 2) (l_3 : Int32).toNatClampNeg) (σ)).bind fun p_24 =>
                if p_24.1 = 0 then
                  L_70 N t k l_2 (l_3 + 1) l_4 (l_5 + 1) (p_24.2)
                else
                  if aB l_3 (gN p_24.2 (t + 6)) then
                  L_70 N t k l_2 (gE (p_24.2) (t + 6) (l_3 : Int32).toNatClampNeg) l_4 (l_5 + 1) (p_24.2)
                  else none
            else
              if 60 ≤ l_2 then
                if (gE (σ) (t + 2) (l_3 : Int32).toNatClampNeg) < 23 then
                  if (gE (σ) (t + 2) (l_3 : Int32).toNatClampNeg) < 4 then
                    (F_76 N t l_3 (gE (σ) (t + 2) (l_3 : Int32).toNatClampNeg) (σ)).bind fun p_30 =>
                    L_70 N t k l_2 (l_3 + 1) l_4 (l_5 + 1) (p_30)
                  else
                    if 8 < (gE (σ) (t + 2) (l_3 : Int32).toNatClampNeg) then
                      (F_76 N t l_3 (gE (σ) (t + 2) (l_3 : Int32).toNatClampNeg) (σ)).bind fun p_32 =>
                      L_70 N t k l_2 (l_3 + 1) l_4 (l_5 + 1) (p_32)
                    else
                      (F_72 N t l_3 (gE (σ) (t + 2) (l_3 : Int32).toNatClampNeg) (σ)).bind fun p_33 =>
                      if p_33.1 = 0 then
                        (F_74 N t l_3 (p_33.2)).bind fun p_35 =>
                        if p_35.1 = 0 then
                          L_70 N t k l_2 (l_3 + 1) l_4 (l_5 + 1) (p_35.2)
                        else
                          if aB l_3 (gN p_35.2 (t + 3)) then
                          some (p_35.1, st_i (p_35.2) 42 6 (gE (p_35.2) (t + 3) (l_3 : Int32).toNatClampNeg))
                          else none
                      else
                          if aB l_3 (gN p_33.2 (t + 3)) then
                          some (p_33.1, st_i (p_33.2) 42 6 (gE (p_33.2) (t + 3) (l_3 : Int32).toNatClampNeg))
                          else none
                else
                  (F_71 N t l_3 (gE (σ) (t + 2) (l_3 : Int32).toNatClampNeg) (σ)).bind fun p_39 =>
                  if p_39.1 = 0 then
                    L_70 N t k l_2 (l_3 + 1) l_4 (l_5 + 1) (p_39.2)
                  else
                    if aB l_3 (gN p_39.2 (t + 6)) then
                    L_70 N t k l_2 (gE (p_39.2) (t + 6) (l_3 : Int32).toNatClampNeg) l_4 (l_5 + 1) (p_39.2)
                    else none
              else
                if aB l_2 (gN σ 45) then
                if aB (gE (σ) (t + 4) (l_3 : Int32).toNatClampNeg) (gN σ (t + 14)) then
                if aB (gE (σ) (t + 14) ((gE (σ) (t + 4) (l_3 : Int32).toNatClampNeg) : Int32).toNatClampNeg) (gN σ (t + 6)) then
                L_70 N t k (l_2 + 1) (gE (σ) (t + 6) ((gE (σ) (t + 14) ((gE (σ) (t + 4) (l_3 : Int32).toNatClampNeg) : Int32).toNatClampNeg) : Int32).toNatClampNeg) l_4 (l_5 + 1) (st_e (σ) 45 ((l_2 : Int32).toNatClampNeg) l_3)
                else none
                else none
                else none
            else none
            else none
          else
            if (gE (σ) (t + 2) (l_3 : Int32).toNatClampNeg) < 23 then
              if (gE (σ) (t + 2) (l_3 : Int32).toNatClampNeg) < 4 then
                (F_76 N t l_3 (gE (σ) (t + 2) (l_3 : Int32).toNatClampNeg) (σ)).bind fun p_47 =>
                L_70 N t k l_2 (l_3 + 1) l_4 (l_5 + 1) (p_47)
              else
                if 8 < (gE (σ) (t + 2) (l_3 : Int32).toNatClampNeg) then
                  (F_76 N t l_3 (gE (σ) (t + 2) (l_3 : Int32).toNatClampNeg) (σ)).bind fun p_49 =>
                  L_70 N t k l_2 (l_3 + 1) l_4 (l_5 + 1) (p_49)
                else
                  (F_72 N t l_3 (gE (σ) (t + 2) (l_3 : Int32).toNatClampNeg) (σ)).bind fun p_50 =>
                  if p_50.1 = 0 then
                    (F_74 N t l_3 (p_50.2)).bind fun p_52 =>
                    if p_52.1 = 0 then
                      L_70 N t k l_2 (l_3 + 1) l_4 (l_5 + 1) (p_52.2)
                    else
                      if aB l_3 (gN p_52.2 (t + 3)) then
                      some (p_52.1, st_i (p_52.2) 42 6 (gE (p_52.2) (t + 3) (l_3 : Int32).toNatClampNeg))
                      else none
                  else
                      if aB l_3 (gN p_50.2 (t + 3)) then
                      some (p_50.1, st_i (p_50.2) 42 6 (gE (p_50.2) (t + 3) (l_3 : Int32).toNatClampNeg))
                      else none
            else
              (F_71 N t l_3 (gE (σ) (t + 2) (l_3 : Int32).toNatClampNeg) (σ)).bind fun p_56 =>
              if p_56.1 = 0 then
                L_70 N t k l_2 (l_3 + 1) l_4 (l_5 + 1) (p_56.2)
              else
                if aB l_3 (gN p_56.2 (t + 6)) then
                L_70 N t k l_2 (gE (p_56.2) (t + 6) (l_3 : Int32).toNatClampNeg) l_4 (l_5 + 1) (p_56.2)
                else none
        else none
set_option maxRecDepth 100000 in
theorem L_70_R {N : Nat} {t : Nat} : ∀ (k : Nat) (l_2 : Int32) (l_3 : Int32) (l_4 : Int32) (l_5 : Int32) (σ : st_S) (p : Int32 × st_S), L_70 N t k l_2 l_3 l_4 l_5 σ = some p → gR p.2 = gR σ := by
  intro k
  induction k with
  | zero => intro l_2 l_3 l_4 l_5 σ p H; unfold L_70 at H; cases H
  | succ k ih =>
    intro l_2 l_3 l_4 l_5 σ p H
    unfold L_70 at H
    refine F_if H (fun _ H => ?_) (fun _ H => ?_)
    · obtain rfl := Option.some.inj H
      exact rfl
    · obtain ⟨_, H⟩ := F_gd H
      refine F_if H (fun _ H => ?_) (fun _ H => ?_)
      · refine F_if H (fun _ H => ?_) (fun _ H => ?_)
        · obtain rfl := Option.some.inj H
          exact rfl
        · obtain ⟨_, H⟩ := F_gd H
          obtain ⟨_, H⟩ := F_gd H
          obtain ⟨_, H⟩ := F_gd H
          exact (((ih _ _ _ _ _ _ H)).trans rfl)
      · refine F_if H (fun _ H => ?_) (fun _ H => ?_)
        · obtain ⟨_, H⟩ := F_gd H
          obtain ⟨_, H⟩ := F_gd H
          refine F_if H (fun _ H => ?_) (fun _ H => ?_)
          · refine F_if H (fun _ H => ?_) (fun _ H => ?_)
            · refine F_if H (fun _ H => ?_) (fun _ H => ?_)
              · obtain ⟨p_15, G_15, H⟩ := F_bd H
                exact (((ih _ _ _ _ _ _ H)).trans ((F_76_R G_15).trans rfl))
              · refine F_if H (fun _ H => ?_) (fun _ H => ?_)
                · obtain ⟨p_17, G_17, H⟩ := F_bd H
                  exact (((ih _ _ _ _ _ _ H)).trans ((F_76_R G_17).trans rfl))
                · obtain ⟨p_18, G_18, H⟩ := F_bd H
                  refine F_if H (fun _ H => ?_) (fun _ H => ?_)
                  · obtain ⟨p_20, G_20, H⟩ := F_bd H
                    refine F_if H (fun _ H => ?_) (fun _ H => ?_)
                    · exact (((ih _ _ _ _ _ _ H)).trans ((F_74_R G_20).trans ((F_72_R G_18).trans rfl)))
                    · obtain ⟨_, H⟩ := F_gd H
                      obtain rfl := Option.some.inj H
                      exact ((F_74_R G_20).trans ((F_72_R G_18).trans rfl))
                  · obtain ⟨_, H⟩ := F_gd H
                    obtain rfl := Option.some.inj H
                    exact ((F_72_R G_18).trans rfl)
            · obtain ⟨p_24, G_24, H⟩ := F_bd H
              refine F_if H (fun _ H => ?_) (fun _ H => ?_)
              · exact (((ih _ _ _ _ _ _ H)).trans ((F_71_R G_24).trans rfl))
              · obtain ⟨_, H⟩ := F_gd H
                exact (((ih _ _ _ _ _ _ H)).trans ((F_71_R G_24).trans rfl))
          · refine F_if H (fun _ H => ?_) (fun _ H => ?_)
            · refine F_if H (fun _ H => ?_) (fun _ H => ?_)
              · refine F_if H (fun _ H => ?_) (fun _ H => ?_)
                · obtain ⟨p_30, G_30, H⟩ := F_bd H
                  exact (((ih _ _ _ _ _ _ H)).trans ((F_76_R G_30).trans rfl))
                · refine F_if H (fun _ H => ?_) (fun _ H => ?_)
                  · obtain ⟨p_32, G_32, H⟩ := F_bd H
                    exact (((ih _ _ _ _ _ _ H)).trans ((F_76_R G_32).trans rfl))
                  · obtain ⟨p_33, G_33, H⟩ := F_bd H
                    refine F_if H (fun _ H => ?_) (fun _ H => ?_)
                    · obtain ⟨p_35, G_35, H⟩ := F_bd H
                      refine F_if H (fun _ H => ?_) (fun _ H => ?_)
                      · exact (((ih _ _ _ _ _ _ H)).trans ((F_74_R G_35).trans ((F_72_R G_33).trans rfl)))
                      · obtain ⟨_, H⟩ := F_gd H
                        obtain rfl := Option.some.inj H
                        exact ((F_74_R G_35).trans ((F_72_R G_33).trans rfl))
                    · obtain ⟨_, H⟩ := F_gd H
                      obtain rfl := Option.some.inj H
                      exact ((F_72_R G_33).trans rfl)
              · obtain ⟨p_39, G_39, H⟩ := F_bd H
                refine F_if H (fun _ H => ?_) (fun _ H => ?_)
                · exact (((ih _ _ _ _ _ _ H)).trans ((F_71_R G_39).trans rfl))
                · obtain ⟨_, H⟩ := F_gd H
                  exact (((ih _ _ _ _ _ _ H)).trans ((F_71_R G_39).trans rfl))
            · obtain ⟨_, H⟩ := F_gd H
              obtain ⟨_, H⟩ := F_gd H
              obtain ⟨_, H⟩ := F_gd H
              exact (((ih _ _ _ _ _ _ H)).trans rfl)
        · refine F_if H (fun _ H => ?_) (fun _ H => ?_)
          · refine F_if H (fun _ H => ?_) (fun _ H => ?_)
            · obtain ⟨p_47, G_47, H⟩ := F_bd H
              exact (((ih _ _ _ _ _ _ H)).trans ((F_76_R G_47).trans rfl))
            · refine F_if H (fun _ H => ?_) (fun _ H => ?_)
              · obtain ⟨p_49, G_49, H⟩ := F_bd H
                exact (((ih _ _ _ _ _ _ H)).trans ((F_76_R G_49).trans rfl))
              · obtain ⟨p_50, G_50, H⟩ := F_bd H
                refine F_if H (fun _ H => ?_) (fun _ H => ?_)
                · obtain ⟨p_52, G_52, H⟩ := F_bd H
                  refine F_if H (fun _ H => ?_) (fun _ H => ?_)
                  · exact (((ih _ _ _ _ _ _ H)).trans ((F_74_R G_52).trans ((F_72_R G_50).trans rfl)))
                  · obtain ⟨_, H⟩ := F_gd H
                    obtain rfl := Option.some.inj H
                    exact ((F_74_R G_52).trans ((F_72_R G_50).trans rfl))
                · obtain ⟨_, H⟩ := F_gd H
                  obtain rfl := Option.some.inj H
                  exact ((F_72_R G_50).trans rfl)
          · obtain ⟨p_56, G_56, H⟩ := F_bd H
            refine F_if H (fun _ H => ?_) (fun _ H => ?_)
            · exact (((ih _ _ _ _ _ _ H)).trans ((F_71_R G_56).trans rfl))
            · obtain ⟨_, H⟩ := F_gd H
              exact (((ih _ _ _ _ _ _ H)).trans ((F_71_R G_56).trans rfl))
set_option maxHeartbeats 4000000 in
set_option maxRecDepth 100000 in
theorem L_70_ok {N d : Nat} {t : Nat} (ht : t = 4 ∨ t = 20) : ∀ k : Nat, ∀ (l_2 : Int32) (l_3 : Int32) (l_4 : Int32) (l_5 : Int32) (σ : st_S) (lv : vz_L) (p : Int32 × st_S), vz_g lv 0 = some (.ref 42) → vz_g lv 2 = some (.int l_2) → vz_g lv 3 = some (.int l_3) → vz_g lv 4 = some (.int l_4) → vz_g lv 5 = some (.int l_5) → vz_nbL (vz_gr P0) lv = true → gR σ 42 3 = t → gR σ 42 4 = (t + 1) → L_70 N t k l_2 l_3 l_4 l_5 σ = some p → vz_ev P0 (d + 3) 70 28 lv [] (hp σ) (.inl (some (.int p.1)), hp p.2) := by
  rcases ht with rfl | rfl
  · intro k
    induction k with
    | zero => intro l_2 l_3 l_4 l_5 σ lv p g_0 g_2 g_3 g_4 g_5 hnb hr_42_3 hr_42_4 H; unfold L_70 at H; cases H
    | succ k ih =>
      intro l_2 l_3 l_4 l_5 σ lv p g_0 g_2 g_3 g_4 g_5 hnb hr_42_3 hr_42_4 H
      unfold L_70 at H
      refine ev_x (i := .iload 5) (len := 2) (p' := 30) (s' := [.int l_5]) rfl rfl (ld_i g_5) ?_
      refine ev_x (i := .iload 4) (len := 2) (p' := 32) (s' := [.int l_4, .int l_5]) rfl rfl (ld_i g_4) ?_
      refine F_if H (fun c_2 H => ?_) (fun c_2 H => ?_)
      · refine ev_b2 (t := 275) (p' := 275) rfl rfl rfl (if_pos c_2) ?_
        refine ev_x (i := .iconst 0) (len := 1) (p' := 276) (s' := [.int 0]) rfl rfl rfl ?_
        obtain rfl := Option.some.inj H
        exact ev_iret rfl rfl rfl rfl
      · refine ev_b2 (t := 275) (p' := 35) rfl rfl rfl (if_neg c_2) ?_
        refine ev_x (i := .aload_n 0) (len := 1) (p' := 36) (s' := [.ref 42]) rfl rfl (ld_a g_0) ?_
        refine ev_gr (p' := 39) (v := 5) rfl rfl rfl ly_42 rfl rfl hr_42_4 ?_
        refine ev_gc (p' := 42) (v := 6) rfl rfl rfl ly_5 rfl rfl ?_
        refine ev_x (i := .iload_n 3) (len := 1) (p' := 43) (s' := [.int l_3, .ref 6]) rfl rfl (ld_i g_3) ?_
        obtain ⟨b_3, H⟩ := F_gd H
        refine ev_ga (p' := 44) (v := (gE (σ) 6 (l_3 : Int32).toNatClampNeg)) rfl rfl ly_6 rfl (gd_in b_3) rfl ?_
        refine ev_x (i := .istore 6) (len := 2) (p' := 46) (s' := []) (l' := vz_s1 (lv) 6 (.int (gE (σ) 6 (l_3 : Int32).toNatClampNeg))) rfl rfl rfl ?_
        refine ev_x (i := .iload 6) (len := 2) (p' := 48) (s' := [.int (gE (σ) 6 (l_3 : Int32).toNatClampNeg)]) rfl rfl (ld_i (vg_s (lv) 6 (.int (gE (σ) 6 (l_3 : Int32).toNatClampNeg)))) ?_
        refine ev_x (i := .bipush 26) (len := 2) (p' := 50) (s' := [.int 26, .int (gE (σ) 6 (l_3 : Int32).toNatClampNeg)]) rfl rfl rfl ?_
        refine F_if H (fun c_4 H => ?_) (fun c_4 H => ?_)
        · refine ev_b2 (t := 90) (p' := 53) rfl rfl rfl (if_neg (fun q => q c_4)) ?_
          refine ev_x (i := .iload_n 2) (len := 1) (p' := 54) (s' := [.int l_2]) rfl rfl (ld_i (vg_o (i := 6) (v := .int (gE (σ) 6 (l_3 : Int32).toNatClampNeg)) g_2 (by decide) (Or.inl rfl))) ?_
          refine F_if H (fun c_5 H => ?_) (fun c_5 H => ?_)
          · refine ev_b0 (t := 59) (p' := 57) rfl rfl rfl (if_neg (fun q => q c_5)) ?_
            refine ev_x (i := .iconst 0) (len := 1) (p' := 58) (s' := [.int 0]) rfl rfl rfl ?_
            obtain rfl := Option.some.inj H
            exact ev_iret rfl rfl rfl rfl
          · refine ev_b0 (t := 59) (p' := 59) rfl rfl rfl (if_pos c_5) ?_
            refine ev_x (i := .iinc 2 (-1)) (len := 3) (p' := 62) (s' := []) (l' := vz_s1 (vz_s1 (lv) 6 (.int (gE (σ) 6 (l_3 : Int32).toNatClampNeg))) 2 (.int (l_2 + (-1)))) rfl rfl (ld_inc (vg_o (i := 6) (v := .int (gE (σ) 6 (l_3 : Int32).toNatClampNeg)) g_2 (by decide) (Or.inl rfl)) rfl) ?_
            refine ev_x (i := .aload_n 0) (len := 1) (p' := 63) (s' := [.ref 42]) rfl rfl (ld_a (vg_o (i := 2) (v := .int (l_2 + (-1))) (vg_o (i := 6) (v := .int (gE (σ) 6 (l_3 : Int32).toNatClampNeg)) g_0 (by decide) (Or.inl rfl)) (by decide) (Or.inl rfl))) ?_
            refine ev_gc (p' := 66) (v := 45) rfl rfl rfl ly_42 rfl rfl ?_
            refine ev_x (i := .iload_n 2) (len := 1) (p' := 67) (s' := [.int (l_2 + (-1)), .ref 45]) rfl rfl (ld_i (vg_s (vz_s1 (lv) 6 (.int (gE (σ) 6 (l_3 : Int32).toNatClampNeg))) 2 (.int (l_2 + (-1))))) ?_
            obtain ⟨b_6, H⟩ := F_gd H
            refine ev_ga (p' := 68) (v := (gE (σ) 45 ((l_2 + (-1)) : Int32).toNatClampNeg)) rfl rfl ly_45 rfl (gd_in b_6) rfl ?_
            refine ev_x (i := .istore_n 3) (len := 1) (p' := 69) (s' := []) (l' := vz_s1 (vz_s1 (vz_s1 (lv) 6 (.int (gE (σ) 6 (l_3 : Int32).toNatClampNeg))) 2 (.int (l_2 + (-1)))) 3 (.int (gE (σ) 45 ((l_2 + (-1)) : Int32).toNatClampNeg))) rfl rfl rfl ?_
            refine ev_x (i := .aload_n 0) (len := 1) (p' := 70) (s' := [.ref 42]) rfl rfl (ld_a (vg_o (i := 3) (v := .int (gE (σ) 45 ((l_2 + (-1)) : Int32).toNatClampNeg)) (vg_o (i := 2) (v := .int (l_2 + (-1))) (vg_o (i := 6) (v := .int (gE (σ) 6 (l_3 : Int32).toNatClampNeg)) g_0 (by decide) (Or.inl rfl)) (by decide) (Or.inl rfl)) (by decide) (Or.inl rfl))) ?_
            refine ev_gc (p' := 73) (v := 44) rfl rfl rfl ly_42 rfl rfl ?_
            refine ev_x (i := .aload_n 0) (len := 1) (p' := 74) (s' := [.ref 42, .ref 44]) rfl rfl (ld_a (vg_o (i := 3) (v := .int (gE (σ) 45 ((l_2 + (-1)) : Int32).toNatClampNeg)) (vg_o (i := 2) (v := .int (l_2 + (-1))) (vg_o (i := 6) (v := .int (gE (σ) 6 (l_3 : Int32).toNatClampNeg)) g_0 (by decide) (Or.inl rfl)) (by decide) (Or.inl rfl)) (by decide) (Or.inl rfl))) ?_
            refine ev_gr (p' := 77) (v := 5) rfl rfl rfl ly_42 rfl rfl hr_42_4 ?_
            refine ev_gc (p' := 80) (v := 8) rfl rfl rfl ly_5 rfl rfl ?_
            refine ev_x (i := .iload_n 3) (len := 1) (p' := 81) (s' := [.int (gE (σ) 45 ((l_2 + (-1)) : Int32).toNatClampNeg), .ref 8, .ref 44]) rfl rfl (ld_i (vg_s (vz_s1 (vz_s1 (lv) 6 (.int (gE (σ) 6 (l_3 : Int32).toNatClampNeg))) 2 (.int (l_2 + (-1)))) 3 (.int (gE (σ) 45 ((l_2 + (-1)) : Int32).toNatClampNeg)))) ?_
            obtain ⟨b_7, H⟩ := F_gd H
            refine ev_ga (p' := 82) (v := (gE (σ) 8 ((gE (σ) 45 ((l_2 + (-1)) : Int32).toNatClampNeg) : Int32).toNatClampNeg)) rfl rfl ly_8 rfl (gd_in b_7) rfl ?_
            refine ev_x (i := .aload_n 0) (len := 1) (p' := 83) (s' := [.ref 42, .int (gE (σ) 8 ((gE (σ) 45 ((l_2 + (-1)) : Int32).toNatClampNeg) : Int32).toNatClampNeg), .ref 44]) rfl rfl (ld_a (vg_o (i := 3) (v := .int (gE (σ) 45 ((l_2 + (-1)) : Int32).toNatClampNeg)) (vg_o (i := 2) (v := .int (l_2 + (-1))) (vg_o (i := 6) (v := .int (gE (σ) 6 (l_3 : Int32).toNatClampNeg)) g_0 (by decide) (Or.inl rfl)) (by decide) (Or.inl rfl)) (by decide) (Or.inl rfl))) ?_
            refine ev_gi (p' := 86) (v := (gI σ 42 5)) rfl rfl rfl ly_42 rfl rfl rfl ?_
            obtain ⟨b_8, H⟩ := F_gd H
            refine ev_pa (j := ((gE (σ) 8 ((gE (σ) 45 ((l_2 + (-1)) : Int32).toNatClampNeg) : Int32).toNatClampNeg) : Int32).toNatClampNeg) (p' := 87) rfl rfl ly_44 rfl (gd_in b_8) rfl ?_
            refine ev_x (i := .goto 182) (len := 3) (p' := 269) (s' := []) rfl rfl rfl ?_
            refine ev_x (i := .iinc 5 1) (len := 3) (p' := 272) (s' := []) (l' := vz_s1 (vz_s1 (vz_s1 (vz_s1 (lv) 6 (.int (gE (σ) 6 (l_3 : Int32).toNatClampNeg))) 2 (.int (l_2 + (-1)))) 3 (.int (gE (σ) 45 ((l_2 + (-1)) : Int32).toNatClampNeg))) 5 (.int (l_5 + 1))) rfl rfl (ld_inc (vg_o (i := 3) (v := .int (gE (σ) 45 ((l_2 + (-1)) : Int32).toNatClampNeg)) (vg_o (i := 2) (v := .int (l_2 + (-1))) (vg_o (i := 6) (v := .int (gE (σ) 6 (l_3 : Int32).toNatClampNeg)) g_5 (by decide) (Or.inl rfl)) (by decide) (Or.inl rfl)) (by decide) (Or.inl rfl)) rfl) ?_
            refine ev_x (i := .goto (-244)) (len := 3) (p' := 28) (s' := []) rfl rfl rfl ?_
            exact ih _ _ _ _ _ _ _ (vg_o (i := 5) (v := .int (l_5 + 1)) (vg_o (i := 3) (v := .int (gE (σ) 45 ((l_2 + (-1)) : Int32).toNatClampNeg)) (vg_o (i := 2) (v := .int (l_2 + (-1))) (vg_o (i := 6) (v := .int (gE (σ) 6 (l_3 : Int32).toNatClampNeg)) g_0 (by decide) (Or.inl rfl)) (by decide) (Or.inl rfl)) (by decide) (Or.inl rfl)) (by decide) (Or.inl rfl)) (vg_o (i := 5) (v := .int (l_5 + 1)) (vg_o (i := 3) (v := .int (gE (σ) 45 ((l_2 + (-1)) : Int32).toNatClampNeg)) (vg_s (vz_s1 (lv) 6 (.int (gE (σ) 6 (l_3 : Int32).toNatClampNeg))) 2 (.int (l_2 + (-1)))) (by decide) (Or.inl rfl)) (by decide) (Or.inl rfl)) (vg_o (i := 5) (v := .int (l_5 + 1)) (vg_s (vz_s1 (vz_s1 (lv) 6 (.int (gE (σ) 6 (l_3 : Int32).toNatClampNeg))) 2 (.int (l_2 + (-1)))) 3 (.int (gE (σ) 45 ((l_2 + (-1)) : Int32).toNatClampNeg))) (by decide) (Or.inl rfl)) (vg_o (i := 5) (v := .int (l_5 + 1)) (vg_o (i := 3) (v := .int (gE (σ) 45 ((l_2 + (-1)) : Int32).toNatClampNeg)) (vg_o (i := 2) (v := .int (l_2 + (-1))) (vg_o (i := 6) (v := .int (gE (σ) 6 (l_3 : Int32).toNatClampNeg)) g_4 (by decide) (Or.inl rfl)) (by decide) (Or.inl rfl)) (by decide) (Or.inl rfl)) (by decide) (Or.inl rfl)) (vg_s (vz_s1 (vz_s1 (vz_s1 (lv) 6 (.int (gE (σ) 6 (l_3 : Int32).toNatClampNeg))) 2 (.int (l_2 + (-1)))) 3 (.int (gE (σ) 45 ((l_2 + (-1)) : Int32).toNatClampNeg))) 5 (.int (l_5 + 1))) (nb_s1 (nb_s1 (nb_s1 (nb_s1 hnb rfl) rfl) rfl) rfl) hr_42_3 hr_42_4 H
        · refine ev_b2 (t := 90) (p' := 90) rfl rfl rfl (if_pos c_4) ?_
          refine ev_x (i := .iload 6) (len := 2) (p' := 92) (s' := [.int (gE (σ) 6 (l_3 : Int32).toNatClampNeg)]) rfl rfl (ld_i (vg_s (lv) 6 (.int (gE (σ) 6 (l_3 : Int32).toNatClampNeg)))) ?_
          refine ev_x (i := .iconst 3) (len := 1) (p' := 93) (s' := [.int 3, .int (gE (σ) 6 (l_3 : Int32).toNatClampNeg)]) rfl rfl rfl ?_
          refine F_if H (fun c_9 H => ?_) (fun c_9 H => ?_)
          · refine ev_b2 (t := 162) (p' := 96) rfl rfl rfl (if_neg (fun q => q c_9)) ?_
            refine ev_x (i := .aload_n 0) (len := 1) (p' := 97) (s' := [.ref 42]) rfl rfl (ld_a (vg_o (i := 6) (v := .int (gE (σ) 6 (l_3 : Int32).toNatClampNeg)) g_0 (by decide) (Or.inl rfl))) ?_
            refine ev_gc (p' := 100) (v := 44) rfl rfl rfl ly_42 rfl rfl ?_
            refine ev_x (i := .aload_n 0) (len := 1) (p' := 101) (s' := [.ref 42, .ref 44]) rfl rfl (ld_a (vg_o (i := 6) (v := .int (gE (σ) 6 (l_3 : Int32).toNatClampNeg)) g_0 (by decide) (Or.inl rfl))) ?_
            refine ev_gr (p' := 104) (v := 5) rfl rfl rfl ly_42 rfl rfl hr_42_4 ?_
            refine ev_gc (p' := 107) (v := 8) rfl rfl rfl ly_5 rfl rfl ?_
            refine ev_x (i := .iload_n 3) (len := 1) (p' := 108) (s' := [.int l_3, .ref 8, .ref 44]) rfl rfl (ld_i (vg_o (i := 6) (v := .int (gE (σ) 6 (l_3 : Int32).toNatClampNeg)) g_3 (by decide) (Or.inl rfl))) ?_
            obtain ⟨b_10, H⟩ := F_gd H
            refine ev_ga (p' := 109) (v := (gE (σ) 8 (l_3 : Int32).toNatClampNeg)) rfl rfl ly_8 rfl (gd_in b_10) rfl ?_
            obtain ⟨b_11, H⟩ := F_gd H
            refine ev_ga (p' := 110) (v := (gE (σ) 44 ((gE (σ) 8 (l_3 : Int32).toNatClampNeg) : Int32).toNatClampNeg)) rfl rfl ly_44 rfl (gd_in b_11) rfl ?_
            refine ev_x (i := .aload_n 0) (len := 1) (p' := 111) (s' := [.ref 42, .int (gE (σ) 44 ((gE (σ) 8 (l_3 : Int32).toNatClampNeg) : Int32).toNatClampNeg)]) rfl rfl (ld_a (vg_o (i := 6) (v := .int (gE (σ) 6 (l_3 : Int32).toNatClampNeg)) g_0 (by decide) (Or.inl rfl))) ?_
            refine ev_gi (p' := 114) (v := (gI σ 42 5)) rfl rfl rfl ly_42 rfl rfl rfl ?_
            refine F_if H (fun c_12 H => ?_) (fun c_12 H => ?_)
            · refine ev_b2 (t := 162) (p' := 162) rfl rfl rfl (if_pos c_12) ?_
              refine ev_x (i := .iload 6) (len := 2) (p' := 164) (s' := [.int (gE (σ) 6 (l_3 : Int32).toNatClampNeg)]) rfl rfl (ld_i (vg_s (lv) 6 (.int (gE (σ) 6 (l_3 : Int32).toNatClampNeg)))) ?_
              refine ev_x (i := .bipush 23) (len := 2) (p' := 166) (s' := [.int 23, .int (gE (σ) 6 (l_3 : Int32).toNatClampNeg)]) rfl rfl rfl ?_
              refine F_if H (fun c_13 H => ?_) (fun c_13 H => ?_)
              · refine ev_b2 (t := 198) (p' := 198) rfl rfl rfl (if_pos c_13) ?_
                refine ev_x (i := .iload 6) (len := 2) (p' := 200) (s' := [.int (gE (σ) 6 (l_3 : Int32).toNatClampNeg)]) rfl rfl (ld_i (vg_s (lv) 6 (.int (gE (σ) 6 (l_3 : Int32).toNatClampNeg)))) ?_
                refine ev_x (i := .iconst 4) (len := 1) (p' := 201) (s' := [.int 4, .int (gE (σ) 6 (l_3 : Int32).toNatClampNeg)]) rfl rfl rfl ?_
                refine F_if H (fun c_14 H => ?_) (fun c_14 H => ?_)
                · refine ev_b2 (t := 259) (p' := 259) rfl rfl rfl (if_pos c_14) ?_
                  refine ev_x (i := .aload_n 0) (len := 1) (p' := 260) (s' := [.ref 42]) rfl rfl (ld_a (vg_o (i := 6) (v := .int (gE (σ) 6 (l_3 : Int32).toNatClampNeg)) g_0 (by decide) (Or.inl rfl))) ?_
                  refine ev_x (i := .iload_n 3) (len := 1) (p' := 261) (s' := [.int l_3, .ref 42]) rfl rfl (ld_i (vg_o (i := 6) (v := .int (gE (σ) 6 (l_3 : Int32).toNatClampNeg)) g_3 (by decide) (Or.inl rfl))) ?_
                  refine ev_x (i := .iload 6) (len := 2) (p' := 263) (s' := [.int (gE (σ) 6 (l_3 : Int32).toNatClampNeg), .int l_3, .ref 42]) rfl rfl (ld_i (vg_s (lv) 6 (.int (gE (σ) 6 (l_3 : Int32).toNatClampNeg)))) ?_
                  obtain ⟨p_15, G_15, H⟩ := F_bd H
                  refine ev_cv (d := d + 2) (As := [.int l_3, .int (gE (σ) 6 (l_3 : Int32).toNatClampNeg)]) (a := 42) (p' := 266) rfl rfl rfl ly_42 rfl rfl rfl rfl rfl (nb_s1 hnb rfl) rfl (F_76_ok (d := d + 0) (ht := (Or.inl rfl)) (hr_42_3 := hr_42_3) (hr_42_4 := hr_42_4) G_15) ?_
                  refine ev_st (st' := []) rfl ?_
                  have e_15 := F_76_R G_15
                  refine ev_x (i := .iinc 3 1) (len := 3) (p' := 269) (s' := []) (l' := vz_s1 (vz_s1 (lv) 6 (.int (gE (σ) 6 (l_3 : Int32).toNatClampNeg))) 3 (.int (l_3 + 1))) rfl rfl (ld_inc (vg_o (i := 6) (v := .int (gE (σ) 6 (l_3 : Int32).toNatClampNeg)) g_3 (by decide) (Or.inl rfl)) rfl) ?_
                  refine ev_x (i := .iinc 5 1) (len := 3) (p' := 272) (s' := []) (l' := vz_s1 (vz_s1 (vz_s1 (lv) 6 (.int (gE (σ) 6 (l_3 : Int32).toNatClampNeg))) 3 (.int (l_3 + 1))) 5 (.int (l_5 + 1))) rfl rfl (ld_inc (vg_o (i := 3) (v := .int (l_3 + 1)) (vg_o (i := 6) (v := .int (gE (σ) 6 (l_3 : Int32).toNatClampNeg)) g_5 (by decide) (Or.inl rfl)) (by decide) (Or.inl rfl)) rfl) ?_
                  refine ev_x (i := .goto (-244)) (len := 3) (p' := 28) (s' := []) rfl rfl rfl ?_
                  exact ih _ _ _ _ _ _ _ (vg_o (i := 5) (v := .int (l_5 + 1)) (vg_o (i := 3) (v := .int (l_3 + 1)) (vg_o (i := 6) (v := .int (gE (σ) 6 (l_3 : Int32).toNatClampNeg)) g_0 (by decide) (Or.inl rfl)) (by decide) (Or.inl rfl)) (by decide) (Or.inl rfl)) (vg_o (i := 5) (v := .int (l_5 + 1)) (vg_o (i := 3) (v := .int (l_3 + 1)) (vg_o (i := 6) (v := .int (gE (σ) 6 (l_3 : Int32).toNatClampNeg)) g_2 (by decide) (Or.inl rfl)) (by decide) (Or.inl rfl)) (by decide) (Or.inl rfl)) (vg_o (i := 5) (v := .int (l_5 + 1)) (vg_s (vz_s1 (lv) 6 (.int (gE (σ) 6 (l_3 : Int32).toNatClampNeg))) 3 (.int (l_3 + 1))) (by decide) (Or.inl rfl)) (vg_o (i := 5) (v := .int (l_5 + 1)) (vg_o (i := 3) (v := .int (l_3 + 1)) (vg_o (i := 6) (v := .int (gE (σ) 6 (l_3 : Int32).toNatClampNeg)) g_4 (by decide) (Or.inl rfl)) (by decide) (Or.inl rfl)) (by decide) (Or.inl rfl)) (vg_s (vz_s1 (vz_s1 (lv) 6 (.int (gE (σ) 6 (l_3 : Int32).toNatClampNeg))) 3 (.int (l_3 + 1))) 5 (.int (l_5 + 1))) (nb_s1 (nb_s1 (nb_s1 hnb rfl) rfl) rfl) ((congrFun (congrFun e_15 42) 3).trans hr_42_3) ((congrFun (congrFun e_15 42) 4).trans hr_42_4) H
                · refine ev_b2 (t := 259) (p' := 204) rfl rfl rfl (if_neg c_14) ?_
                  refine ev_x (i := .iload 6) (len := 2) (p' := 206) (s' := [.int (gE (σ) 6 (l_3 : Int32).toNatClampNeg)]) rfl rfl (ld_i (vg_s (lv) 6 (.int (gE (σ) 6 (l_3 : Int32).toNatClampNeg)))) ?_
                  refine ev_x (i := .bipush 8) (len := 2) (p' := 208) (s' := [.int 8, .int (gE (σ) 6 (l_3 : Int32).toNatClampNeg)]) rfl rfl rfl ?_
                  refine F_if H (fun c_16 H => ?_) (fun c_16 H => ?_)
                  · refine ev_b2 (t := 259) (p' := 259) rfl rfl rfl (if_pos c_16) ?_
                    refine ev_x (i := .aload_n 0) (len := 1) (p' := 260) (s' := [.ref 42]) rfl rfl (ld_a (vg_o (i := 6) (v := .int (gE (σ) 6 (l_3 : Int32).toNatClampNeg)) g_0 (by decide) (Or.inl rfl))) ?_
                    refine ev_x (i := .iload_n 3) (len := 1) (p' := 261) (s' := [.int l_3, .ref 42]) rfl rfl (ld_i (vg_o (i := 6) (v := .int (gE (σ) 6 (l_3 : Int32).toNatClampNeg)) g_3 (by decide) (Or.inl rfl))) ?_
                    refine ev_x (i := .iload 6) (len := 2) (p' := 263) (s' := [.int (gE (σ) 6 (l_3 : Int32).toNatClampNeg), .int l_3, .ref 42]) rfl rfl (ld_i (vg_s (lv) 6 (.int (gE (σ) 6 (l_3 : Int32).toNatClampNeg)))) ?_
                    obtain ⟨p_17, G_17, H⟩ := F_bd H
                    refine ev_cv (d := d + 2) (As := [.int l_3, .int (gE (σ) 6 (l_3 : Int32).toNatClampNeg)]) (a := 42) (p' := 266) rfl rfl rfl ly_42 rfl rfl rfl rfl rfl (nb_s1 hnb rfl) rfl (F_76_ok (d := d + 0) (ht := (Or.inl rfl)) (hr_42_3 := hr_42_3) (hr_42_4 := hr_42_4) G_17) ?_
                    refine ev_st (st' := []) rfl ?_
                    have e_17 := F_76_R G_17
                    refine ev_x (i := .iinc 3 1) (len := 3) (p' := 269) (s' := []) (l' := vz_s1 (vz_s1 (lv) 6 (.int (gE (σ) 6 (l_3 : Int32).toNatClampNeg))) 3 (.int (l_3 + 1))) rfl rfl (ld_inc (vg_o (i := 6) (v := .int (gE (σ) 6 (l_3 : Int32).toNatClampNeg)) g_3 (by decide) (Or.inl rfl)) rfl) ?_
                    refine ev_x (i := .iinc 5 1) (len := 3) (p' := 272) (s' := []) (l' := vz_s1 (vz_s1 (vz_s1 (lv) 6 (.int (gE (σ) 6 (l_3 : Int32).toNatClampNeg))) 3 (.int (l_3 + 1))) 5 (.int (l_5 + 1))) rfl rfl (ld_inc (vg_o (i := 3) (v := .int (l_3 + 1)) (vg_o (i := 6) (v := .int (gE (σ) 6 (l_3 : Int32).toNatClampNeg)) g_5 (by decide) (Or.inl rfl)) (by decide) (Or.inl rfl)) rfl) ?_
                    refine ev_x (i := .goto (-244)) (len := 3) (p' := 28) (s' := []) rfl rfl rfl ?_
                    exact ih _ _ _ _ _ _ _ (vg_o (i := 5) (v := .int (l_5 + 1)) (vg_o (i := 3) (v := .int (l_3 + 1)) (vg_o (i := 6) (v := .int (gE (σ) 6 (l_3 : Int32).toNatClampNeg)) g_0 (by decide) (Or.inl rfl)) (by decide) (Or.inl rfl)) (by decide) (Or.inl rfl)) (vg_o (i := 5) (v := .int (l_5 + 1)) (vg_o (i := 3) (v := .int (l_3 + 1)) (vg_o (i := 6) (v := .int (gE (σ) 6 (l_3 : Int32).toNatClampNeg)) g_2 (by decide) (Or.inl rfl)) (by decide) (Or.inl rfl)) (by decide) (Or.inl rfl)) (vg_o (i := 5) (v := .int (l_5 + 1)) (vg_s (vz_s1 (lv) 6 (.int (gE (σ) 6 (l_3 : Int32).toNatClampNeg))) 3 (.int (l_3 + 1))) (by decide) (Or.inl rfl)) (vg_o (i := 5) (v := .int (l_5 + 1)) (vg_o (i := 3) (v := .int (l_3 + 1)) (vg_o (i := 6) (v := .int (gE (σ) 6 (l_3 : Int32).toNatClampNeg)) g_4 (by decide) (Or.inl rfl)) (by decide) (Or.inl rfl)) (by decide) (Or.inl rfl)) (vg_s (vz_s1 (vz_s1 (lv) 6 (.int (gE (σ) 6 (l_3 : Int32).toNatClampNeg))) 3 (.int (l_3 + 1))) 5 (.int (l_5 + 1))) (nb_s1 (nb_s1 (nb_s1 hnb rfl) rfl) rfl) ((congrFun (congrFun e_17 42) 3).trans hr_42_3) ((congrFun (congrFun e_17 42) 4).trans hr_42_4) H
                  · refine ev_b2 (t := 259) (p' := 211) rfl rfl rfl (if_neg c_16) ?_
                    refine ev_x (i := .aload_n 0) (len := 1) (p' := 212) (s' := [.ref 42]) rfl rfl (ld_a (vg_o (i := 6) (v := .int (gE (σ) 6 (l_3 : Int32).toNatClampNeg)) g_0 (by decide) (Or.inl rfl))) ?_
                    refine ev_x (i := .iload_n 3) (len := 1) (p' := 213) (s' := [.int l_3, .ref 42]) rfl rfl (ld_i (vg_o (i := 6) (v := .int (gE (σ) 6 (l_3 : Int32).toNatClampNeg)) g_3 (by decide) (Or.inl rfl))) ?_
                    refine ev_x (i := .iload 6) (len := 2) (p' := 215) (s' := [.int (gE (σ) 6 (l_3 : Int32).toNatClampNeg), .int l_3, .ref 42]) rfl rfl (ld_i (vg_s (lv) 6 (.int (gE (σ) 6 (l_3 : Int32).toNatClampNeg)))) ?_
                    obtain ⟨p_18, G_18, H⟩ := F_bd H
                    refine ev_cv (d := d + 2) (As := [.int l_3, .int (gE (σ) 6 (l_3 : Int32).toNatClampNeg)]) (a := 42) (p' := 218) rfl rfl rfl ly_42 rfl rfl rfl rfl rfl (nb_s1 hnb rfl) rfl (F_72_ok (d := d + 0) (ht := (Or.inl rfl)) (hr_42_4 := hr_42_4) G_18) ?_
                    refine ev_st (st' := [.int p_18.1]) rfl ?_
                    have e_18 := F_72_R G_18
                    refine ev_x (i := .istore 7) (len := 2) (p' := 220) (s' := []) (l' := vz_s1 (vz_s1 (lv) 6 (.int (gE (σ) 6 (l_3 : Int32).toNatClampNeg))) 7 (.int p_18.1)) rfl rfl rfl ?_
                    refine ev_x (i := .iload 7) (len := 2) (p' := 222) (s' := [.int p_18.1]) rfl rfl (ld_i (vg_s (vz_s1 (lv) 6 (.int (gE (σ) 6 (l_3 : Int32).toNatClampNeg))) 7 (.int p_18.1))) ?_
                    refine F_if H (fun c_19 H => ?_) (fun c_19 H => ?_)
                    · refine ev_b0 (t := 232) (p' := 225) rfl rfl rfl (if_neg (fun q => q c_19)) ?_
                      refine ev_x (i := .aload_n 0) (len := 1) (p' := 226) (s' := [.ref 42]) rfl rfl (ld_a (vg_o (i := 7) (v := .int p_18.1) (vg_o (i := 6) (v := .int (gE (σ) 6 (l_3 : Int32).toNatClampNeg)) g_0 (by decide) (Or.inl rfl)) (by decide) (Or.inl rfl))) ?_
                      refine ev_x (i := .iload_n 3) (len := 1) (p' := 227) (s' := [.int l_3, .ref 42]) rfl rfl (ld_i (vg_o (i := 7) (v := .int p_18.1) (vg_o (i := 6) (v := .int (gE (σ) 6 (l_3 : Int32).toNatClampNeg)) g_3 (by decide) (Or.inl rfl)) (by decide) (Or.inl rfl))) ?_
                      obtain ⟨p_20, G_20, H⟩ := F_bd H
                      refine ev_cv (d := d + 2) (As := [.int l_3]) (a := 42) (p' := 230) rfl rfl rfl ly_42 rfl rfl rfl rfl rfl (nb_s1 (nb_s1 hnb rfl) rfl) rfl (F_74_ok (d := d + 0) (ht := (Or.inl rfl)) (hr_42_4 := ((congrFun (congrFun e_18 42) 4).trans hr_42_4)) G_20) ?_
                      refine ev_st (st' := [.int p_20.1]) rfl ?_
                      have e_20 := F_74_R G_20
                      refine ev_x (i := .istore 7) (len := 2) (p' := 232) (s' := []) (l' := vz_s1 (vz_s1 (vz_s1 (lv) 6 (.int (gE (σ) 6 (l_3 : Int32).toNatClampNeg))) 7 (.int p_18.1)) 7 (.int p_20.1)) rfl rfl rfl ?_
                      refine ev_x (i := .iload 7) (len := 2) (p' := 234) (s' := [.int p_20.1]) rfl rfl (ld_i (vg_s (vz_s1 (vz_s1 (lv) 6 (.int (gE (σ) 6 (l_3 : Int32).toNatClampNeg))) 7 (.int p_18.1)) 7 (.int p_20.1))) ?_
                      refine F_if H (fun c_21 H => ?_) (fun c_21 H => ?_)
                      · refine ev_b0 (t := 253) (p' := 253) rfl rfl rfl (if_pos c_21) ?_
                        refine ev_x (i := .iinc 3 1) (len := 3) (p' := 256) (s' := []) (l' := vz_s1 (vz_s1 (vz_s1 (vz_s1 (lv) 6 (.int (gE (σ) 6 (l_3 : Int32).toNatClampNeg))) 7 (.int p_18.1)) 7 (.int p_20.1)) 3 (.int (l_3 + 1))) rfl rfl (ld_inc (vg_o (i := 7) (v := .int p_20.1) (vg_o (i := 7) (v := .int p_18.1) (vg_o (i := 6) (v := .int (gE (σ) 6 (l_3 : Int32).toNatClampNeg)) g_3 (by decide) (Or.inl rfl)) (by decide) (Or.inl rfl)) (by decide) (Or.inl rfl)) rfl) ?_
                        refine ev_x (i := .goto 13) (len := 3) (p' := 269) (s' := []) rfl rfl rfl ?_
                        refine ev_x (i := .iinc 5 1) (len := 3) (p' := 272) (s' := []) (l' := vz_s1 (vz_s1 (vz_s1 (vz_s1 (vz_s1 (lv) 6 (.int (gE (σ) 6 (l_3 : Int32).toNatClampNeg))) 7 (.int p_18.1)) 7 (.int p_20.1)) 3 (.int (l_3 + 1))) 5 (.int (l_5 + 1))) rfl rfl (ld_inc (vg_o (i := 3) (v := .int (l_3 + 1)) (vg_o (i := 7) (v := .int p_20.1) (vg_o (i := 7) (v := .int p_18.1) (vg_o (i := 6) (v := .int (gE (σ) 6 (l_3 : Int32).toNatClampNeg)) g_5 (by decide) (Or.inl rfl)) (by decide) (Or.inl rfl)) (by decide) (Or.inl rfl)) (by decide) (Or.inl rfl)) rfl) ?_
                        refine ev_x (i := .goto (-244)) (len := 3) (p' := 28) (s' := []) rfl rfl rfl ?_
                        exact ih _ _ _ _ _ _ _ (vg_o (i := 5) (v := .int (l_5 + 1)) (vg_o (i := 3) (v := .int (l_3 + 1)) (vg_o (i := 7) (v := .int p_20.1) (vg_o (i := 7) (v := .int p_18.1) (vg_o (i := 6) (v := .int (gE (σ) 6 (l_3 : Int32).toNatClampNeg)) g_0 (by decide) (Or.inl rfl)) (by decide) (Or.inl rfl)) (by decide) (Or.inl rfl)) (by decide) (Or.inl rfl)) (by decide) (Or.inl rfl)) (vg_o (i := 5) (v := .int (l_5 + 1)) (vg_o (i := 3) (v := .int (l_3 + 1)) (vg_o (i := 7) (v := .int p_20.1) (vg_o (i := 7) (v := .int p_18.1) (vg_o (i := 6) (v := .int (gE (σ) 6 (l_3 : Int32).toNatClampNeg)) g_2 (by decide) (Or.inl rfl)) (by decide) (Or.inl rfl)) (by decide) (Or.inl rfl)) (by decide) (Or.inl rfl)) (by decide) (Or.inl rfl)) (vg_o (i := 5) (v := .int (l_5 + 1)) (vg_s (vz_s1 (vz_s1 (vz_s1 (lv) 6 (.int (gE (σ) 6 (l_3 : Int32).toNatClampNeg))) 7 (.int p_18.1)) 7 (.int p_20.1)) 3 (.int (l_3 + 1))) (by decide) (Or.inl rfl)) (vg_o (i := 5) (v := .int (l_5 + 1)) (vg_o (i := 3) (v := .int (l_3 + 1)) (vg_o (i := 7) (v := .int p_20.1) (vg_o (i := 7) (v := .int p_18.1) (vg_o (i := 6) (v := .int (gE (σ) 6 (l_3 : Int32).toNatClampNeg)) g_4 (by decide) (Or.inl rfl)) (by decide) (Or.inl rfl)) (by decide) (Or.inl rfl)) (by decide) (Or.inl rfl)) (by decide) (Or.inl rfl)) (vg_s (vz_s1 (vz_s1 (vz_s1 (vz_s1 (lv) 6 (.int (gE (σ) 6 (l_3 : Int32).toNatClampNeg))) 7 (.int p_18.1)) 7 (.int p_20.1)) 3 (.int (l_3 + 1))) 5 (.int (l_5 + 1))) (nb_s1 (nb_s1 (nb_s1 (nb_s1 (nb_s1 hnb rfl) rfl) rfl) rfl) rfl) ((congrFun (congrFun e_20 42) 3).trans ((congrFun (congrFun e_18 42) 3).trans hr_42_3)) ((congrFun (congrFun e_20 42) 4).trans ((congrFun (congrFun e_18 42) 4).trans hr_42_4)) H
                      · refine ev_b0 (t := 253) (p' := 237) rfl rfl rfl (if_neg c_21) ?_
                        refine ev_x (i := .aload_n 0) (len := 1) (p' := 238) (s' := [.ref 42]) rfl rfl (ld_a (vg_o (i := 7) (v := .int p_20.1) (vg_o (i := 7) (v := .int p_18.1) (vg_o (i := 6) (v := .int (gE (σ) 6 (l_3 : Int32).toNatClampNeg)) g_0 (by decide) (Or.inl rfl)) (by decide) (Or.inl rfl)) (by decide) (Or.inl rfl))) ?_
                        refine ev_x (i := .aload_n 0) (len := 1) (p' := 239) (s' := [.ref 42, .ref 42]) rfl rfl (ld_a (vg_o (i := 7) (v := .int p_20.1) (vg_o (i := 7) (v := .int p_18.1) (vg_o (i := 6) (v := .int (gE (σ) 6 (l_3 : Int32).toNatClampNeg)) g_0 (by decide) (Or.inl rfl)) (by decide) (Or.inl rfl)) (by decide) (Or.inl rfl))) ?_
                        refine ev_gr (p' := 242) (v := 5) rfl rfl rfl ly_42 rfl rfl ((congrFun (congrFun e_20 42) 4).trans ((congrFun (congrFun e_18 42) 4).trans hr_42_4)) ?_
                        refine ev_gc (p' := 245) (v := 7) rfl rfl rfl ly_5 rfl rfl ?_
                        refine ev_x (i := .iload_n 3) (len := 1) (p' := 246) (s' := [.int l_3, .ref 7, .ref 42]) rfl rfl (ld_i (vg_o (i := 7) (v := .int p_20.1) (vg_o (i := 7) (v := .int p_18.1) (vg_o (i := 6) (v := .int (gE (σ) 6 (l_3 : Int32).toNatClampNeg)) g_3 (by decide) (Or.inl rfl)) (by decide) (Or.inl rfl)) (by decide) (Or.inl rfl))) ?_
                        obtain ⟨b_22, H⟩ := F_gd H
                        refine ev_ga (p' := 247) (v := (gE (p_20.2) 7 (l_3 : Int32).toNatClampNeg)) rfl rfl ly_7 rfl (gd_in b_22) rfl ?_
                        refine ev_pi (p' := 250) rfl rfl rfl ly_42 rfl rfl rfl rfl ?_
                        refine ev_x (i := .iload 7) (len := 2) (p' := 252) (s' := [.int p_20.1]) rfl rfl (ld_i (vg_s (vz_s1 (vz_s1 (lv) 6 (.int (gE (σ) 6 (l_3 : Int32).toNatClampNeg))) 7 (.int p_18.1)) 7 (.int p_20.1))) ?_
                        obtain rfl := Option.some.inj H
                        exact ev_iret rfl rfl rfl rfl
                    · refine ev_b0 (t := 232) (p' := 232) rfl rfl rfl (if_pos c_19) ?_
                      refine ev_x (i := .iload 7) (len := 2) (p' := 234) (s' := [.int p_18.1]) rfl rfl (ld_i (vg_s (vz_s1 (lv) 6 (.int (gE (σ) 6 (l_3 : Int32).toNatClampNeg))) 7 (.int p_18.1))) ?_
                      refine ev_b0 (t := 253) (p' := 237) rfl rfl rfl (if_neg c_19) ?_
                      refine ev_x (i := .aload_n 0) (len := 1) (p' := 238) (s' := [.ref 42]) rfl rfl (ld_a (vg_o (i := 7) (v := .int p_18.1) (vg_o (i := 6) (v := .int (gE (σ) 6 (l_3 : Int32).toNatClampNeg)) g_0 (by decide) (Or.inl rfl)) (by decide) (Or.inl rfl))) ?_
                      refine ev_x (i := .aload_n 0) (len := 1) (p' := 239) (s' := [.ref 42, .ref 42]) rfl rfl (ld_a (vg_o (i := 7) (v := .int p_18.1) (vg_o (i := 6) (v := .int (gE (σ) 6 (l_3 : Int32).toNatClampNeg)) g_0 (by decide) (Or.inl rfl)) (by decide) (Or.inl rfl))) ?_
                      refine ev_gr (p' := 242) (v := 5) rfl rfl rfl ly_42 rfl rfl ((congrFun (congrFun e_18 42) 4).trans hr_42_4) ?_
                      refine ev_gc (p' := 245) (v := 7) rfl rfl rfl ly_5 rfl rfl ?_
                      refine ev_x (i := .iload_n 3) (len := 1) (p' := 246) (s' := [.int l_3, .ref 7, .ref 42]) rfl rfl (ld_i (vg_o (i := 7) (v := .int p_18.1) (vg_o (i := 6) (v := .int (gE (σ) 6 (l_3 : Int32).toNatClampNeg)) g_3 (by decide) (Or.inl rfl)) (by decide) (Or.inl rfl))) ?_
                      obtain ⟨b_23, H⟩ := F_gd H
                      refine ev_ga (p' := 247) (v := (gE (p_18.2) 7 (l_3 : Int32).toNatClampNeg)) rfl rfl ly_7 rfl (gd_in b_23) rfl ?_
                      refine ev_pi (p' := 250) rfl rfl rfl ly_42 rfl rfl rfl rfl ?_
                      refine ev_x (i := .iload 7) (len := 2) (p' := 252) (s' := [.int p_18.1]) rfl rfl (ld_i (vg_s (vz_s1 (lv) 6 (.int (gE (σ) 6 (l_3 : Int32).toNatClampNeg))) 7 (.int p_18.1))) ?_
                      obtain rfl := Option.some.inj H
                      exact ev_iret rfl rfl rfl rfl
              · refine ev_b2 (t := 198) (p' := 169) rfl rfl rfl (if_neg c_13) ?_
                refine ev_x (i := .aload_n 0) (len := 1) (p' := 170) (s' := [.ref 42]) rfl rfl (ld_a (vg_o (i := 6) (v := .int (gE (σ) 6 (l_3 : Int32).toNatClampNeg)) g_0 (by decide) (Or.inl rfl))) ?_
                refine ev_x (i := .iload_n 3) (len := 1) (p' := 171) (s' := [.int l_3, .ref 42]) rfl rfl (ld_i (vg_o (i := 6) (v := .int (gE (σ) 6 (l_3 : Int32).toNatClampNeg)) g_3 (by decide) (Or.inl rfl))) ?_
                refine ev_x (i := .iload 6) (len := 2) (p' := 173) (s' := [.int (gE (σ) 6 (l_3 : Int32).toNatClampNeg), .int l_3, .ref 42]) rfl rfl (ld_i (vg_s (lv) 6 (.int (gE (σ) 6 (l_3 : Int32).toNatClampNeg)))) ?_
                obtain ⟨p_24, G_24, H⟩ := F_bd H
                refine ev_cv (d := d + 2) (As := [.int l_3, .int (gE (σ) 6 (l_3 : Int32).toNatClampNeg)]) (a := 42) (p' := 176) rfl rfl rfl ly_42 rfl rfl rfl rfl rfl (nb_s1 hnb rfl) rfl (F_71_ok (d := d + 1) (ht := (Or.inl rfl)) (hr_42_4 := hr_42_4) G_24) ?_
                refine ev_st (st' := [.int p_24.1]) rfl ?_
                have e_24 := F_71_R G_24
                refine F_if H (fun c_25 H => ?_) (fun c_25 H => ?_)
                · refine ev_b0 (t := 191) (p' := 191) rfl rfl rfl (if_pos c_25) ?_
                  refine ev_x (i := .iload_n 3) (len := 1) (p' := 192) (s' := [.int l_3]) rfl rfl (ld_i (vg_o (i := 6) (v := .int (gE (σ) 6 (l_3 : Int32).toNatClampNeg)) g_3 (by decide) (Or.inl rfl))) ?_
                  refine ev_x (i := .iconst 1) (len := 1) (p' := 193) (s' := [.int 1, .int l_3]) rfl rfl rfl ?_
                  refine ev_x (i := .iadd) (len := 1) (p' := 194) (s' := [.int (l_3 + 1)]) rfl rfl rfl ?_
                  refine ev_x (i := .istore_n 3) (len := 1) (p' := 195) (s' := []) (l' := vz_s1 (vz_s1 (lv) 6 (.int (gE (σ) 6 (l_3 : Int32).toNatClampNeg))) 3 (.int (l_3 + 1))) rfl rfl rfl ?_
                  refine ev_x (i := .goto 74) (len := 3) (p' := 269) (s' := []) rfl rfl rfl ?_
                  refine ev_x (i := .iinc 5 1) (len := 3) (p' := 272) (s' := []) (l' := vz_s1 (vz_s1 (vz_s1 (lv) 6 (.int (gE (σ) 6 (l_3 : Int32).toNatClampNeg))) 3 (.int (l_3 + 1))) 5 (.int (l_5 + 1))) rfl rfl (ld_inc (vg_o (i := 3) (v := .int (l_3 + 1)) (vg_o (i := 6) (v := .int (gE (σ) 6 (l_3 : Int32).toNatClampNeg)) g_5 (by decide) (Or.inl rfl)) (by decide) (Or.inl rfl)) rfl) ?_
                  refine ev_x (i := .goto (-244)) (len := 3) (p' := 28) (s' := []) rfl rfl rfl ?_
                  exact ih _ _ _ _ _ _ _ (vg_o (i := 5) (v := .int (l_5 + 1)) (vg_o (i := 3) (v := .int (l_3 + 1)) (vg_o (i := 6) (v := .int (gE (σ) 6 (l_3 : Int32).toNatClampNeg)) g_0 (by decide) (Or.inl rfl)) (by decide) (Or.inl rfl)) (by decide) (Or.inl rfl)) (vg_o (i := 5) (v := .int (l_5 + 1)) (vg_o (i := 3) (v := .int (l_3 + 1)) (vg_o (i := 6) (v := .int (gE (σ) 6 (l_3 : Int32).toNatClampNeg)) g_2 (by decide) (Or.inl rfl)) (by decide) (Or.inl rfl)) (by decide) (Or.inl rfl)) (vg_o (i := 5) (v := .int (l_5 + 1)) (vg_s (vz_s1 (lv) 6 (.int (gE (σ) 6 (l_3 : Int32).toNatClampNeg))) 3 (.int (l_3 + 1))) (by decide) (Or.inl rfl)) (vg_o (i := 5) (v := .int (l_5 + 1)) (vg_o (i := 3) (v := .int (l_3 + 1)) (vg_o (i := 6) (v := .int (gE (σ) 6 (l_3 : Int32).toNatClampNeg)) g_4 (by decide) (Or.inl rfl)) (by decide) (Or.inl rfl)) (by decide) (Or.inl rfl)) (vg_s (vz_s1 (vz_s1 (lv) 6 (.int (gE (σ) 6 (l_3 : Int32).toNatClampNeg))) 3 (.int (l_3 + 1))) 5 (.int (l_5 + 1))) (nb_s1 (nb_s1 (nb_s1 hnb rfl) rfl) rfl) ((congrFun (congrFun e_24 42) 3).trans hr_42_3) ((congrFun (congrFun e_24 42) 4).trans hr_42_4) H
                · refine ev_b0 (t := 191) (p' := 179) rfl rfl rfl (if_neg c_25) ?_
                  refine ev_x (i := .aload_n 0) (len := 1) (p' := 180) (s' := [.ref 42]) rfl rfl (ld_a (vg_o (i := 6) (v := .int (gE (σ) 6 (l_3 : Int32).toNatClampNeg)) g_0 (by decide) (Or.inl rfl))) ?_
                  refine ev_gr (p' := 183) (v := 5) rfl rfl rfl ly_42 rfl rfl ((congrFun (congrFun e_24 42) 4).trans hr_42_4) ?_
                  refine ev_gc (p' := 186) (v := 10) rfl rfl rfl ly_5 rfl rfl ?_
                  refine ev_x (i := .iload_n 3) (len := 1) (p' := 187) (s' := [.int l_3, .ref 10]) rfl rfl (ld_i (vg_o (i := 6) (v := .int (gE (σ) 6 (l_3 : Int32).toNatClampNeg)) g_3 (by decide) (Or.inl rfl))) ?_
                  obtain ⟨b_26, H⟩ := F_gd H
                  refine ev_ga (p' := 188) (v := (gE (p_24.2) 10 (l_3 : Int32).toNatClampNeg)) rfl rfl ly_10 rfl (gd_in b_26) rfl ?_
                  refine ev_x (i := .goto 6) (len := 3) (p' := 194) (s' := [.int (gE (p_24.2) 10 (l_3 : Int32).toNatClampNeg)]) rfl rfl rfl ?_
                  refine ev_x (i := .istore_n 3) (len := 1) (p' := 195) (s' := []) (l' := vz_s1 (vz_s1 (lv) 6 (.int (gE (σ) 6 (l_3 : Int32).toNatClampNeg))) 3 (.int (gE (p_24.2) 10 (l_3 : Int32).toNatClampNeg))) rfl rfl rfl ?_
                  refine ev_x (i := .goto 74) (len := 3) (p' := 269) (s' := []) rfl rfl rfl ?_
                  refine ev_x (i := .iinc 5 1) (len := 3) (p' := 272) (s' := []) (l' := vz_s1 (vz_s1 (vz_s1 (lv) 6 (.int (gE (σ) 6 (l_3 : Int32).toNatClampNeg))) 3 (.int (gE (p_24.2) 10 (l_3 : Int32).toNatClampNeg))) 5 (.int (l_5 + 1))) rfl rfl (ld_inc (vg_o (i := 3) (v := .int (gE (p_24.2) 10 (l_3 : Int32).toNatClampNeg)) (vg_o (i := 6) (v := .int (gE (σ) 6 (l_3 : Int32).toNatClampNeg)) g_5 (by decide) (Or.inl rfl)) (by decide) (Or.inl rfl)) rfl) ?_
                  refine ev_x (i := .goto (-244)) (len := 3) (p' := 28) (s' := []) rfl rfl rfl ?_
                  exact ih _ _ _ _ _ _ _ (vg_o (i := 5) (v := .int (l_5 + 1)) (vg_o (i := 3) (v := .int (gE (p_24.2) 10 (l_3 : Int32).toNatClampNeg)) (vg_o (i := 6) (v := .int (gE (σ) 6 (l_3 : Int32).toNatClampNeg)) g_0 (by decide) (Or.inl rfl)) (by decide) (Or.inl rfl)) (by decide) (Or.inl rfl)) (vg_o (i := 5) (v := .int (l_5 + 1)) (vg_o (i := 3) (v := .int (gE (p_24.2) 10 (l_3 : Int32).toNatClampNeg)) (vg_o (i := 6) (v := .int (gE (σ) 6 (l_3 : Int32).toNatClampNeg)) g_2 (by decide) (Or.inl rfl)) (by decide) (Or.inl rfl)) (by decide) (Or.inl rfl)) (vg_o (i := 5) (v := .int (l_5 + 1)) (vg_s (vz_s1 (lv) 6 (.int (gE (σ) 6 (l_3 : Int32).toNatClampNeg))) 3 (.int (gE (p_24.2) 10 (l_3 : Int32).toNatClampNeg))) (by decide) (Or.inl rfl)) (vg_o (i := 5) (v := .int (l_5 + 1)) (vg_o (i := 3) (v := .int (gE (p_24.2) 10 (l_3 : Int32).toNatClampNeg)) (vg_o (i := 6) (v := .int (gE (σ) 6 (l_3 : Int32).toNatClampNeg)) g_4 (by decide) (Or.inl rfl)) (by decide) (Or.inl rfl)) (by decide) (Or.inl rfl)) (vg_s (vz_s1 (vz_s1 (lv) 6 (.int (gE (σ) 6 (l_3 : Int32).toNatClampNeg))) 3 (.int (gE (p_24.2) 10 (l_3 : Int32).toNatClampNeg))) 5 (.int (l_5 + 1))) (nb_s1 (nb_s1 (nb_s1 hnb rfl) rfl) rfl) ((congrFun (congrFun e_24 42) 3).trans hr_42_3) ((congrFun (congrFun e_24 42) 4).trans hr_42_4) H
            · refine ev_b2 (t := 162) (p' := 117) rfl rfl rfl (if_neg c_12) ?_
              refine ev_x (i := .iload_n 2) (len := 1) (p' := 118) (s' := [.int l_2]) rfl rfl (ld_i (vg_o (i := 6) (v := .int (gE (σ) 6 (l_3 : Int32).toNatClampNeg)) g_2 (by decide) (Or.inl rfl))) ?_
              refine ev_x (i := .bipush 60) (len := 2) (p' := 120) (s' := [.int 60, .int l_2]) rfl rfl rfl ?_
              refine F_if H (fun c_27 H => ?_) (fun c_27 H => ?_)
              · refine ev_b2 (t := 162) (p' := 162) rfl rfl rfl (if_pos c_27) ?_
                refine ev_x (i := .iload 6) (len := 2) (p' := 164) (s' := [.int (gE (σ) 6 (l_3 : Int32).toNatClampNeg)]) rfl rfl (ld_i (vg_s (lv) 6 (.int (gE (σ) 6 (l_3 : Int32).toNatClampNeg)))) ?_
                refine ev_x (i := .bipush 23) (len := 2) (p' := 166) (s' := [.int 23, .int (gE (σ) 6 (l_3 : Int32).toNatClampNeg)]) rfl rfl rfl ?_
                refine F_if H (fun c_28 H => ?_) (fun c_28 H => ?_)
                · refine ev_b2 (t := 198) (p' := 198) rfl rfl rfl (if_pos c_28) ?_
                  refine ev_x (i := .iload 6) (len := 2) (p' := 200) (s' := [.int (gE (σ) 6 (l_3 : Int32).toNatClampNeg)]) rfl rfl (ld_i (vg_s (lv) 6 (.int (gE (σ) 6 (l_3 : Int32).toNatClampNeg)))) ?_
                  refine ev_x (i := .iconst 4) (len := 1) (p' := 201) (s' := [.int 4, .int (gE (σ) 6 (l_3 : Int32).toNatClampNeg)]) rfl rfl rfl ?_
                  refine F_if H (fun c_29 H => ?_) (fun c_29 H => ?_)
                  · refine ev_b2 (t := 259) (p' := 259) rfl rfl rfl (if_pos c_29) ?_
                    refine ev_x (i := .aload_n 0) (len := 1) (p' := 260) (s' := [.ref 42]) rfl rfl (ld_a (vg_o (i := 6) (v := .int (gE (σ) 6 (l_3 : Int32).toNatClampNeg)) g_0 (by decide) (Or.inl rfl))) ?_
                    refine ev_x (i := .iload_n 3) (len := 1) (p' := 261) (s' := [.int l_3, .ref 42]) rfl rfl (ld_i (vg_o (i := 6) (v := .int (gE (σ) 6 (l_3 : Int32).toNatClampNeg)) g_3 (by decide) (Or.inl rfl))) ?_
                    refine ev_x (i := .iload 6) (len := 2) (p' := 263) (s' := [.int (gE (σ) 6 (l_3 : Int32).toNatClampNeg), .int l_3, .ref 42]) rfl rfl (ld_i (vg_s (lv) 6 (.int (gE (σ) 6 (l_3 : Int32).toNatClampNeg)))) ?_
                    obtain ⟨p_30, G_30, H⟩ := F_bd H
                    refine ev_cv (d := d + 2) (As := [.int l_3, .int (gE (σ) 6 (l_3 : Int32).toNatClampNeg)]) (a := 42) (p' := 266) rfl rfl rfl ly_42 rfl rfl rfl rfl rfl (nb_s1 hnb rfl) rfl (F_76_ok (d := d + 0) (ht := (Or.inl rfl)) (hr_42_3 := hr_42_3) (hr_42_4 := hr_42_4) G_30) ?_
                    refine ev_st (st' := []) rfl ?_
                    have e_30 := F_76_R G_30
                    refine ev_x (i := .iinc 3 1) (len := 3) (p' := 269) (s' := []) (l' := vz_s1 (vz_s1 (lv) 6 (.int (gE (σ) 6 (l_3 : Int32).toNatClampNeg))) 3 (.int (l_3 + 1))) rfl rfl (ld_inc (vg_o (i := 6) (v := .int (gE (σ) 6 (l_3 : Int32).toNatClampNeg)) g_3 (by decide) (Or.inl rfl)) rfl) ?_
                    refine ev_x (i := .iinc 5 1) (len := 3) (p' := 272) (s' := []) (l' := vz_s1 (vz_s1 (vz_s1 (lv) 6 (.int (gE (σ) 6 (l_3 : Int32).toNatClampNeg))) 3 (.int (l_3 + 1))) 5 (.int (l_5 + 1))) rfl rfl (ld_inc (vg_o (i := 3) (v := .int (l_3 + 1)) (vg_o (i := 6) (v := .int (gE (σ) 6 (l_3 : Int32).toNatClampNeg)) g_5 (by decide) (Or.inl rfl)) (by decide) (Or.inl rfl)) rfl) ?_
                    refine ev_x (i := .goto (-244)) (len := 3) (p' := 28) (s' := []) rfl rfl rfl ?_
                    exact ih _ _ _ _ _ _ _ (vg_o (i := 5) (v := .int (l_5 + 1)) (vg_o (i := 3) (v := .int (l_3 + 1)) (vg_o (i := 6) (v := .int (gE (σ) 6 (l_3 : Int32).toNatClampNeg)) g_0 (by decide) (Or.inl rfl)) (by decide) (Or.inl rfl)) (by decide) (Or.inl rfl)) (vg_o (i := 5) (v := .int (l_5 + 1)) (vg_o (i := 3) (v := .int (l_3 + 1)) (vg_o (i := 6) (v := .int (gE (σ) 6 (l_3 : Int32).toNatClampNeg)) g_2 (by decide) (Or.inl rfl)) (by decide) (Or.inl rfl)) (by decide) (Or.inl rfl)) (vg_o (i := 5) (v := .int (l_5 + 1)) (vg_s (vz_s1 (lv) 6 (.int (gE (σ) 6 (l_3 : Int32).toNatClampNeg))) 3 (.int (l_3 + 1))) (by decide) (Or.inl rfl)) (vg_o (i := 5) (v := .int (l_5 + 1)) (vg_o (i := 3) (v := .int (l_3 + 1)) (vg_o (i := 6) (v := .int (gE (σ) 6 (l_3 : Int32).toNatClampNeg)) g_4 (by decide) (Or.inl rfl)) (by decide) (Or.inl rfl)) (by decide) (Or.inl rfl)) (vg_s (vz_s1 (vz_s1 (lv) 6 (.int (gE (σ) 6 (l_3 : Int32).toNatClampNeg))) 3 (.int (l_3 + 1))) 5 (.int (l_5 + 1))) (nb_s1 (nb_s1 (nb_s1 hnb rfl) rfl) rfl) ((congrFun (congrFun e_30 42) 3).trans hr_42_3) ((congrFun (congrFun e_30 42) 4).trans hr_42_4) H
                  · refine ev_b2 (t := 259) (p' := 204) rfl rfl rfl (if_neg c_29) ?_
                    refine ev_x (i := .iload 6) (len := 2) (p' := 206) (s' := [.int (gE (σ) 6 (l_3 : Int32).toNatClampNeg)]) rfl rfl (ld_i (vg_s (lv) 6 (.int (gE (σ) 6 (l_3 : Int32).toNatClampNeg)))) ?_
                    refine ev_x (i := .bipush 8) (len := 2) (p' := 208) (s' := [.int 8, .int (gE (σ) 6 (l_3 : Int32).toNatClampNeg)]) rfl rfl rfl ?_
                    refine F_if H (fun c_31 H => ?_) (fun c_31 H => ?_)
                    · refine ev_b2 (t := 259) (p' := 259) rfl rfl rfl (if_pos c_31) ?_
                      refine ev_x (i := .aload_n 0) (len := 1) (p' := 260) (s' := [.ref 42]) rfl rfl (ld_a (vg_o (i := 6) (v := .int (gE (σ) 6 (l_3 : Int32).toNatClampNeg)) g_0 (by decide) (Or.inl rfl))) ?_
                      refine ev_x (i := .iload_n 3) (len := 1) (p' := 261) (s' := [.int l_3, .ref 42]) rfl rfl (ld_i (vg_o (i := 6) (v := .int (gE (σ) 6 (l_3 : Int32).toNatClampNeg)) g_3 (by decide) (Or.inl rfl))) ?_
                      refine ev_x (i := .iload 6) (len := 2) (p' := 263) (s' := [.int (gE (σ) 6 (l_3 : Int32).toNatClampNeg), .int l_3, .ref 42]) rfl rfl (ld_i (vg_s (lv) 6 (.int (gE (σ) 6 (l_3 : Int32).toNatClampNeg)))) ?_
                      obtain ⟨p_32, G_32, H⟩ := F_bd H
                      refine ev_cv (d := d + 2) (As := [.int l_3, .int (gE (σ) 6 (l_3 : Int32).toNatClampNeg)]) (a := 42) (p' := 266) rfl rfl rfl ly_42 rfl rfl rfl rfl rfl (nb_s1 hnb rfl) rfl (F_76_ok (d := d + 0) (ht := (Or.inl rfl)) (hr_42_3 := hr_42_3) (hr_42_4 := hr_42_4) G_32) ?_
                      refine ev_st (st' := []) rfl ?_
                      have e_32 := F_76_R G_32
                      refine ev_x (i := .iinc 3 1) (len := 3) (p' := 269) (s' := []) (l' := vz_s1 (vz_s1 (lv) 6 (.int (gE (σ) 6 (l_3 : Int32).toNatClampNeg))) 3 (.int (l_3 + 1))) rfl rfl (ld_inc (vg_o (i := 6) (v := .int (gE (σ) 6 (l_3 : Int32).toNatClampNeg)) g_3 (by decide) (Or.inl rfl)) rfl) ?_
                      refine ev_x (i := .iinc 5 1) (len := 3) (p' := 272) (s' := []) (l' := vz_s1 (vz_s1 (vz_s1 (lv) 6 (.int (gE (σ) 6 (l_3 : Int32).toNatClampNeg))) 3 (.int (l_3 + 1))) 5 (.int (l_5 + 1))) rfl rfl (ld_inc (vg_o (i := 3) (v := .int (l_3 + 1)) (vg_o (i := 6) (v := .int (gE (σ) 6 (l_3 : Int32).toNatClampNeg)) g_5 (by decide) (Or.inl rfl)) (by decide) (Or.inl rfl)) rfl) ?_
                      refine ev_x (i := .goto (-244)) (len := 3) (p' := 28) (s' := []) rfl rfl rfl ?_
                      exact ih _ _ _ _ _ _ _ (vg_o (i := 5) (v := .int (l_5 + 1)) (vg_o (i := 3) (v := .int (l_3 + 1)) (vg_o (i := 6) (v := .int (gE (σ) 6 (l_3 : Int32).toNatClampNeg)) g_0 (by decide) (Or.inl rfl)) (by decide) (Or.inl rfl)) (by decide) (Or.inl rfl)) (vg_o (i := 5) (v := .int (l_5 + 1)) (vg_o (i := 3) (v := .int (l_3 + 1)) (vg_o (i := 6) (v := .int (gE (σ) 6 (l_3 : Int32).toNatClampNeg)) g_2 (by decide) (Or.inl rfl)) (by decide) (Or.inl rfl)) (by decide) (Or.inl rfl)) (vg_o (i := 5) (v := .int (l_5 + 1)) (vg_s (vz_s1 (lv) 6 (.int (gE (σ) 6 (l_3 : Int32).toNatClampNeg))) 3 (.int (l_3 + 1))) (by decide) (Or.inl rfl)) (vg_o (i := 5) (v := .int (l_5 + 1)) (vg_o (i := 3) (v := .int (l_3 + 1)) (vg_o (i := 6) (v := .int (gE (σ) 6 (l_3 : Int32).toNatClampNeg)) g_4 (by decide) (Or.inl rfl)) (by decide) (Or.inl rfl)) (by decide) (Or.inl rfl)) (vg_s (vz_s1 (vz_s1 (lv) 6 (.int (gE (σ) 6 (l_3 : Int32).toNatClampNeg))) 3 (.int (l_3 + 1))) 5 (.int (l_5 + 1))) (nb_s1 (nb_s1 (nb_s1 hnb rfl) rfl) rfl) ((congrFun (congrFun e_32 42) 3).trans hr_42_3) ((congrFun (congrFun e_32 42) 4).trans hr_42_4) H
                    · refine ev_b2 (t := 259) (p' := 211) rfl rfl rfl (if_neg c_31) ?_
                      refine ev_x (i := .aload_n 0) (len := 1) (p' := 212) (s' := [.ref 42]) rfl rfl (ld_a (vg_o (i := 6) (v := .int (gE (σ) 6 (l_3 : Int32).toNatClampNeg)) g_0 (by decide) (Or.inl rfl))) ?_
                      refine ev_x (i := .iload_n 3) (len := 1) (p' := 213) (s' := [.int l_3, .ref 42]) rfl rfl (ld_i (vg_o (i := 6) (v := .int (gE (σ) 6 (l_3 : Int32).toNatClampNeg)) g_3 (by decide) (Or.inl rfl))) ?_
                      refine ev_x (i := .iload 6) (len := 2) (p' := 215) (s' := [.int (gE (σ) 6 (l_3 : Int32).toNatClampNeg), .int l_3, .ref 42]) rfl rfl (ld_i (vg_s (lv) 6 (.int (gE (σ) 6 (l_3 : Int32).toNatClampNeg)))) ?_
                      obtain ⟨p_33, G_33, H⟩ := F_bd H
                      refine ev_cv (d := d + 2) (As := [.int l_3, .int (gE (σ) 6 (l_3 : Int32).toNatClampNeg)]) (a := 42) (p' := 218) rfl rfl rfl ly_42 rfl rfl rfl rfl rfl (nb_s1 hnb rfl) rfl (F_72_ok (d := d + 0) (ht := (Or.inl rfl)) (hr_42_4 := hr_42_4) G_33) ?_
                      refine ev_st (st' := [.int p_33.1]) rfl ?_
                      have e_33 := F_72_R G_33
                      refine ev_x (i := .istore 7) (len := 2) (p' := 220) (s' := []) (l' := vz_s1 (vz_s1 (lv) 6 (.int (gE (σ) 6 (l_3 : Int32).toNatClampNeg))) 7 (.int p_33.1)) rfl rfl rfl ?_
                      refine ev_x (i := .iload 7) (len := 2) (p' := 222) (s' := [.int p_33.1]) rfl rfl (ld_i (vg_s (vz_s1 (lv) 6 (.int (gE (σ) 6 (l_3 : Int32).toNatClampNeg))) 7 (.int p_33.1))) ?_
                      refine F_if H (fun c_34 H => ?_) (fun c_34 H => ?_)
                      · refine ev_b0 (t := 232) (p' := 225) rfl rfl rfl (if_neg (fun q => q c_34)) ?_
                        refine ev_x (i := .aload_n 0) (len := 1) (p' := 226) (s' := [.ref 42]) rfl rfl (ld_a (vg_o (i := 7) (v := .int p_33.1) (vg_o (i := 6) (v := .int (gE (σ) 6 (l_3 : Int32).toNatClampNeg)) g_0 (by decide) (Or.inl rfl)) (by decide) (Or.inl rfl))) ?_
                        refine ev_x (i := .iload_n 3) (len := 1) (p' := 227) (s' := [.int l_3, .ref 42]) rfl rfl (ld_i (vg_o (i := 7) (v := .int p_33.1) (vg_o (i := 6) (v := .int (gE (σ) 6 (l_3 : Int32).toNatClampNeg)) g_3 (by decide) (Or.inl rfl)) (by decide) (Or.inl rfl))) ?_
                        obtain ⟨p_35, G_35, H⟩ := F_bd H
                        refine ev_cv (d := d + 2) (As := [.int l_3]) (a := 42) (p' := 230) rfl rfl rfl ly_42 rfl rfl rfl rfl rfl (nb_s1 (nb_s1 hnb rfl) rfl) rfl (F_74_ok (d := d + 0) (ht := (Or.inl rfl)) (hr_42_4 := ((congrFun (congrFun e_33 42) 4).trans hr_42_4)) G_35) ?_
                        refine ev_st (st' := [.int p_35.1]) rfl ?_
                        have e_35 := F_74_R G_35
                        refine ev_x (i := .istore 7) (len := 2) (p' := 232) (s' := []) (l' := vz_s1 (vz_s1 (vz_s1 (lv) 6 (.int (gE (σ) 6 (l_3 : Int32).toNatClampNeg))) 7 (.int p_33.1)) 7 (.int p_35.1)) rfl rfl rfl ?_
                        refine ev_x (i := .iload 7) (len := 2) (p' := 234) (s' := [.int p_35.1]) rfl rfl (ld_i (vg_s (vz_s1 (vz_s1 (lv) 6 (.int (gE (σ) 6 (l_3 : Int32).toNatClampNeg))) 7 (.int p_33.1)) 7 (.int p_35.1))) ?_
                        refine F_if H (fun c_36 H => ?_) (fun c_36 H => ?_)
                        · refine ev_b0 (t := 253) (p' := 253) rfl rfl rfl (if_pos c_36) ?_
                          refine ev_x (i := .iinc 3 1) (len := 3) (p' := 256) (s' := []) (l' := vz_s1 (vz_s1 (vz_s1 (vz_s1 (lv) 6 (.int (gE (σ) 6 (l_3 : Int32).toNatClampNeg))) 7 (.int p_33.1)) 7 (.int p_35.1)) 3 (.int (l_3 + 1))) rfl rfl (ld_inc (vg_o (i := 7) (v := .int p_35.1) (vg_o (i := 7) (v := .int p_33.1) (vg_o (i := 6) (v := .int (gE (σ) 6 (l_3 : Int32).toNatClampNeg)) g_3 (by decide) (Or.inl rfl)) (by decide) (Or.inl rfl)) (by decide) (Or.inl rfl)) rfl) ?_
                          refine ev_x (i := .goto 13) (len := 3) (p' := 269) (s' := []) rfl rfl rfl ?_
                          refine ev_x (i := .iinc 5 1) (len := 3) (p' := 272) (s' := []) (l' := vz_s1 (vz_s1 (vz_s1 (vz_s1 (vz_s1 (lv) 6 (.int (gE (σ) 6 (l_3 : Int32).toNatClampNeg))) 7 (.int p_33.1)) 7 (.int p_35.1)) 3 (.int (l_3 + 1))) 5 (.int (l_5 + 1))) rfl rfl (ld_inc (vg_o (i := 3) (v := .int (l_3 + 1)) (vg_o (i := 7) (v := .int p_35.1) (vg_o (i := 7) (v := .int p_33.1) (vg_o (i := 6) (v := .int (gE (σ) 6 (l_3 : Int32).toNatClampNeg)) g_5 (by decide) (Or.inl rfl)) (by decide) (Or.inl rfl)) (by decide) (Or.inl rfl)) (by decide) (Or.inl rfl)) rfl) ?_
                          refine ev_x (i := .goto (-244)) (len := 3) (p' := 28) (s' := []) rfl rfl rfl ?_
                          exact ih _ _ _ _ _ _ _ (vg_o (i := 5) (v := .int (l_5 + 1)) (vg_o (i := 3) (v := .int (l_3 + 1)) (vg_o (i := 7) (v := .int p_35.1) (vg_o (i := 7) (v := .int p_33.1) (vg_o (i := 6) (v := .int (gE (σ) 6 (l_3 : Int32).toNatClampNeg)) g_0 (by decide) (Or.inl rfl)) (by decide) (Or.inl rfl)) (by decide) (Or.inl rfl)) (by decide) (Or.inl rfl)) (by decide) (Or.inl rfl)) (vg_o (i := 5) (v := .int (l_5 + 1)) (vg_o (i := 3) (v := .int (l_3 + 1)) (vg_o (i := 7) (v := .int p_35.1) (vg_o (i := 7) (v := .int p_33.1) (vg_o (i := 6) (v := .int (gE (σ) 6 (l_3 : Int32).toNatClampNeg)) g_2 (by decide) (Or.inl rfl)) (by decide) (Or.inl rfl)) (by decide) (Or.inl rfl)) (by decide) (Or.inl rfl)) (by decide) (Or.inl rfl)) (vg_o (i := 5) (v := .int (l_5 + 1)) (vg_s (vz_s1 (vz_s1 (vz_s1 (lv) 6 (.int (gE (σ) 6 (l_3 : Int32).toNatClampNeg))) 7 (.int p_33.1)) 7 (.int p_35.1)) 3 (.int (l_3 + 1))) (by decide) (Or.inl rfl)) (vg_o (i := 5) (v := .int (l_5 + 1)) (vg_o (i := 3) (v := .int (l_3 + 1)) (vg_o (i := 7) (v := .int p_35.1) (vg_o (i := 7) (v := .int p_33.1) (vg_o (i := 6) (v := .int (gE (σ) 6 (l_3 : Int32).toNatClampNeg)) g_4 (by decide) (Or.inl rfl)) (by decide) (Or.inl rfl)) (by decide) (Or.inl rfl)) (by decide) (Or.inl rfl)) (by decide) (Or.inl rfl)) (vg_s (vz_s1 (vz_s1 (vz_s1 (vz_s1 (lv) 6 (.int (gE (σ) 6 (l_3 : Int32).toNatClampNeg))) 7 (.int p_33.1)) 7 (.int p_35.1)) 3 (.int (l_3 + 1))) 5 (.int (l_5 + 1))) (nb_s1 (nb_s1 (nb_s1 (nb_s1 (nb_s1 hnb rfl) rfl) rfl) rfl) rfl) ((congrFun (congrFun e_35 42) 3).trans ((congrFun (congrFun e_33 42) 3).trans hr_42_3)) ((congrFun (congrFun e_35 42) 4).trans ((congrFun (congrFun e_33 42) 4).trans hr_42_4)) H
                        · refine ev_b0 (t := 253) (p' := 237) rfl rfl rfl (if_neg c_36) ?_
                          refine ev_x (i := .aload_n 0) (len := 1) (p' := 238) (s' := [.ref 42]) rfl rfl (ld_a (vg_o (i := 7) (v := .int p_35.1) (vg_o (i := 7) (v := .int p_33.1) (vg_o (i := 6) (v := .int (gE (σ) 6 (l_3 : Int32).toNatClampNeg)) g_0 (by decide) (Or.inl rfl)) (by decide) (Or.inl rfl)) (by decide) (Or.inl rfl))) ?_
                          refine ev_x (i := .aload_n 0) (len := 1) (p' := 239) (s' := [.ref 42, .ref 42]) rfl rfl (ld_a (vg_o (i := 7) (v := .int p_35.1) (vg_o (i := 7) (v := .int p_33.1) (vg_o (i := 6) (v := .int (gE (σ) 6 (l_3 : Int32).toNatClampNeg)) g_0 (by decide) (Or.inl rfl)) (by decide) (Or.inl rfl)) (by decide) (Or.inl rfl))) ?_
                          refine ev_gr (p' := 242) (v := 5) rfl rfl rfl ly_42 rfl rfl ((congrFun (congrFun e_35 42) 4).trans ((congrFun (congrFun e_33 42) 4).trans hr_42_4)) ?_
                          refine ev_gc (p' := 245) (v := 7) rfl rfl rfl ly_5 rfl rfl ?_
                          refine ev_x (i := .iload_n 3) (len := 1) (p' := 246) (s' := [.int l_3, .ref 7, .ref 42]) rfl rfl (ld_i (vg_o (i := 7) (v := .int p_35.1) (vg_o (i := 7) (v := .int p_33.1) (vg_o (i := 6) (v := .int (gE (σ) 6 (l_3 : Int32).toNatClampNeg)) g_3 (by decide) (Or.inl rfl)) (by decide) (Or.inl rfl)) (by decide) (Or.inl rfl))) ?_
                          obtain ⟨b_37, H⟩ := F_gd H
                          refine ev_ga (p' := 247) (v := (gE (p_35.2) 7 (l_3 : Int32).toNatClampNeg)) rfl rfl ly_7 rfl (gd_in b_37) rfl ?_
                          refine ev_pi (p' := 250) rfl rfl rfl ly_42 rfl rfl rfl rfl ?_
                          refine ev_x (i := .iload 7) (len := 2) (p' := 252) (s' := [.int p_35.1]) rfl rfl (ld_i (vg_s (vz_s1 (vz_s1 (lv) 6 (.int (gE (σ) 6 (l_3 : Int32).toNatClampNeg))) 7 (.int p_33.1)) 7 (.int p_35.1))) ?_
                          obtain rfl := Option.some.inj H
                          exact ev_iret rfl rfl rfl rfl
                      · refine ev_b0 (t := 232) (p' := 232) rfl rfl rfl (if_pos c_34) ?_
                        refine ev_x (i := .iload 7) (len := 2) (p' := 234) (s' := [.int p_33.1]) rfl rfl (ld_i (vg_s (vz_s1 (lv) 6 (.int (gE (σ) 6 (l_3 : Int32).toNatClampNeg))) 7 (.int p_33.1))) ?_
                        refine ev_b0 (t := 253) (p' := 237) rfl rfl rfl (if_neg c_34) ?_
                        refine ev_x (i := .aload_n 0) (len := 1) (p' := 238) (s' := [.ref 42]) rfl rfl (ld_a (vg_o (i := 7) (v := .int p_33.1) (vg_o (i := 6) (v := .int (gE (σ) 6 (l_3 : Int32).toNatClampNeg)) g_0 (by decide) (Or.inl rfl)) (by decide) (Or.inl rfl))) ?_
                        refine ev_x (i := .aload_n 0) (len := 1) (p' := 239) (s' := [.ref 42, .ref 42]) rfl rfl (ld_a (vg_o (i := 7) (v := .int p_33.1) (vg_o (i := 6) (v := .int (gE (σ) 6 (l_3 : Int32).toNatClampNeg)) g_0 (by decide) (Or.inl rfl)) (by decide) (Or.inl rfl))) ?_
                        refine ev_gr (p' := 242) (v := 5) rfl rfl rfl ly_42 rfl rfl ((congrFun (congrFun e_33 42) 4).trans hr_42_4) ?_
                        refine ev_gc (p' := 245) (v := 7) rfl rfl rfl ly_5 rfl rfl ?_
                        refine ev_x (i := .iload_n 3) (len := 1) (p' := 246) (s' := [.int l_3, .ref 7, .ref 42]) rfl rfl (ld_i (vg_o (i := 7) (v := .int p_33.1) (vg_o (i := 6) (v := .int (gE (σ) 6 (l_3 : Int32).toNatClampNeg)) g_3 (by decide) (Or.inl rfl)) (by decide) (Or.inl rfl))) ?_
                        obtain ⟨b_38, H⟩ := F_gd H
                        refine ev_ga (p' := 247) (v := (gE (p_33.2) 7 (l_3 : Int32).toNatClampNeg)) rfl rfl ly_7 rfl (gd_in b_38) rfl ?_
                        refine ev_pi (p' := 250) rfl rfl rfl ly_42 rfl rfl rfl rfl ?_
                        refine ev_x (i := .iload 7) (len := 2) (p' := 252) (s' := [.int p_33.1]) rfl rfl (ld_i (vg_s (vz_s1 (lv) 6 (.int (gE (σ) 6 (l_3 : Int32).toNatClampNeg))) 7 (.int p_33.1))) ?_
                        obtain rfl := Option.some.inj H
                        exact ev_iret rfl rfl rfl rfl
                · refine ev_b2 (t := 198) (p' := 169) rfl rfl rfl (if_neg c_28) ?_
                  refine ev_x (i := .aload_n 0) (len := 1) (p' := 170) (s' := [.ref 42]) rfl rfl (ld_a (vg_o (i := 6) (v := .int (gE (σ) 6 (l_3 : Int32).toNatClampNeg)) g_0 (by decide) (Or.inl rfl))) ?_
                  refine ev_x (i := .iload_n 3) (len := 1) (p' := 171) (s' := [.int l_3, .ref 42]) rfl rfl (ld_i (vg_o (i := 6) (v := .int (gE (σ) 6 (l_3 : Int32).toNatClampNeg)) g_3 (by decide) (Or.inl rfl))) ?_
                  refine ev_x (i := .iload 6) (len := 2) (p' := 173) (s' := [.int (gE (σ) 6 (l_3 : Int32).toNatClampNeg), .int l_3, .ref 42]) rfl rfl (ld_i (vg_s (lv) 6 (.int (gE (σ) 6 (l_3 : Int32).toNatClampNeg)))) ?_
                  obtain ⟨p_39, G_39, H⟩ := F_bd H
                  refine ev_cv (d := d + 2) (As := [.int l_3, .int (gE (σ) 6 (l_3 : Int32).toNatClampNeg)]) (a := 42) (p' := 176) rfl rfl rfl ly_42 rfl rfl rfl rfl rfl (nb_s1 hnb rfl) rfl (F_71_ok (d := d + 1) (ht := (Or.inl rfl)) (hr_42_4 := hr_42_4) G_39) ?_
                  refine ev_st (st' := [.int p_39.1]) rfl ?_
                  have e_39 := F_71_R G_39
                  refine F_if H (fun c_40 H => ?_) (fun c_40 H => ?_)
                  · refine ev_b0 (t := 191) (p' := 191) rfl rfl rfl (if_pos c_40) ?_
                    refine ev_x (i := .iload_n 3) (len := 1) (p' := 192) (s' := [.int l_3]) rfl rfl (ld_i (vg_o (i := 6) (v := .int (gE (σ) 6 (l_3 : Int32).toNatClampNeg)) g_3 (by decide) (Or.inl rfl))) ?_
                    refine ev_x (i := .iconst 1) (len := 1) (p' := 193) (s' := [.int 1, .int l_3]) rfl rfl rfl ?_
                    refine ev_x (i := .iadd) (len := 1) (p' := 194) (s' := [.int (l_3 + 1)]) rfl rfl rfl ?_
                    refine ev_x (i := .istore_n 3) (len := 1) (p' := 195) (s' := []) (l' := vz_s1 (vz_s1 (lv) 6 (.int (gE (σ) 6 (l_3 : Int32).toNatClampNeg))) 3 (.int (l_3 + 1))) rfl rfl rfl ?_
                    refine ev_x (i := .goto 74) (len := 3) (p' := 269) (s' := []) rfl rfl rfl ?_
                    refine ev_x (i := .iinc 5 1) (len := 3) (p' := 272) (s' := []) (l' := vz_s1 (vz_s1 (vz_s1 (lv) 6 (.int (gE (σ) 6 (l_3 : Int32).toNatClampNeg))) 3 (.int (l_3 + 1))) 5 (.int (l_5 + 1))) rfl rfl (ld_inc (vg_o (i := 3) (v := .int (l_3 + 1)) (vg_o (i := 6) (v := .int (gE (σ) 6 (l_3 : Int32).toNatClampNeg)) g_5 (by decide) (Or.inl rfl)) (by decide) (Or.inl rfl)) rfl) ?_
                    refine ev_x (i := .goto (-244)) (len := 3) (p' := 28) (s' := []) rfl rfl rfl ?_
                    exact ih _ _ _ _ _ _ _ (vg_o (i := 5) (v := .int (l_5 + 1)) (vg_o (i := 3) (v := .int (l_3 + 1)) (vg_o (i := 6) (v := .int (gE (σ) 6 (l_3 : Int32).toNatClampNeg)) g_0 (by decide) (Or.inl rfl)) (by decide) (Or.inl rfl)) (by decide) (Or.inl rfl)) (vg_o (i := 5) (v := .int (l_5 + 1)) (vg_o (i := 3) (v := .int (l_3 + 1)) (vg_o (i := 6) (v := .int (gE (σ) 6 (l_3 : Int32).toNatClampNeg)) g_2 (by decide) (Or.inl rfl)) (by decide) (Or.inl rfl)) (by decide) (Or.inl rfl)) (vg_o (i := 5) (v := .int (l_5 + 1)) (vg_s (vz_s1 (lv) 6 (.int (gE (σ) 6 (l_3 : Int32).toNatClampNeg))) 3 (.int (l_3 + 1))) (by decide) (Or.inl rfl)) (vg_o (i := 5) (v := .int (l_5 + 1)) (vg_o (i := 3) (v := .int (l_3 + 1)) (vg_o (i := 6) (v := .int (gE (σ) 6 (l_3 : Int32).toNatClampNeg)) g_4 (by decide) (Or.inl rfl)) (by decide) (Or.inl rfl)) (by decide) (Or.inl rfl)) (vg_s (vz_s1 (vz_s1 (lv) 6 (.int (gE (σ) 6 (l_3 : Int32).toNatClampNeg))) 3 (.int (l_3 + 1))) 5 (.int (l_5 + 1))) (nb_s1 (nb_s1 (nb_s1 hnb rfl) rfl) rfl) ((congrFun (congrFun e_39 42) 3).trans hr_42_3) ((congrFun (congrFun e_39 42) 4).trans hr_42_4) H
                  · refine ev_b0 (t := 191) (p' := 179) rfl rfl rfl (if_neg c_40) ?_
                    refine ev_x (i := .aload_n 0) (len := 1) (p' := 180) (s' := [.ref 42]) rfl rfl (ld_a (vg_o (i := 6) (v := .int (gE (σ) 6 (l_3 : Int32).toNatClampNeg)) g_0 (by decide) (Or.inl rfl))) ?_
                    refine ev_gr (p' := 183) (v := 5) rfl rfl rfl ly_42 rfl rfl ((congrFun (congrFun e_39 42) 4).trans hr_42_4) ?_
                    refine ev_gc (p' := 186) (v := 10) rfl rfl rfl ly_5 rfl rfl ?_
                    refine ev_x (i := .iload_n 3) (len := 1) (p' := 187) (s' := [.int l_3, .ref 10]) rfl rfl (ld_i (vg_o (i := 6) (v := .int (gE (σ) 6 (l_3 : Int32).toNatClampNeg)) g_3 (by decide) (Or.inl rfl))) ?_
                    obtain ⟨b_41, H⟩ := F_gd H
                    refine ev_ga (p' := 188) (v := (gE (p_39.2) 10 (l_3 : Int32).toNatClampNeg)) rfl rfl ly_10 rfl (gd_in b_41) rfl ?_
                    refine ev_x (i := .goto 6) (len := 3) (p' := 194) (s' := [.int (gE (p_39.2) 10 (l_3 : Int32).toNatClampNeg)]) rfl rfl rfl ?_
                    refine ev_x (i := .istore_n 3) (len := 1) (p' := 195) (s' := []) (l' := vz_s1 (vz_s1 (lv) 6 (.int (gE (σ) 6 (l_3 : Int32).toNatClampNeg))) 3 (.int (gE (p_39.2) 10 (l_3 : Int32).toNatClampNeg))) rfl rfl rfl ?_
                    refine ev_x (i := .goto 74) (len := 3) (p' := 269) (s' := []) rfl rfl rfl ?_
                    refine ev_x (i := .iinc 5 1) (len := 3) (p' := 272) (s' := []) (l' := vz_s1 (vz_s1 (vz_s1 (lv) 6 (.int (gE (σ) 6 (l_3 : Int32).toNatClampNeg))) 3 (.int (gE (p_39.2) 10 (l_3 : Int32).toNatClampNeg))) 5 (.int (l_5 + 1))) rfl rfl (ld_inc (vg_o (i := 3) (v := .int (gE (p_39.2) 10 (l_3 : Int32).toNatClampNeg)) (vg_o (i := 6) (v := .int (gE (σ) 6 (l_3 : Int32).toNatClampNeg)) g_5 (by decide) (Or.inl rfl)) (by decide) (Or.inl rfl)) rfl) ?_
                    refine ev_x (i := .goto (-244)) (len := 3) (p' := 28) (s' := []) rfl rfl rfl ?_
                    exact ih _ _ _ _ _ _ _ (vg_o (i := 5) (v := .int (l_5 + 1)) (vg_o (i := 3) (v := .int (gE (p_39.2) 10 (l_3 : Int32).toNatClampNeg)) (vg_o (i := 6) (v := .int (gE (σ) 6 (l_3 : Int32).toNatClampNeg)) g_0 (by decide) (Or.inl rfl)) (by decide) (Or.inl rfl)) (by decide) (Or.inl rfl)) (vg_o (i := 5) (v := .int (l_5 + 1)) (vg_o (i := 3) (v := .int (gE (p_39.2) 10 (l_3 : Int32).toNatClampNeg)) (vg_o (i := 6) (v := .int (gE (σ) 6 (l_3 : Int32).toNatClampNeg)) g_2 (by decide) (Or.inl rfl)) (by decide) (Or.inl rfl)) (by decide) (Or.inl rfl)) (vg_o (i := 5) (v := .int (l_5 + 1)) (vg_s (vz_s1 (lv) 6 (.int (gE (σ) 6 (l_3 : Int32).toNatClampNeg))) 3 (.int (gE (p_39.2) 10 (l_3 : Int32).toNatClampNeg))) (by decide) (Or.inl rfl)) (vg_o (i := 5) (v := .int (l_5 + 1)) (vg_o (i := 3) (v := .int (gE (p_39.2) 10 (l_3 : Int32).toNatClampNeg)) (vg_o (i := 6) (v := .int (gE (σ) 6 (l_3 : Int32).toNatClampNeg)) g_4 (by decide) (Or.inl rfl)) (by decide) (Or.inl rfl)) (by decide) (Or.inl rfl)) (vg_s (vz_s1 (vz_s1 (lv) 6 (.int (gE (σ) 6 (l_3 : Int32).toNatClampNeg))) 3 (.int (gE (p_39.2) 10 (l_3 : Int32).toNatClampNeg))) 5 (.int (l_5 + 1))) (nb_s1 (nb_s1 (nb_s1 hnb rfl) rfl) rfl) ((congrFun (congrFun e_39 42) 3).trans hr_42_3) ((congrFun (congrFun e_39 42) 4).trans hr_42_4) H
              · refine ev_b2 (t := 162) (p' := 123) rfl rfl rfl (if_neg c_27) ?_
                refine ev_x (i := .aload_n 0) (len := 1) (p' := 124) (s' := [.ref 42]) rfl rfl (ld_a (vg_o (i := 6) (v := .int (gE (σ) 6 (l_3 : Int32).toNatClampNeg)) g_0 (by decide) (Or.inl rfl))) ?_
                refine ev_gc (p' := 127) (v := 45) rfl rfl rfl ly_42 rfl rfl ?_
                refine ev_x (i := .iload_n 2) (len := 1) (p' := 128) (s' := [.int l_2, .ref 45]) rfl rfl (ld_i (vg_o (i := 6) (v := .int (gE (σ) 6 (l_3 : Int32).toNatClampNeg)) g_2 (by decide) (Or.inl rfl))) ?_
                refine ev_x (i := .iload_n 3) (len := 1) (p' := 129) (s' := [.int l_3, .int l_2, .ref 45]) rfl rfl (ld_i (vg_o (i := 6) (v := .int (gE (σ) 6 (l_3 : Int32).toNatClampNeg)) g_3 (by decide) (Or.inl rfl))) ?_
                obtain ⟨b_42, H⟩ := F_gd H
                refine ev_pa (j := (l_2 : Int32).toNatClampNeg) (p' := 130) rfl rfl ly_45 rfl (gd_in b_42) rfl ?_
                refine ev_x (i := .iinc 2 1) (len := 3) (p' := 133) (s' := []) (l' := vz_s1 (vz_s1 (lv) 6 (.int (gE (σ) 6 (l_3 : Int32).toNatClampNeg))) 2 (.int (l_2 + 1))) rfl rfl (ld_inc (vg_o (i := 6) (v := .int (gE (σ) 6 (l_3 : Int32).toNatClampNeg)) g_2 (by decide) (Or.inl rfl)) rfl) ?_
                refine ev_x (i := .aload_n 0) (len := 1) (p' := 134) (s' := [.ref 42]) rfl rfl (ld_a (vg_o (i := 2) (v := .int (l_2 + 1)) (vg_o (i := 6) (v := .int (gE (σ) 6 (l_3 : Int32).toNatClampNeg)) g_0 (by decide) (Or.inl rfl)) (by decide) (Or.inl rfl))) ?_
                refine ev_gr (p' := 137) (v := 5) rfl rfl rfl ly_42 rfl rfl hr_42_4 ?_
                refine ev_gc (p' := 140) (v := 10) rfl rfl rfl ly_5 rfl rfl ?_
                refine ev_x (i := .aload_n 0) (len := 1) (p' := 141) (s' := [.ref 42, .ref 10]) rfl rfl (ld_a (vg_o (i := 2) (v := .int (l_2 + 1)) (vg_o (i := 6) (v := .int (gE (σ) 6 (l_3 : Int32).toNatClampNeg)) g_0 (by decide) (Or.inl rfl)) (by decide) (Or.inl rfl))) ?_
                refine ev_gr (p' := 144) (v := 4) rfl rfl rfl ly_42 rfl rfl hr_42_3 ?_
                refine ev_gc (p' := 147) (v := 18) rfl rfl rfl ly_4 rfl rfl ?_
                refine ev_x (i := .aload_n 0) (len := 1) (p' := 148) (s' := [.ref 42, .ref 18, .ref 10]) rfl rfl (ld_a (vg_o (i := 2) (v := .int (l_2 + 1)) (vg_o (i := 6) (v := .int (gE (σ) 6 (l_3 : Int32).toNatClampNeg)) g_0 (by decide) (Or.inl rfl)) (by decide) (Or.inl rfl))) ?_
                refine ev_gr (p' := 151) (v := 5) rfl rfl rfl ly_42 rfl rfl hr_42_4 ?_
                refine ev_gc (p' := 154) (v := 8) rfl rfl rfl ly_5 rfl rfl ?_
                refine ev_x (i := .iload_n 3) (len := 1) (p' := 155) (s' := [.int l_3, .ref 8, .ref 18, .ref 10]) rfl rfl (ld_i (vg_o (i := 2) (v := .int (l_2 + 1)) (vg_o (i := 6) (v := .int (gE (σ) 6 (l_3 : Int32).toNatClampNeg)) g_3 (by decide) (Or.inl rfl)) (by decide) (Or.inl rfl))) ?_
                refine ev_ga (p' := 156) (v := (gE (σ) 8 (l_3 : Int32).toNatClampNeg)) rfl rfl ly_8 rfl (gd_in b_10) rfl ?_
                obtain ⟨b_43, H⟩ := F_gd H
                refine ev_ga (p' := 157) (v := (gE (σ) 18 ((gE (σ) 8 (l_3 : Int32).toNatClampNeg) : Int32).toNatClampNeg)) rfl rfl ly_18 rfl (gd_in b_43) rfl ?_
                obtain ⟨b_44, H⟩ := F_gd H
                refine ev_ga (p' := 158) (v := (gE (σ) 10 ((gE (σ) 18 ((gE (σ) 8 (l_3 : Int32).toNatClampNeg) : Int32).toNatClampNeg) : Int32).toNatClampNeg)) rfl rfl ly_10 rfl (gd_in b_44) rfl ?_
                refine ev_x (i := .istore_n 3) (len := 1) (p' := 159) (s' := []) (l' := vz_s1 (vz_s1 (vz_s1 (lv) 6 (.int (gE (σ) 6 (l_3 : Int32).toNatClampNeg))) 2 (.int (l_2 + 1))) 3 (.int (gE (σ) 10 ((gE (σ) 18 ((gE (σ) 8 (l_3 : Int32).toNatClampNeg) : Int32).toNatClampNeg) : Int32).toNatClampNeg))) rfl rfl rfl ?_
                refine ev_x (i := .goto 110) (len := 3) (p' := 269) (s' := []) rfl rfl rfl ?_
                refine ev_x (i := .iinc 5 1) (len := 3) (p' := 272) (s' := []) (l' := vz_s1 (vz_s1 (vz_s1 (vz_s1 (lv) 6 (.int (gE (σ) 6 (l_3 : Int32).toNatClampNeg))) 2 (.int (l_2 + 1))) 3 (.int (gE (σ) 10 ((gE (σ) 18 ((gE (σ) 8 (l_3 : Int32).toNatClampNeg) : Int32).toNatClampNeg) : Int32).toNatClampNeg))) 5 (.int (l_5 + 1))) rfl rfl (ld_inc (vg_o (i := 3) (v := .int (gE (σ) 10 ((gE (σ) 18 ((gE (σ) 8 (l_3 : Int32).toNatClampNeg) : Int32).toNatClampNeg) : Int32).toNatClampNeg)) (vg_o (i := 2) (v := .int (l_2 + 1)) (vg_o (i := 6) (v := .int (gE (σ) 6 (l_3 : Int32).toNatClampNeg)) g_5 (by decide) (Or.inl rfl)) (by decide) (Or.inl rfl)) (by decide) (Or.inl rfl)) rfl) ?_
                refine ev_x (i := .goto (-244)) (len := 3) (p' := 28) (s' := []) rfl rfl rfl ?_
                exact ih _ _ _ _ _ _ _ (vg_o (i := 5) (v := .int (l_5 + 1)) (vg_o (i := 3) (v := .int (gE (σ) 10 ((gE (σ) 18 ((gE (σ) 8 (l_3 : Int32).toNatClampNeg) : Int32).toNatClampNeg) : Int32).toNatClampNeg)) (vg_o (i := 2) (v := .int (l_2 + 1)) (vg_o (i := 6) (v := .int (gE (σ) 6 (l_3 : Int32).toNatClampNeg)) g_0 (by decide) (Or.inl rfl)) (by decide) (Or.inl rfl)) (by decide) (Or.inl rfl)) (by decide) (Or.inl rfl)) (vg_o (i := 5) (v := .int (l_5 + 1)) (vg_o (i := 3) (v := .int (gE (σ) 10 ((gE (σ) 18 ((gE (σ) 8 (l_3 : Int32).toNatClampNeg) : Int32).toNatClampNeg) : Int32).toNatClampNeg)) (vg_s (vz_s1 (lv) 6 (.int (gE (σ) 6 (l_3 : Int32).toNatClampNeg))) 2 (.int (l_2 + 1))) (by decide) (Or.inl rfl)) (by decide) (Or.inl rfl)) (vg_o (i := 5) (v := .int (l_5 + 1)) (vg_s (vz_s1 (vz_s1 (lv) 6 (.int (gE (σ) 6 (l_3 : Int32).toNatClampNeg))) 2 (.int (l_2 + 1))) 3 (.int (gE (σ) 10 ((gE (σ) 18 ((gE (σ) 8 (l_3 : Int32).toNatClampNeg) : Int32).toNatClampNeg) : Int32).toNatClampNeg))) (by decide) (Or.inl rfl)) (vg_o (i := 5) (v := .int (l_5 + 1)) (vg_o (i := 3) (v := .int (gE (σ) 10 ((gE (σ) 18 ((gE (σ) 8 (l_3 : Int32).toNatClampNeg) : Int32).toNatClampNeg) : Int32).toNatClampNeg)) (vg_o (i := 2) (v := .int (l_2 + 1)) (vg_o (i := 6) (v := .int (gE (σ) 6 (l_3 : Int32).toNatClampNeg)) g_4 (by decide) (Or.inl rfl)) (by decide) (Or.inl rfl)) (by decide) (Or.inl rfl)) (by decide) (Or.inl rfl)) (vg_s (vz_s1 (vz_s1 (vz_s1 (lv) 6 (.int (gE (σ) 6 (l_3 : Int32).toNatClampNeg))) 2 (.int (l_2 + 1))) 3 (.int (gE (σ) 10 ((gE (σ) 18 ((gE (σ) 8 (l_3 : Int32).toNatClampNeg) : Int32).toNatClampNeg) : Int32).toNatClampNeg))) 5 (.int (l_5 + 1))) (nb_s1 (nb_s1 (nb_s1 (nb_s1 hnb rfl) rfl) rfl) rfl) hr_42_3 hr_42_4 H
          · refine ev_b2 (t := 162) (p' := 162) rfl rfl rfl (if_pos c_9) ?_
            refine ev_x (i := .iload 6) (len := 2) (p' := 164) (s' := [.int (gE (σ) 6 (l_3 : Int32).toNatClampNeg)]) rfl rfl (ld_i (vg_s (lv) 6 (.int (gE (σ) 6 (l_3 : Int32).toNatClampNeg)))) ?_
            refine ev_x (i := .bipush 23) (len := 2) (p' := 166) (s' := [.int 23, .int (gE (σ) 6 (l_3 : Int32).toNatClampNeg)]) rfl rfl rfl ?_
            refine F_if H (fun c_45 H => ?_) (fun c_45 H => ?_)
            · refine ev_b2 (t := 198) (p' := 198) rfl rfl rfl (if_pos c_45) ?_
              refine ev_x (i := .iload 6) (len := 2) (p' := 200) (s' := [.int (gE (σ) 6 (l_3 : Int32).toNatClampNeg)]) rfl rfl (ld_i (vg_s (lv) 6 (.int (gE (σ) 6 (l_3 : Int32).toNatClampNeg)))) ?_
              refine ev_x (i := .iconst 4) (len := 1) (p' := 201) (s' := [.int 4, .int (gE (σ) 6 (l_3 : Int32).toNatClampNeg)]) rfl rfl rfl ?_
              refine F_if H (fun c_46 H => ?_) (fun c_46 H => ?_)
              · refine ev_b2 (t := 259) (p' := 259) rfl rfl rfl (if_pos c_46) ?_
                refine ev_x (i := .aload_n 0) (len := 1) (p' := 260) (s' := [.ref 42]) rfl rfl (ld_a (vg_o (i := 6) (v := .int (gE (σ) 6 (l_3 : Int32).toNatClampNeg)) g_0 (by decide) (Or.inl rfl))) ?_
                refine ev_x (i := .iload_n 3) (len := 1) (p' := 261) (s' := [.int l_3, .ref 42]) rfl rfl (ld_i (vg_o (i := 6) (v := .int (gE (σ) 6 (l_3 : Int32).toNatClampNeg)) g_3 (by decide) (Or.inl rfl))) ?_
                refine ev_x (i := .iload 6) (len := 2) (p' := 263) (s' := [.int (gE (σ) 6 (l_3 : Int32).toNatClampNeg), .int l_3, .ref 42]) rfl rfl (ld_i (vg_s (lv) 6 (.int (gE (σ) 6 (l_3 : Int32).toNatClampNeg)))) ?_
                obtain ⟨p_47, G_47, H⟩ := F_bd H
                refine ev_cv (d := d + 2) (As := [.int l_3, .int (gE (σ) 6 (l_3 : Int32).toNatClampNeg)]) (a := 42) (p' := 266) rfl rfl rfl ly_42 rfl rfl rfl rfl rfl (nb_s1 hnb rfl) rfl (F_76_ok (d := d + 0) (ht := (Or.inl rfl)) (hr_42_3 := hr_42_3) (hr_42_4 := hr_42_4) G_47) ?_
                refine ev_st (st' := []) rfl ?_
                have e_47 := F_76_R G_47
                refine ev_x (i := .iinc 3 1) (len := 3) (p' := 269) (s' := []) (l' := vz_s1 (vz_s1 (lv) 6 (.int (gE (σ) 6 (l_3 : Int32).toNatClampNeg))) 3 (.int (l_3 + 1))) rfl rfl (ld_inc (vg_o (i := 6) (v := .int (gE (σ) 6 (l_3 : Int32).toNatClampNeg)) g_3 (by decide) (Or.inl rfl)) rfl) ?_
                refine ev_x (i := .iinc 5 1) (len := 3) (p' := 272) (s' := []) (l' := vz_s1 (vz_s1 (vz_s1 (lv) 6 (.int (gE (σ) 6 (l_3 : Int32).toNatClampNeg))) 3 (.int (l_3 + 1))) 5 (.int (l_5 + 1))) rfl rfl (ld_inc (vg_o (i := 3) (v := .int (l_3 + 1)) (vg_o (i := 6) (v := .int (gE (σ) 6 (l_3 : Int32).toNatClampNeg)) g_5 (by decide) (Or.inl rfl)) (by decide) (Or.inl rfl)) rfl) ?_
                refine ev_x (i := .goto (-244)) (len := 3) (p' := 28) (s' := []) rfl rfl rfl ?_
                exact ih _ _ _ _ _ _ _ (vg_o (i := 5) (v := .int (l_5 + 1)) (vg_o (i := 3) (v := .int (l_3 + 1)) (vg_o (i := 6) (v := .int (gE (σ) 6 (l_3 : Int32).toNatClampNeg)) g_0 (by decide) (Or.inl rfl)) (by decide) (Or.inl rfl)) (by decide) (Or.inl rfl)) (vg_o (i := 5) (v := .int (l_5 + 1)) (vg_o (i := 3) (v := .int (l_3 + 1)) (vg_o (i := 6) (v := .int (gE (σ) 6 (l_3 : Int32).toNatClampNeg)) g_2 (by decide) (Or.inl rfl)) (by decide) (Or.inl rfl)) (by decide) (Or.inl rfl)) (vg_o (i := 5) (v := .int (l_5 + 1)) (vg_s (vz_s1 (lv) 6 (.int (gE (σ) 6 (l_3 : Int32).toNatClampNeg))) 3 (.int (l_3 + 1))) (by decide) (Or.inl rfl)) (vg_o (i := 5) (v := .int (l_5 + 1)) (vg_o (i := 3) (v := .int (l_3 + 1)) (vg_o (i := 6) (v := .int (gE (σ) 6 (l_3 : Int32).toNatClampNeg)) g_4 (by decide) (Or.inl rfl)) (by decide) (Or.inl rfl)) (by decide) (Or.inl rfl)) (vg_s (vz_s1 (vz_s1 (lv) 6 (.int (gE (σ) 6 (l_3 : Int32).toNatClampNeg))) 3 (.int (l_3 + 1))) 5 (.int (l_5 + 1))) (nb_s1 (nb_s1 (nb_s1 hnb rfl) rfl) rfl) ((congrFun (congrFun e_47 42) 3).trans hr_42_3) ((congrFun (congrFun e_47 42) 4).trans hr_42_4) H
              · refine ev_b2 (t := 259) (p' := 204) rfl rfl rfl (if_neg c_46) ?_
                refine ev_x (i := .iload 6) (len := 2) (p' := 206) (s' := [.int (gE (σ) 6 (l_3 : Int32).toNatClampNeg)]) rfl rfl (ld_i (vg_s (lv) 6 (.int (gE (σ) 6 (l_3 : Int32).toNatClampNeg)))) ?_
                refine ev_x (i := .bipush 8) (len := 2) (p' := 208) (s' := [.int 8, .int (gE (σ) 6 (l_3 : Int32).toNatClampNeg)]) rfl rfl rfl ?_
                refine F_if H (fun c_48 H => ?_) (fun c_48 H => ?_)
                · refine ev_b2 (t := 259) (p' := 259) rfl rfl rfl (if_pos c_48) ?_
                  refine ev_x (i := .aload_n 0) (len := 1) (p' := 260) (s' := [.ref 42]) rfl rfl (ld_a (vg_o (i := 6) (v := .int (gE (σ) 6 (l_3 : Int32).toNatClampNeg)) g_0 (by decide) (Or.inl rfl))) ?_
                  refine ev_x (i := .iload_n 3) (len := 1) (p' := 261) (s' := [.int l_3, .ref 42]) rfl rfl (ld_i (vg_o (i := 6) (v := .int (gE (σ) 6 (l_3 : Int32).toNatClampNeg)) g_3 (by decide) (Or.inl rfl))) ?_
                  refine ev_x (i := .iload 6) (len := 2) (p' := 263) (s' := [.int (gE (σ) 6 (l_3 : Int32).toNatClampNeg), .int l_3, .ref 42]) rfl rfl (ld_i (vg_s (lv) 6 (.int (gE (σ) 6 (l_3 : Int32).toNatClampNeg)))) ?_
                  obtain ⟨p_49, G_49, H⟩ := F_bd H
                  refine ev_cv (d := d + 2) (As := [.int l_3, .int (gE (σ) 6 (l_3 : Int32).toNatClampNeg)]) (a := 42) (p' := 266) rfl rfl rfl ly_42 rfl rfl rfl rfl rfl (nb_s1 hnb rfl) rfl (F_76_ok (d := d + 0) (ht := (Or.inl rfl)) (hr_42_3 := hr_42_3) (hr_42_4 := hr_42_4) G_49) ?_
                  refine ev_st (st' := []) rfl ?_
                  have e_49 := F_76_R G_49
                  refine ev_x (i := .iinc 3 1) (len := 3) (p' := 269) (s' := []) (l' := vz_s1 (vz_s1 (lv) 6 (.int (gE (σ) 6 (l_3 : Int32).toNatClampNeg))) 3 (.int (l_3 + 1))) rfl rfl (ld_inc (vg_o (i := 6) (v := .int (gE (σ) 6 (l_3 : Int32).toNatClampNeg)) g_3 (by decide) (Or.inl rfl)) rfl) ?_
                  refine ev_x (i := .iinc 5 1) (len := 3) (p' := 272) (s' := []) (l' := vz_s1 (vz_s1 (vz_s1 (lv) 6 (.int (gE (σ) 6 (l_3 : Int32).toNatClampNeg))) 3 (.int (l_3 + 1))) 5 (.int (l_5 + 1))) rfl rfl (ld_inc (vg_o (i := 3) (v := .int (l_3 + 1)) (vg_o (i := 6) (v := .int (gE (σ) 6 (l_3 : Int32).toNatClampNeg)) g_5 (by decide) (Or.inl rfl)) (by decide) (Or.inl rfl)) rfl) ?_
                  refine ev_x (i := .goto (-244)) (len := 3) (p' := 28) (s' := []) rfl rfl rfl ?_
                  exact ih _ _ _ _ _ _ _ (vg_o (i := 5) (v := .int (l_5 + 1)) (vg_o (i := 3) (v := .int (l_3 + 1)) (vg_o (i := 6) (v := .int (gE (σ) 6 (l_3 : Int32).toNatClampNeg)) g_0 (by decide) (Or.inl rfl)) (by decide) (Or.inl rfl)) (by decide) (Or.inl rfl)) (vg_o (i := 5) (v := .int (l_5 + 1)) (vg_o (i := 3) (v := .int (l_3 + 1)) (vg_o (i := 6) (v := .int (gE (σ) 6 (l_3 : Int32).toNatClampNeg)) g_2 (by decide) (Or.inl rfl)) (by decide) (Or.inl rfl)) (by decide) (Or.inl rfl)) (vg_o (i := 5) (v := .int (l_5 + 1)) (vg_s (vz_s1 (lv) 6 (.int (gE (σ) 6 (l_3 : Int32).toNatClampNeg))) 3 (.int (l_3 + 1))) (by decide) (Or.inl rfl)) (vg_o (i := 5) (v := .int (l_5 + 1)) (vg_o (i := 3) (v := .int (l_3 + 1)) (vg_o (i := 6) (v := .int (gE (σ) 6 (l_3 : Int32).toNatClampNeg)) g_4 (by decide) (Or.inl rfl)) (by decide) (Or.inl rfl)) (by decide) (Or.inl rfl)) (vg_s (vz_s1 (vz_s1 (lv) 6 (.int (gE (σ) 6 (l_3 : Int32).toNatClampNeg))) 3 (.int (l_3 + 1))) 5 (.int (l_5 + 1))) (nb_s1 (nb_s1 (nb_s1 hnb rfl) rfl) rfl) ((congrFun (congrFun e_49 42) 3).trans hr_42_3) ((congrFun (congrFun e_49 42) 4).trans hr_42_4) H
                · refine ev_b2 (t := 259) (p' := 211) rfl rfl rfl (if_neg c_48) ?_
                  refine ev_x (i := .aload_n 0) (len := 1) (p' := 212) (s' := [.ref 42]) rfl rfl (ld_a (vg_o (i := 6) (v := .int (gE (σ) 6 (l_3 : Int32).toNatClampNeg)) g_0 (by decide) (Or.inl rfl))) ?_
                  refine ev_x (i := .iload_n 3) (len := 1) (p' := 213) (s' := [.int l_3, .ref 42]) rfl rfl (ld_i (vg_o (i := 6) (v := .int (gE (σ) 6 (l_3 : Int32).toNatClampNeg)) g_3 (by decide) (Or.inl rfl))) ?_
                  refine ev_x (i := .iload 6) (len := 2) (p' := 215) (s' := [.int (gE (σ) 6 (l_3 : Int32).toNatClampNeg), .int l_3, .ref 42]) rfl rfl (ld_i (vg_s (lv) 6 (.int (gE (σ) 6 (l_3 : Int32).toNatClampNeg)))) ?_
                  obtain ⟨p_50, G_50, H⟩ := F_bd H
                  refine ev_cv (d := d + 2) (As := [.int l_3, .int (gE (σ) 6 (l_3 : Int32).toNatClampNeg)]) (a := 42) (p' := 218) rfl rfl rfl ly_42 rfl rfl rfl rfl rfl (nb_s1 hnb rfl) rfl (F_72_ok (d := d + 0) (ht := (Or.inl rfl)) (hr_42_4 := hr_42_4) G_50) ?_
                  refine ev_st (st' := [.int p_50.1]) rfl ?_
                  have e_50 := F_72_R G_50
                  refine ev_x (i := .istore 7) (len := 2) (p' := 220) (s' := []) (l' := vz_s1 (vz_s1 (lv) 6 (.int (gE (σ) 6 (l_3 : Int32).toNatClampNeg))) 7 (.int p_50.1)) rfl rfl rfl ?_
                  refine ev_x (i := .iload 7) (len := 2) (p' := 222) (s' := [.int p_50.1]) rfl rfl (ld_i (vg_s (vz_s1 (lv) 6 (.int (gE (σ) 6 (l_3 : Int32).toNatClampNeg))) 7 (.int p_50.1))) ?_
                  refine F_if H (fun c_51 H => ?_) (fun c_51 H => ?_)
                  · refine ev_b0 (t := 232) (p' := 225) rfl rfl rfl (if_neg (fun q => q c_51)) ?_
                    refine ev_x (i := .aload_n 0) (len := 1) (p' := 226) (s' := [.ref 42]) rfl rfl (ld_a (vg_o (i := 7) (v := .int p_50.1) (vg_o (i := 6) (v := .int (gE (σ) 6 (l_3 : Int32).toNatClampNeg)) g_0 (by decide) (Or.inl rfl)) (by decide) (Or.inl rfl))) ?_
                    refine ev_x (i := .iload_n 3) (len := 1) (p' := 227) (s' := [.int l_3, .ref 42]) rfl rfl (ld_i (vg_o (i := 7) (v := .int p_50.1) (vg_o (i := 6) (v := .int (gE (σ) 6 (l_3 : Int32).toNatClampNeg)) g_3 (by decide) (Or.inl rfl)) (by decide) (Or.inl rfl))) ?_
                    obtain ⟨p_52, G_52, H⟩ := F_bd H
                    refine ev_cv (d := d + 2) (As := [.int l_3]) (a := 42) (p' := 230) rfl rfl rfl ly_42 rfl rfl rfl rfl rfl (nb_s1 (nb_s1 hnb rfl) rfl) rfl (F_74_ok (d := d + 0) (ht := (Or.inl rfl)) (hr_42_4 := ((congrFun (congrFun e_50 42) 4).trans hr_42_4)) G_52) ?_
                    refine ev_st (st' := [.int p_52.1]) rfl ?_
                    have e_52 := F_74_R G_52
                    refine ev_x (i := .istore 7) (len := 2) (p' := 232) (s' := []) (l' := vz_s1 (vz_s1 (vz_s1 (lv) 6 (.int (gE (σ) 6 (l_3 : Int32).toNatClampNeg))) 7 (.int p_50.1)) 7 (.int p_52.1)) rfl rfl rfl ?_
                    refine ev_x (i := .iload 7) (len := 2) (p' := 234) (s' := [.int p_52.1]) rfl rfl (ld_i (vg_s (vz_s1 (vz_s1 (lv) 6 (.int (gE (σ) 6 (l_3 : Int32).toNatClampNeg))) 7 (.int p_50.1)) 7 (.int p_52.1))) ?_
                    refine F_if H (fun c_53 H => ?_) (fun c_53 H => ?_)
                    · refine ev_b0 (t := 253) (p' := 253) rfl rfl rfl (if_pos c_53) ?_
                      refine ev_x (i := .iinc 3 1) (len := 3) (p' := 256) (s' := []) (l' := vz_s1 (vz_s1 (vz_s1 (vz_s1 (lv) 6 (.int (gE (σ) 6 (l_3 : Int32).toNatClampNeg))) 7 (.int p_50.1)) 7 (.int p_52.1)) 3 (.int (l_3 + 1))) rfl rfl (ld_inc (vg_o (i := 7) (v := .int p_52.1) (vg_o (i := 7) (v := .int p_50.1) (vg_o (i := 6) (v := .int (gE (σ) 6 (l_3 : Int32).toNatClampNeg)) g_3 (by decide) (Or.inl rfl)) (by decide) (Or.inl rfl)) (by decide) (Or.inl rfl)) rfl) ?_
                      refine ev_x (i := .goto 13) (len := 3) (p' := 269) (s' := []) rfl rfl rfl ?_
                      refine ev_x (i := .iinc 5 1) (len := 3) (p' := 272) (s' := []) (l' := vz_s1 (vz_s1 (vz_s1 (vz_s1 (vz_s1 (lv) 6 (.int (gE (σ) 6 (l_3 : Int32).toNatClampNeg))) 7 (.int p_50.1)) 7 (.int p_52.1)) 3 (.int (l_3 + 1))) 5 (.int (l_5 + 1))) rfl rfl (ld_inc (vg_o (i := 3) (v := .int (l_3 + 1)) (vg_o (i := 7) (v := .int p_52.1) (vg_o (i := 7) (v := .int p_50.1) (vg_o (i := 6) (v := .int (gE (σ) 6 (l_3 : Int32).toNatClampNeg)) g_5 (by decide) (Or.inl rfl)) (by decide) (Or.inl rfl)) (by decide) (Or.inl rfl)) (by decide) (Or.inl rfl)) rfl) ?_
                      refine ev_x (i := .goto (-244)) (len := 3) (p' := 28) (s' := []) rfl rfl rfl ?_
                      exact ih _ _ _ _ _ _ _ (vg_o (i := 5) (v := .int (l_5 + 1)) (vg_o (i := 3) (v := .int (l_3 + 1)) (vg_o (i := 7) (v := .int p_52.1) (vg_o (i := 7) (v := .int p_50.1) (vg_o (i := 6) (v := .int (gE (σ) 6 (l_3 : Int32).toNatClampNeg)) g_0 (by decide) (Or.inl rfl)) (by decide) (Or.inl rfl)) (by decide) (Or.inl rfl)) (by decide) (Or.inl rfl)) (by decide) (Or.inl rfl)) (vg_o (i := 5) (v := .int (l_5 + 1)) (vg_o (i := 3) (v := .int (l_3 + 1)) (vg_o (i := 7) (v := .int p_52.1) (vg_o (i := 7) (v := .int p_50.1) (vg_o (i := 6) (v := .int (gE (σ) 6 (l_3 : Int32).toNatClampNeg)) g_2 (by decide) (Or.inl rfl)) (by decide) (Or.inl rfl)) (by decide) (Or.inl rfl)) (by decide) (Or.inl rfl)) (by decide) (Or.inl rfl)) (vg_o (i := 5) (v := .int (l_5 + 1)) (vg_s (vz_s1 (vz_s1 (vz_s1 (lv) 6 (.int (gE (σ) 6 (l_3 : Int32).toNatClampNeg))) 7 (.int p_50.1)) 7 (.int p_52.1)) 3 (.int (l_3 + 1))) (by decide) (Or.inl rfl)) (vg_o (i := 5) (v := .int (l_5 + 1)) (vg_o (i := 3) (v := .int (l_3 + 1)) (vg_o (i := 7) (v := .int p_52.1) (vg_o (i := 7) (v := .int p_50.1) (vg_o (i := 6) (v := .int (gE (σ) 6 (l_3 : Int32).toNatClampNeg)) g_4 (by decide) (Or.inl rfl)) (by decide) (Or.inl rfl)) (by decide) (Or.inl rfl)) (by decide) (Or.inl rfl)) (by decide) (Or.inl rfl)) (vg_s (vz_s1 (vz_s1 (vz_s1 (vz_s1 (lv) 6 (.int (gE (σ) 6 (l_3 : Int32).toNatClampNeg))) 7 (.int p_50.1)) 7 (.int p_52.1)) 3 (.int (l_3 + 1))) 5 (.int (l_5 + 1))) (nb_s1 (nb_s1 (nb_s1 (nb_s1 (nb_s1 hnb rfl) rfl) rfl) rfl) rfl) ((congrFun (congrFun e_52 42) 3).trans ((congrFun (congrFun e_50 42) 3).trans hr_42_3)) ((congrFun (congrFun e_52 42) 4).trans ((congrFun (congrFun e_50 42) 4).trans hr_42_4)) H
                    · refine ev_b0 (t := 253) (p' := 237) rfl rfl rfl (if_neg c_53) ?_
                      refine ev_x (i := .aload_n 0) (len := 1) (p' := 238) (s' := [.ref 42]) rfl rfl (ld_a (vg_o (i := 7) (v := .int p_52.1) (vg_o (i := 7) (v := .int p_50.1) (vg_o (i := 6) (v := .int (gE (σ) 6 (l_3 : Int32).toNatClampNeg)) g_0 (by decide) (Or.inl rfl)) (by decide) (Or.inl rfl)) (by decide) (Or.inl rfl))) ?_
                      refine ev_x (i := .aload_n 0) (len := 1) (p' := 239) (s' := [.ref 42, .ref 42]) rfl rfl (ld_a (vg_o (i := 7) (v := .int p_52.1) (vg_o (i := 7) (v := .int p_50.1) (vg_o (i := 6) (v := .int (gE (σ) 6 (l_3 : Int32).toNatClampNeg)) g_0 (by decide) (Or.inl rfl)) (by decide) (Or.inl rfl)) (by decide) (Or.inl rfl))) ?_
                      refine ev_gr (p' := 242) (v := 5) rfl rfl rfl ly_42 rfl rfl ((congrFun (congrFun e_52 42) 4).trans ((congrFun (congrFun e_50 42) 4).trans hr_42_4)) ?_
                      refine ev_gc (p' := 245) (v := 7) rfl rfl rfl ly_5 rfl rfl ?_
                      refine ev_x (i := .iload_n 3) (len := 1) (p' := 246) (s' := [.int l_3, .ref 7, .ref 42]) rfl rfl (ld_i (vg_o (i := 7) (v := .int p_52.1) (vg_o (i := 7) (v := .int p_50.1) (vg_o (i := 6) (v := .int (gE (σ) 6 (l_3 : Int32).toNatClampNeg)) g_3 (by decide) (Or.inl rfl)) (by decide) (Or.inl rfl)) (by decide) (Or.inl rfl))) ?_
                      obtain ⟨b_54, H⟩ := F_gd H
                      refine ev_ga (p' := 247) (v := (gE (p_52.2) 7 (l_3 : Int32).toNatClampNeg)) rfl rfl ly_7 rfl (gd_in b_54) rfl ?_
                      refine ev_pi (p' := 250) rfl rfl rfl ly_42 rfl rfl rfl rfl ?_
                      refine ev_x (i := .iload 7) (len := 2) (p' := 252) (s' := [.int p_52.1]) rfl rfl (ld_i (vg_s (vz_s1 (vz_s1 (lv) 6 (.int (gE (σ) 6 (l_3 : Int32).toNatClampNeg))) 7 (.int p_50.1)) 7 (.int p_52.1))) ?_
                      obtain rfl := Option.some.inj H
                      exact ev_iret rfl rfl rfl rfl
                  · refine ev_b0 (t := 232) (p' := 232) rfl rfl rfl (if_pos c_51) ?_
                    refine ev_x (i := .iload 7) (len := 2) (p' := 234) (s' := [.int p_50.1]) rfl rfl (ld_i (vg_s (vz_s1 (lv) 6 (.int (gE (σ) 6 (l_3 : Int32).toNatClampNeg))) 7 (.int p_50.1))) ?_
                    refine ev_b0 (t := 253) (p' := 237) rfl rfl rfl (if_neg c_51) ?_
                    refine ev_x (i := .aload_n 0) (len := 1) (p' := 238) (s' := [.ref 42]) rfl rfl (ld_a (vg_o (i := 7) (v := .int p_50.1) (vg_o (i := 6) (v := .int (gE (σ) 6 (l_3 : Int32).toNatClampNeg)) g_0 (by decide) (Or.inl rfl)) (by decide) (Or.inl rfl))) ?_
                    refine ev_x (i := .aload_n 0) (len := 1) (p' := 239) (s' := [.ref 42, .ref 42]) rfl rfl (ld_a (vg_o (i := 7) (v := .int p_50.1) (vg_o (i := 6) (v := .int (gE (σ) 6 (l_3 : Int32).toNatClampNeg)) g_0 (by decide) (Or.inl rfl)) (by decide) (Or.inl rfl))) ?_
                    refine ev_gr (p' := 242) (v := 5) rfl rfl rfl ly_42 rfl rfl ((congrFun (congrFun e_50 42) 4).trans hr_42_4) ?_
                    refine ev_gc (p' := 245) (v := 7) rfl rfl rfl ly_5 rfl rfl ?_
                    refine ev_x (i := .iload_n 3) (len := 1) (p' := 246) (s' := [.int l_3, .ref 7, .ref 42]) rfl rfl (ld_i (vg_o (i := 7) (v := .int p_50.1) (vg_o (i := 6) (v := .int (gE (σ) 6 (l_3 : Int32).toNatClampNeg)) g_3 (by decide) (Or.inl rfl)) (by decide) (Or.inl rfl))) ?_
                    obtain ⟨b_55, H⟩ := F_gd H
                    refine ev_ga (p' := 247) (v := (gE (p_50.2) 7 (l_3 : Int32).toNatClampNeg)) rfl rfl ly_7 rfl (gd_in b_55) rfl ?_
                    refine ev_pi (p' := 250) rfl rfl rfl ly_42 rfl rfl rfl rfl ?_
                    refine ev_x (i := .iload 7) (len := 2) (p' := 252) (s' := [.int p_50.1]) rfl rfl (ld_i (vg_s (vz_s1 (lv) 6 (.int (gE (σ) 6 (l_3 : Int32).toNatClampNeg))) 7 (.int p_50.1))) ?_
                    obtain rfl := Option.some.inj H
                    exact ev_iret rfl rfl rfl rfl
            · refine ev_b2 (t := 198) (p' := 169) rfl rfl rfl (if_neg c_45) ?_
              refine ev_x (i := .aload_n 0) (len := 1) (p' := 170) (s' := [.ref 42]) rfl rfl (ld_a (vg_o (i := 6) (v := .int (gE (σ) 6 (l_3 : Int32).toNatClampNeg)) g_0 (by decide) (Or.inl rfl))) ?_
              refine ev_x (i := .iload_n 3) (len := 1) (p' := 171) (s' := [.int l_3, .ref 42]) rfl rfl (ld_i (vg_o (i := 6) (v := .int (gE (σ) 6 (l_3 : Int32).toNatClampNeg)) g_3 (by decide) (Or.inl rfl))) ?_
              refine ev_x (i := .iload 6) (len := 2) (p' := 173) (s' := [.int (gE (σ) 6 (l_3 : Int32).toNatClampNeg), .int l_3, .ref 42]) rfl rfl (ld_i (vg_s (lv) 6 (.int (gE (σ) 6 (l_3 : Int32).toNatClampNeg)))) ?_
              obtain ⟨p_56, G_56, H⟩ := F_bd H
              refine ev_cv (d := d + 2) (As := [.int l_3, .int (gE (σ) 6 (l_3 : Int32).toNatClampNeg)]) (a := 42) (p' := 176) rfl rfl rfl ly_42 rfl rfl rfl rfl rfl (nb_s1 hnb rfl) rfl (F_71_ok (d := d + 1) (ht := (Or.inl rfl)) (hr_42_4 := hr_42_4) G_56) ?_
              refine ev_st (st' := [.int p_56.1]) rfl ?_
              have e_56 := F_71_R G_56
              refine F_if H (fun c_57 H => ?_) (fun c_57 H => ?_)
              · refine ev_b0 (t := 191) (p' := 191) rfl rfl rfl (if_pos c_57) ?_
                refine ev_x (i := .iload_n 3) (len := 1) (p' := 192) (s' := [.int l_3]) rfl rfl (ld_i (vg_o (i := 6) (v := .int (gE (σ) 6 (l_3 : Int32).toNatClampNeg)) g_3 (by decide) (Or.inl rfl))) ?_
                refine ev_x (i := .iconst 1) (len := 1) (p' := 193) (s' := [.int 1, .int l_3]) rfl rfl rfl ?_
                refine ev_x (i := .iadd) (len := 1) (p' := 194) (s' := [.int (l_3 + 1)]) rfl rfl rfl ?_
                refine ev_x (i := .istore_n 3) (len := 1) (p' := 195) (s' := []) (l' := vz_s1 (vz_s1 (lv) 6 (.int (gE (σ) 6 (l_3 : Int32).toNatClampNeg))) 3 (.int (l_3 + 1))) rfl rfl rfl ?_
                refine ev_x (i := .goto 74) (len := 3) (p' := 269) (s' := []) rfl rfl rfl ?_
                refine ev_x (i := .iinc 5 1) (len := 3) (p' := 272) (s' := []) (l' := vz_s1 (vz_s1 (vz_s1 (lv) 6 (.int (gE (σ) 6 (l_3 : Int32).toNatClampNeg))) 3 (.int (l_3 + 1))) 5 (.int (l_5 + 1))) rfl rfl (ld_inc (vg_o (i := 3) (v := .int (l_3 + 1)) (vg_o (i := 6) (v := .int (gE (σ) 6 (l_3 : Int32).toNatClampNeg)) g_5 (by decide) (Or.inl rfl)) (by decide) (Or.inl rfl)) rfl) ?_
                refine ev_x (i := .goto (-244)) (len := 3) (p' := 28) (s' := []) rfl rfl rfl ?_
                exact ih _ _ _ _ _ _ _ (vg_o (i := 5) (v := .int (l_5 + 1)) (vg_o (i := 3) (v := .int (l_3 + 1)) (vg_o (i := 6) (v := .int (gE (σ) 6 (l_3 : Int32).toNatClampNeg)) g_0 (by decide) (Or.inl rfl)) (by decide) (Or.inl rfl)) (by decide) (Or.inl rfl)) (vg_o (i := 5) (v := .int (l_5 + 1)) (vg_o (i := 3) (v := .int (l_3 + 1)) (vg_o (i := 6) (v := .int (gE (σ) 6 (l_3 : Int32).toNatClampNeg)) g_2 (by decide) (Or.inl rfl)) (by decide) (Or.inl rfl)) (by decide) (Or.inl rfl)) (vg_o (i := 5) (v := .int (l_5 + 1)) (vg_s (vz_s1 (lv) 6 (.int (gE (σ) 6 (l_3 : Int32).toNatClampNeg))) 3 (.int (l_3 + 1))) (by decide) (Or.inl rfl)) (vg_o (i := 5) (v := .int (l_5 + 1)) (vg_o (i := 3) (v := .int (l_3 + 1)) (vg_o (i := 6) (v := .int (gE (σ) 6 (l_3 : Int32).toNatClampNeg)) g_4 (by decide) (Or.inl rfl)) (by decide) (Or.inl rfl)) (by decide) (Or.inl rfl)) (vg_s (vz_s1 (vz_s1 (lv) 6 (.int (gE (σ) 6 (l_3 : Int32).toNatClampNeg))) 3 (.int (l_3 + 1))) 5 (.int (l_5 + 1))) (nb_s1 (nb_s1 (nb_s1 hnb rfl) rfl) rfl) ((congrFun (congrFun e_56 42) 3).trans hr_42_3) ((congrFun (congrFun e_56 42) 4).trans hr_42_4) H
              · refine ev_b0 (t := 191) (p' := 179) rfl rfl rfl (if_neg c_57) ?_
                refine ev_x (i := .aload_n 0) (len := 1) (p' := 180) (s' := [.ref 42]) rfl rfl (ld_a (vg_o (i := 6) (v := .int (gE (σ) 6 (l_3 : Int32).toNatClampNeg)) g_0 (by decide) (Or.inl rfl))) ?_
                refine ev_gr (p' := 183) (v := 5) rfl rfl rfl ly_42 rfl rfl ((congrFun (congrFun e_56 42) 4).trans hr_42_4) ?_
                refine ev_gc (p' := 186) (v := 10) rfl rfl rfl ly_5 rfl rfl ?_
                refine ev_x (i := .iload_n 3) (len := 1) (p' := 187) (s' := [.int l_3, .ref 10]) rfl rfl (ld_i (vg_o (i := 6) (v := .int (gE (σ) 6 (l_3 : Int32).toNatClampNeg)) g_3 (by decide) (Or.inl rfl))) ?_
                obtain ⟨b_58, H⟩ := F_gd H
                refine ev_ga (p' := 188) (v := (gE (p_56.2) 10 (l_3 : Int32).toNatClampNeg)) rfl rfl ly_10 rfl (gd_in b_58) rfl ?_
                refine ev_x (i := .goto 6) (len := 3) (p' := 194) (s' := [.int (gE (p_56.2) 10 (l_3 : Int32).toNatClampNeg)]) rfl rfl rfl ?_
                refine ev_x (i := .istore_n 3) (len := 1) (p' := 195) (s' := []) (l' := vz_s1 (vz_s1 (lv) 6 (.int (gE (σ) 6 (l_3 : Int32).toNatClampNeg))) 3 (.int (gE (p_56.2) 10 (l_3 : Int32).toNatClampNeg))) rfl rfl rfl ?_
                refine ev_x (i := .goto 74) (len := 3) (p' := 269) (s' := []) rfl rfl rfl ?_
                refine ev_x (i := .iinc 5 1) (len := 3) (p' := 272) (s' := []) (l' := vz_s1 (vz_s1 (vz_s1 (lv) 6 (.int (gE (σ) 6 (l_3 : Int32).toNatClampNeg))) 3 (.int (gE (p_56.2) 10 (l_3 : Int32).toNatClampNeg))) 5 (.int (l_5 + 1))) rfl rfl (ld_inc (vg_o (i := 3) (v := .int (gE (p_56.2) 10 (l_3 : Int32).toNatClampNeg)) (vg_o (i := 6) (v := .int (gE (σ) 6 (l_3 : Int32).toNatClampNeg)) g_5 (by decide) (Or.inl rfl)) (by decide) (Or.inl rfl)) rfl) ?_
                refine ev_x (i := .goto (-244)) (len := 3) (p' := 28) (s' := []) rfl rfl rfl ?_
                exact ih _ _ _ _ _ _ _ (vg_o (i := 5) (v := .int (l_5 + 1)) (vg_o (i := 3) (v := .int (gE (p_56.2) 10 (l_3 : Int32).toNatClampNeg)) (vg_o (i := 6) (v := .int (gE (σ) 6 (l_3 : Int32).toNatClampNeg)) g_0 (by decide) (Or.inl rfl)) (by decide) (Or.inl rfl)) (by decide) (Or.inl rfl)) (vg_o (i := 5) (v := .int (l_5 + 1)) (vg_o (i := 3) (v := .int (gE (p_56.2) 10 (l_3 : Int32).toNatClampNeg)) (vg_o (i := 6) (v := .int (gE (σ) 6 (l_3 : Int32).toNatClampNeg)) g_2 (by decide) (Or.inl rfl)) (by decide) (Or.inl rfl)) (by decide) (Or.inl rfl)) (vg_o (i := 5) (v := .int (l_5 + 1)) (vg_s (vz_s1 (lv) 6 (.int (gE (σ) 6 (l_3 : Int32).toNatClampNeg))) 3 (.int (gE (p_56.2) 10 (l_3 : Int32).toNatClampNeg))) (by decide) (Or.inl rfl)) (vg_o (i := 5) (v := .int (l_5 + 1)) (vg_o (i := 3) (v := .int (gE (p_56.2) 10 (l_3 : Int32).toNatClampNeg)) (vg_o (i := 6) (v := .int (gE (σ) 6 (l_3 : Int32).toNatClampNeg)) g_4 (by decide) (Or.inl rfl)) (by decide) (Or.inl rfl)) (by decide) (Or.inl rfl)) (vg_s (vz_s1 (vz_s1 (lv) 6 (.int (gE (σ) 6 (l_3 : Int32).toNatClampNeg))) 3 (.int (gE (p_56.2) 10 (l_3 : Int32).toNatClampNeg))) 5 (.int (l_5 + 1))) (nb_s1 (nb_s1 (nb_s1 hnb rfl) rfl) rfl) ((congrFun (congrFun e_56 42) 3).trans hr_42_3) ((congrFun (congrFun e_56 42) 4).trans hr_42_4) H
  · intro k
    induction k with
    | zero => intro l_2 l_3 l_4 l_5 σ lv p g_0 g_2 g_3 g_4 g_5 hnb hr_42_3 hr_42_4 H; unfold L_70 at H; cases H
    | succ k ih =>
      intro l_2 l_3 l_4 l_5 σ lv p g_0 g_2 g_3 g_4 g_5 hnb hr_42_3 hr_42_4 H
      unfold L_70 at H
      refine ev_x (i := .iload 5) (len := 2) (p' := 30) (s' := [.int l_5]) rfl rfl (ld_i g_5) ?_
      refine ev_x (i := .iload 4) (len := 2) (p' := 32) (s' := [.int l_4, .int l_5]) rfl rfl (ld_i g_4) ?_
      refine F_if H (fun c_2 H => ?_) (fun c_2 H => ?_)
      · refine ev_b2 (t := 275) (p' := 275) rfl rfl rfl (if_pos c_2) ?_
        refine ev_x (i := .iconst 0) (len := 1) (p' := 276) (s' := [.int 0]) rfl rfl rfl ?_
        obtain rfl := Option.some.inj H
        exact ev_iret rfl rfl rfl rfl
      · refine ev_b2 (t := 275) (p' := 35) rfl rfl rfl (if_neg c_2) ?_
        refine ev_x (i := .aload_n 0) (len := 1) (p' := 36) (s' := [.ref 42]) rfl rfl (ld_a g_0) ?_
        refine ev_gr (p' := 39) (v := 21) rfl rfl rfl ly_42 rfl rfl hr_42_4 ?_
        refine ev_gc (p' := 42) (v := 22) rfl rfl rfl ly_21 rfl rfl ?_
        refine ev_x (i := .iload_n 3) (len := 1) (p' := 43) (s' := [.int l_3, .ref 22]) rfl rfl (ld_i g_3) ?_
        obtain ⟨b_3, H⟩ := F_gd H
        refine ev_ga (p' := 44) (v := (gE (σ) 22 (l_3 : Int32).toNatClampNeg)) rfl rfl ly_22 rfl (gd_in b_3) rfl ?_
        refine ev_x (i := .istore 6) (len := 2) (p' := 46) (s' := []) (l' := vz_s1 (lv) 6 (.int (gE (σ) 22 (l_3 : Int32).toNatClampNeg))) rfl rfl rfl ?_
        refine ev_x (i := .iload 6) (len := 2) (p' := 48) (s' := [.int (gE (σ) 22 (l_3 : Int32).toNatClampNeg)]) rfl rfl (ld_i (vg_s (lv) 6 (.int (gE (σ) 22 (l_3 : Int32).toNatClampNeg)))) ?_
        refine ev_x (i := .bipush 26) (len := 2) (p' := 50) (s' := [.int 26, .int (gE (σ) 22 (l_3 : Int32).toNatClampNeg)]) rfl rfl rfl ?_
        refine F_if H (fun c_4 H => ?_) (fun c_4 H => ?_)
        · refine ev_b2 (t := 90) (p' := 53) rfl rfl rfl (if_neg (fun q => q c_4)) ?_
          refine ev_x (i := .iload_n 2) (len := 1) (p' := 54) (s' := [.int l_2]) rfl rfl (ld_i (vg_o (i := 6) (v := .int (gE (σ) 22 (l_3 : Int32).toNatClampNeg)) g_2 (by decide) (Or.inl rfl))) ?_
          refine F_if H (fun c_5 H => ?_) (fun c_5 H => ?_)
          · refine ev_b0 (t := 59) (p' := 57) rfl rfl rfl (if_neg (fun q => q c_5)) ?_
            refine ev_x (i := .iconst 0) (len := 1) (p' := 58) (s' := [.int 0]) rfl rfl rfl ?_
            obtain rfl := Option.some.inj H
            exact ev_iret rfl rfl rfl rfl
          · refine ev_b0 (t := 59) (p' := 59) rfl rfl rfl (if_pos c_5) ?_
            refine ev_x (i := .iinc 2 (-1)) (len := 3) (p' := 62) (s' := []) (l' := vz_s1 (vz_s1 (lv) 6 (.int (gE (σ) 22 (l_3 : Int32).toNatClampNeg))) 2 (.int (l_2 + (-1)))) rfl rfl (ld_inc (vg_o (i := 6) (v := .int (gE (σ) 22 (l_3 : Int32).toNatClampNeg)) g_2 (by decide) (Or.inl rfl)) rfl) ?_
            refine ev_x (i := .aload_n 0) (len := 1) (p' := 63) (s' := [.ref 42]) rfl rfl (ld_a (vg_o (i := 2) (v := .int (l_2 + (-1))) (vg_o (i := 6) (v := .int (gE (σ) 22 (l_3 : Int32).toNatClampNeg)) g_0 (by decide) (Or.inl rfl)) (by decide) (Or.inl rfl))) ?_
            refine ev_gc (p' := 66) (v := 45) rfl rfl rfl ly_42 rfl rfl ?_
            refine ev_x (i := .iload_n 2) (len := 1) (p' := 67) (s' := [.int (l_2 + (-1)), .ref 45]) rfl rfl (ld_i (vg_s (vz_s1 (lv) 6 (.int (gE (σ) 22 (l_3 : Int32).toNatClampNeg))) 2 (.int (l_2 + (-1))))) ?_
            obtain ⟨b_6, H⟩ := F_gd H
            refine ev_ga (p' := 68) (v := (gE (σ) 45 ((l_2 + (-1)) : Int32).toNatClampNeg)) rfl rfl ly_45 rfl (gd_in b_6) rfl ?_
            refine ev_x (i := .istore_n 3) (len := 1) (p' := 69) (s' := []) (l' := vz_s1 (vz_s1 (vz_s1 (lv) 6 (.int (gE (σ) 22 (l_3 : Int32).toNatClampNeg))) 2 (.int (l_2 + (-1)))) 3 (.int (gE (σ) 45 ((l_2 + (-1)) : Int32).toNatClampNeg))) rfl rfl rfl ?_
            refine ev_x (i := .aload_n 0) (len := 1) (p' := 70) (s' := [.ref 42]) rfl rfl (ld_a (vg_o (i := 3) (v := .int (gE (σ) 45 ((l_2 + (-1)) : Int32).toNatClampNeg)) (vg_o (i := 2) (v := .int (l_2 + (-1))) (vg_o (i := 6) (v := .int (gE (σ) 22 (l_3 : Int32).toNatClampNeg)) g_0 (by decide) (Or.inl rfl)) (by decide) (Or.inl rfl)) (by decide) (Or.inl rfl))) ?_
            refine ev_gc (p' := 73) (v := 44) rfl rfl rfl ly_42 rfl rfl ?_
            refine ev_x (i := .aload_n 0) (len := 1) (p' := 74) (s' := [.ref 42, .ref 44]) rfl rfl (ld_a (vg_o (i := 3) (v := .int (gE (σ) 45 ((l_2 + (-1)) : Int32).toNatClampNeg)) (vg_o (i := 2) (v := .int (l_2 + (-1))) (vg_o (i := 6) (v := .int (gE (σ) 22 (l_3 : Int32).toNatClampNeg)) g_0 (by decide) (Or.inl rfl)) (by decide) (Or.inl rfl)) (by decide) (Or.inl rfl))) ?_
            refine ev_gr (p' := 77) (v := 21) rfl rfl rfl ly_42 rfl rfl hr_42_4 ?_
            refine ev_gc (p' := 80) (v := 24) rfl rfl rfl ly_21 rfl rfl ?_
            refine ev_x (i := .iload_n 3) (len := 1) (p' := 81) (s' := [.int (gE (σ) 45 ((l_2 + (-1)) : Int32).toNatClampNeg), .ref 24, .ref 44]) rfl rfl (ld_i (vg_s (vz_s1 (vz_s1 (lv) 6 (.int (gE (σ) 22 (l_3 : Int32).toNatClampNeg))) 2 (.int (l_2 + (-1)))) 3 (.int (gE (σ) 45 ((l_2 + (-1)) : Int32).toNatClampNeg)))) ?_
            obtain ⟨b_7, H⟩ := F_gd H
            refine ev_ga (p' := 82) (v := (gE (σ) 24 ((gE (σ) 45 ((l_2 + (-1)) : Int32).toNatClampNeg) : Int32).toNatClampNeg)) rfl rfl ly_24 rfl (gd_in b_7) rfl ?_
            refine ev_x (i := .aload_n 0) (len := 1) (p' := 83) (s' := [.ref 42, .int (gE (σ) 24 ((gE (σ) 45 ((l_2 + (-1)) : Int32).toNatClampNeg) : Int32).toNatClampNeg), .ref 44]) rfl rfl (ld_a (vg_o (i := 3) (v := .int (gE (σ) 45 ((l_2 + (-1)) : Int32).toNatClampNeg)) (vg_o (i := 2) (v := .int (l_2 + (-1))) (vg_o (i := 6) (v := .int (gE (σ) 22 (l_3 : Int32).toNatClampNeg)) g_0 (by decide) (Or.inl rfl)) (by decide) (Or.inl rfl)) (by decide) (Or.inl rfl))) ?_
            refine ev_gi (p' := 86) (v := (gI σ 42 5)) rfl rfl rfl ly_42 rfl rfl rfl ?_
            obtain ⟨b_8, H⟩ := F_gd H
            refine ev_pa (j := ((gE (σ) 24 ((gE (σ) 45 ((l_2 + (-1)) : Int32).toNatClampNeg) : Int32).toNatClampNeg) : Int32).toNatClampNeg) (p' := 87) rfl rfl ly_44 rfl (gd_in b_8) rfl ?_
            refine ev_x (i := .goto 182) (len := 3) (p' := 269) (s' := []) rfl rfl rfl ?_
            refine ev_x (i := .iinc 5 1) (len := 3) (p' := 272) (s' := []) (l' := vz_s1 (vz_s1 (vz_s1 (vz_s1 (lv) 6 (.int (gE (σ) 22 (l_3 : Int32).toNatClampNeg))) 2 (.int (l_2 + (-1)))) 3 (.int (gE (σ) 45 ((l_2 + (-1)) : Int32).toNatClampNeg))) 5 (.int (l_5 + 1))) rfl rfl (ld_inc (vg_o (i := 3) (v := .int (gE (σ) 45 ((l_2 + (-1)) : Int32).toNatClampNeg)) (vg_o (i := 2) (v := .int (l_2 + (-1))) (vg_o (i := 6) (v := .int (gE (σ) 22 (l_3 : Int32).toNatClampNeg)) g_5 (by decide) (Or.inl rfl)) (by decide) (Or.inl rfl)) (by decide) (Or.inl rfl)) rfl) ?_
            refine ev_x (i := .goto (-244)) (len := 3) (p' := 28) (s' := []) rfl rfl rfl ?_
            exact ih _ _ _ _ _ _ _ (vg_o (i := 5) (v := .int (l_5 + 1)) (vg_o (i := 3) (v := .int (gE (σ) 45 ((l_2 + (-1)) : Int32).toNatClampNeg)) (vg_o (i := 2) (v := .int (l_2 + (-1))) (vg_o (i := 6) (v := .int (gE (σ) 22 (l_3 : Int32).toNatClampNeg)) g_0 (by decide) (Or.inl rfl)) (by decide) (Or.inl rfl)) (by decide) (Or.inl rfl)) (by decide) (Or.inl rfl)) (vg_o (i := 5) (v := .int (l_5 + 1)) (vg_o (i := 3) (v := .int (gE (σ) 45 ((l_2 + (-1)) : Int32).toNatClampNeg)) (vg_s (vz_s1 (lv) 6 (.int (gE (σ) 22 (l_3 : Int32).toNatClampNeg))) 2 (.int (l_2 + (-1)))) (by decide) (Or.inl rfl)) (by decide) (Or.inl rfl)) (vg_o (i := 5) (v := .int (l_5 + 1)) (vg_s (vz_s1 (vz_s1 (lv) 6 (.int (gE (σ) 22 (l_3 : Int32).toNatClampNeg))) 2 (.int (l_2 + (-1)))) 3 (.int (gE (σ) 45 ((l_2 + (-1)) : Int32).toNatClampNeg))) (by decide) (Or.inl rfl)) (vg_o (i := 5) (v := .int (l_5 + 1)) (vg_o (i := 3) (v := .int (gE (σ) 45 ((l_2 + (-1)) : Int32).toNatClampNeg)) (vg_o (i := 2) (v := .int (l_2 + (-1))) (vg_o (i := 6) (v := .int (gE (σ) 22 (l_3 : Int32).toNatClampNeg)) g_4 (by decide) (Or.inl rfl)) (by decide) (Or.inl rfl)) (by decide) (Or.inl rfl)) (by decide) (Or.inl rfl)) (vg_s (vz_s1 (vz_s1 (vz_s1 (lv) 6 (.int (gE (σ) 22 (l_3 : Int32).toNatClampNeg))) 2 (.int (l_2 + (-1)))) 3 (.int (gE (σ) 45 ((l_2 + (-1)) : Int32).toNatClampNeg))) 5 (.int (l_5 + 1))) (nb_s1 (nb_s1 (nb_s1 (nb_s1 hnb rfl) rfl) rfl) rfl) hr_42_3 hr_42_4 H
        · refine ev_b2 (t := 90) (p' := 90) rfl rfl rfl (if_pos c_4) ?_
          refine ev_x (i := .iload 6) (len := 2) (p' := 92) (s' := [.int (gE (σ) 22 (l_3 : Int32).toNatClampNeg)]) rfl rfl (ld_i (vg_s (lv) 6 (.int (gE (σ) 22 (l_3 : Int32).toNatClampNeg)))) ?_
          refine ev_x (i := .iconst 3) (len := 1) (p' := 93) (s' := [.int 3, .int (gE (σ) 22 (l_3 : Int32).toNatClampNeg)]) rfl rfl rfl ?_
          refine F_if H (fun c_9 H => ?_) (fun c_9 H => ?_)
          · refine ev_b2 (t := 162) (p' := 96) rfl rfl rfl (if_neg (fun q => q c_9)) ?_
            refine ev_x (i := .aload_n 0) (len := 1) (p' := 97) (s' := [.ref 42]) rfl rfl (ld_a (vg_o (i := 6) (v := .int (gE (σ) 22 (l_3 : Int32).toNatClampNeg)) g_0 (by decide) (Or.inl rfl))) ?_
            refine ev_gc (p' := 100) (v := 44) rfl rfl rfl ly_42 rfl rfl ?_
            refine ev_x (i := .aload_n 0) (len := 1) (p' := 101) (s' := [.ref 42, .ref 44]) rfl rfl (ld_a (vg_o (i := 6) (v := .int (gE (σ) 22 (l_3 : Int32).toNatClampNeg)) g_0 (by decide) (Or.inl rfl))) ?_
            refine ev_gr (p' := 104) (v := 21) rfl rfl rfl ly_42 rfl rfl hr_42_4 ?_
            refine ev_gc (p' := 107) (v := 24) rfl rfl rfl ly_21 rfl rfl ?_
            refine ev_x (i := .iload_n 3) (len := 1) (p' := 108) (s' := [.int l_3, .ref 24, .ref 44]) rfl rfl (ld_i (vg_o (i := 6) (v := .int (gE (σ) 22 (l_3 : Int32).toNatClampNeg)) g_3 (by decide) (Or.inl rfl))) ?_
            obtain ⟨b_10, H⟩ := F_gd H
            refine ev_ga (p' := 109) (v := (gE (σ) 24 (l_3 : Int32).toNatClampNeg)) rfl rfl ly_24 rfl (gd_in b_10) rfl ?_
            obtain ⟨b_11, H⟩ := F_gd H
            refine ev_ga (p' := 110) (v := (gE (σ) 44 ((gE (σ) 24 (l_3 : Int32).toNatClampNeg) : Int32).toNatClampNeg)) rfl rfl ly_44 rfl (gd_in b_11) rfl ?_
            refine ev_x (i := .aload_n 0) (len := 1) (p' := 111) (s' := [.ref 42, .int (gE (σ) 44 ((gE (σ) 24 (l_3 : Int32).toNatClampNeg) : Int32).toNatClampNeg)]) rfl rfl (ld_a (vg_o (i := 6) (v := .int (gE (σ) 22 (l_3 : Int32).toNatClampNeg)) g_0 (by decide) (Or.inl rfl))) ?_
            refine ev_gi (p' := 114) (v := (gI σ 42 5)) rfl rfl rfl ly_42 rfl rfl rfl ?_
            refine F_if H (fun c_12 H => ?_) (fun c_12 H => ?_)
            · refine ev_b2 (t := 162) (p' := 162) rfl rfl rfl (if_pos c_12) ?_
              refine ev_x (i := .iload 6) (len := 2) (p' := 164) (s' := [.int (gE (σ) 22 (l_3 : Int32).toNatClampNeg)]) rfl rfl (ld_i (vg_s (lv) 6 (.int (gE (σ) 22 (l_3 : Int32).toNatClampNeg)))) ?_
              refine ev_x (i := .bipush 23) (len := 2) (p' := 166) (s' := [.int 23, .int (gE (σ) 22 (l_3 : Int32).toNatClampNeg)]) rfl rfl rfl ?_
              refine F_if H (fun c_13 H => ?_) (fun c_13 H => ?_)
              · refine ev_b2 (t := 198) (p' := 198) rfl rfl rfl (if_pos c_13) ?_
                refine ev_x (i := .iload 6) (len := 2) (p' := 200) (s' := [.int (gE (σ) 22 (l_3 : Int32).toNatClampNeg)]) rfl rfl (ld_i (vg_s (lv) 6 (.int (gE (σ) 22 (l_3 : Int32).toNatClampNeg)))) ?_
                refine ev_x (i := .iconst 4) (len := 1) (p' := 201) (s' := [.int 4, .int (gE (σ) 22 (l_3 : Int32).toNatClampNeg)]) rfl rfl rfl ?_
                refine F_if H (fun c_14 H => ?_) (fun c_14 H => ?_)
                · refine ev_b2 (t := 259) (p' := 259) rfl rfl rfl (if_pos c_14) ?_
                  refine ev_x (i := .aload_n 0) (len := 1) (p' := 260) (s' := [.ref 42]) rfl rfl (ld_a (vg_o (i := 6) (v := .int (gE (σ) 22 (l_3 : Int32).toNatClampNeg)) g_0 (by decide) (Or.inl rfl))) ?_
                  refine ev_x (i := .iload_n 3) (len := 1) (p' := 261) (s' := [.int l_3, .ref 42]) rfl rfl (ld_i (vg_o (i := 6) (v := .int (gE (σ) 22 (l_3 : Int32).toNatClampNeg)) g_3 (by decide) (Or.inl rfl))) ?_
                  refine ev_x (i := .iload 6) (len := 2) (p' := 263) (s' := [.int (gE (σ) 22 (l_3 : Int32).toNatClampNeg), .int l_3, .ref 42]) rfl rfl (ld_i (vg_s (lv) 6 (.int (gE (σ) 22 (l_3 : Int32).toNatClampNeg)))) ?_
                  obtain ⟨p_15, G_15, H⟩ := F_bd H
                  refine ev_cv (d := d + 2) (As := [.int l_3, .int (gE (σ) 22 (l_3 : Int32).toNatClampNeg)]) (a := 42) (p' := 266) rfl rfl rfl ly_42 rfl rfl rfl rfl rfl (nb_s1 hnb rfl) rfl (F_76_ok (d := d + 0) (ht := (Or.inr rfl)) (hr_42_3 := hr_42_3) (hr_42_4 := hr_42_4) G_15) ?_
                  refine ev_st (st' := []) rfl ?_
                  have e_15 := F_76_R G_15
                  refine ev_x (i := .iinc 3 1) (len := 3) (p' := 269) (s' := []) (l' := vz_s1 (vz_s1 (lv) 6 (.int (gE (σ) 22 (l_3 : Int32).toNatClampNeg))) 3 (.int (l_3 + 1))) rfl rfl (ld_inc (vg_o (i := 6) (v := .int (gE (σ) 22 (l_3 : Int32).toNatClampNeg)) g_3 (by decide) (Or.inl rfl)) rfl) ?_
                  refine ev_x (i := .iinc 5 1) (len := 3) (p' := 272) (s' := []) (l' := vz_s1 (vz_s1 (vz_s1 (lv) 6 (.int (gE (σ) 22 (l_3 : Int32).toNatClampNeg))) 3 (.int (l_3 + 1))) 5 (.int (l_5 + 1))) rfl rfl (ld_inc (vg_o (i := 3) (v := .int (l_3 + 1)) (vg_o (i := 6) (v := .int (gE (σ) 22 (l_3 : Int32).toNatClampNeg)) g_5 (by decide) (Or.inl rfl)) (by decide) (Or.inl rfl)) rfl) ?_
                  refine ev_x (i := .goto (-244)) (len := 3) (p' := 28) (s' := []) rfl rfl rfl ?_
                  exact ih _ _ _ _ _ _ _ (vg_o (i := 5) (v := .int (l_5 + 1)) (vg_o (i := 3) (v := .int (l_3 + 1)) (vg_o (i := 6) (v := .int (gE (σ) 22 (l_3 : Int32).toNatClampNeg)) g_0 (by decide) (Or.inl rfl)) (by decide) (Or.inl rfl)) (by decide) (Or.inl rfl)) (vg_o (i := 5) (v := .int (l_5 + 1)) (vg_o (i := 3) (v := .int (l_3 + 1)) (vg_o (i := 6) (v := .int (gE (σ) 22 (l_3 : Int32).toNatClampNeg)) g_2 (by decide) (Or.inl rfl)) (by decide) (Or.inl rfl)) (by decide) (Or.inl rfl)) (vg_o (i := 5) (v := .int (l_5 + 1)) (vg_s (vz_s1 (lv) 6 (.int (gE (σ) 22 (l_3 : Int32).toNatClampNeg))) 3 (.int (l_3 + 1))) (by decide) (Or.inl rfl)) (vg_o (i := 5) (v := .int (l_5 + 1)) (vg_o (i := 3) (v := .int (l_3 + 1)) (vg_o (i := 6) (v := .int (gE (σ) 22 (l_3 : Int32).toNatClampNeg)) g_4 (by decide) (Or.inl rfl)) (by decide) (Or.inl rfl)) (by decide) (Or.inl rfl)) (vg_s (vz_s1 (vz_s1 (lv) 6 (.int (gE (σ) 22 (l_3 : Int32).toNatClampNeg))) 3 (.int (l_3 + 1))) 5 (.int (l_5 + 1))) (nb_s1 (nb_s1 (nb_s1 hnb rfl) rfl) rfl) ((congrFun (congrFun e_15 42) 3).trans hr_42_3) ((congrFun (congrFun e_15 42) 4).trans hr_42_4) H
                · refine ev_b2 (t := 259) (p' := 204) rfl rfl rfl (if_neg c_14) ?_
                  refine ev_x (i := .iload 6) (len := 2) (p' := 206) (s' := [.int (gE (σ) 22 (l_3 : Int32).toNatClampNeg)]) rfl rfl (ld_i (vg_s (lv) 6 (.int (gE (σ) 22 (l_3 : Int32).toNatClampNeg)))) ?_
                  refine ev_x (i := .bipush 8) (len := 2) (p' := 208) (s' := [.int 8, .int (gE (σ) 22 (l_3 : Int32).toNatClampNeg)]) rfl rfl rfl ?_
                  refine F_if H (fun c_16 H => ?_) (fun c_16 H => ?_)
                  · refine ev_b2 (t := 259) (p' := 259) rfl rfl rfl (if_pos c_16) ?_
                    refine ev_x (i := .aload_n 0) (len := 1) (p' := 260) (s' := [.ref 42]) rfl rfl (ld_a (vg_o (i := 6) (v := .int (gE (σ) 22 (l_3 : Int32).toNatClampNeg)) g_0 (by decide) (Or.inl rfl))) ?_
                    refine ev_x (i := .iload_n 3) (len := 1) (p' := 261) (s' := [.int l_3, .ref 42]) rfl rfl (ld_i (vg_o (i := 6) (v := .int (gE (σ) 22 (l_3 : Int32).toNatClampNeg)) g_3 (by decide) (Or.inl rfl))) ?_
                    refine ev_x (i := .iload 6) (len := 2) (p' := 263) (s' := [.int (gE (σ) 22 (l_3 : Int32).toNatClampNeg), .int l_3, .ref 42]) rfl rfl (ld_i (vg_s (lv) 6 (.int (gE (σ) 22 (l_3 : Int32).toNatClampNeg)))) ?_
                    obtain ⟨p_17, G_17, H⟩ := F_bd H
                    refine ev_cv (d := d + 2) (As := [.int l_3, .int (gE (σ) 22 (l_3 : Int32).toNatClampNeg)]) (a := 42) (p' := 266) rfl rfl rfl ly_42 rfl rfl rfl rfl rfl (nb_s1 hnb rfl) rfl (F_76_ok (d := d + 0) (ht := (Or.inr rfl)) (hr_42_3 := hr_42_3) (hr_42_4 := hr_42_4) G_17) ?_
                    refine ev_st (st' := []) rfl ?_
                    have e_17 := F_76_R G_17
                    refine ev_x (i := .iinc 3 1) (len := 3) (p' := 269) (s' := []) (l' := vz_s1 (vz_s1 (lv) 6 (.int (gE (σ) 22 (l_3 : Int32).toNatClampNeg))) 3 (.int (l_3 + 1))) rfl rfl (ld_inc (vg_o (i := 6) (v := .int (gE (σ) 22 (l_3 : Int32).toNatClampNeg)) g_3 (by decide) (Or.inl rfl)) rfl) ?_
                    refine ev_x (i := .iinc 5 1) (len := 3) (p' := 272) (s' := []) (l' := vz_s1 (vz_s1 (vz_s1 (lv) 6 (.int (gE (σ) 22 (l_3 : Int32).toNatClampNeg))) 3 (.int (l_3 + 1))) 5 (.int (l_5 + 1))) rfl rfl (ld_inc (vg_o (i := 3) (v := .int (l_3 + 1)) (vg_o (i := 6) (v := .int (gE (σ) 22 (l_3 : Int32).toNatClampNeg)) g_5 (by decide) (Or.inl rfl)) (by decide) (Or.inl rfl)) rfl) ?_
                    refine ev_x (i := .goto (-244)) (len := 3) (p' := 28) (s' := []) rfl rfl rfl ?_
                    exact ih _ _ _ _ _ _ _ (vg_o (i := 5) (v := .int (l_5 + 1)) (vg_o (i := 3) (v := .int (l_3 + 1)) (vg_o (i := 6) (v := .int (gE (σ) 22 (l_3 : Int32).toNatClampNeg)) g_0 (by decide) (Or.inl rfl)) (by decide) (Or.inl rfl)) (by decide) (Or.inl rfl)) (vg_o (i := 5) (v := .int (l_5 + 1)) (vg_o (i := 3) (v := .int (l_3 + 1)) (vg_o (i := 6) (v := .int (gE (σ) 22 (l_3 : Int32).toNatClampNeg)) g_2 (by decide) (Or.inl rfl)) (by decide) (Or.inl rfl)) (by decide) (Or.inl rfl)) (vg_o (i := 5) (v := .int (l_5 + 1)) (vg_s (vz_s1 (lv) 6 (.int (gE (σ) 22 (l_3 : Int32).toNatClampNeg))) 3 (.int (l_3 + 1))) (by decide) (Or.inl rfl)) (vg_o (i := 5) (v := .int (l_5 + 1)) (vg_o (i := 3) (v := .int (l_3 + 1)) (vg_o (i := 6) (v := .int (gE (σ) 22 (l_3 : Int32).toNatClampNeg)) g_4 (by decide) (Or.inl rfl)) (by decide) (Or.inl rfl)) (by decide) (Or.inl rfl)) (vg_s (vz_s1 (vz_s1 (lv) 6 (.int (gE (σ) 22 (l_3 : Int32).toNatClampNeg))) 3 (.int (l_3 + 1))) 5 (.int (l_5 + 1))) (nb_s1 (nb_s1 (nb_s1 hnb rfl) rfl) rfl) ((congrFun (congrFun e_17 42) 3).trans hr_42_3) ((congrFun (congrFun e_17 42) 4).trans hr_42_4) H
                  · refine ev_b2 (t := 259) (p' := 211) rfl rfl rfl (if_neg c_16) ?_
                    refine ev_x (i := .aload_n 0) (len := 1) (p' := 212) (s' := [.ref 42]) rfl rfl (ld_a (vg_o (i := 6) (v := .int (gE (σ) 22 (l_3 : Int32).toNatClampNeg)) g_0 (by decide) (Or.inl rfl))) ?_
                    refine ev_x (i := .iload_n 3) (len := 1) (p' := 213) (s' := [.int l_3, .ref 42]) rfl rfl (ld_i (vg_o (i := 6) (v := .int (gE (σ) 22 (l_3 : Int32).toNatClampNeg)) g_3 (by decide) (Or.inl rfl))) ?_
                    refine ev_x (i := .iload 6) (len := 2) (p' := 215) (s' := [.int (gE (σ) 22 (l_3 : Int32).toNatClampNeg), .int l_3, .ref 42]) rfl rfl (ld_i (vg_s (lv) 6 (.int (gE (σ) 22 (l_3 : Int32).toNatClampNeg)))) ?_
                    obtain ⟨p_18, G_18, H⟩ := F_bd H
                    refine ev_cv (d := d + 2) (As := [.int l_3, .int (gE (σ) 22 (l_3 : Int32).toNatClampNeg)]) (a := 42) (p' := 218) rfl rfl rfl ly_42 rfl rfl rfl rfl rfl (nb_s1 hnb rfl) rfl (F_72_ok (d := d + 0) (ht := (Or.inr rfl)) (hr_42_4 := hr_42_4) G_18) ?_
                    refine ev_st (st' := [.int p_18.1]) rfl ?_
                    have e_18 := F_72_R G_18
                    refine ev_x (i := .istore 7) (len := 2) (p' := 220) (s' := []) (l' := vz_s1 (vz_s1 (lv) 6 (.int (gE (σ) 22 (l_3 : Int32).toNatClampNeg))) 7 (.int p_18.1)) rfl rfl rfl ?_
                    refine ev_x (i := .iload 7) (len := 2) (p' := 222) (s' := [.int p_18.1]) rfl rfl (ld_i (vg_s (vz_s1 (lv) 6 (.int (gE (σ) 22 (l_3 : Int32).toNatClampNeg))) 7 (.int p_18.1))) ?_
                    refine F_if H (fun c_19 H => ?_) (fun c_19 H => ?_)
                    · refine ev_b0 (t := 232) (p' := 225) rfl rfl rfl (if_neg (fun q => q c_19)) ?_
                      refine ev_x (i := .aload_n 0) (len := 1) (p' := 226) (s' := [.ref 42]) rfl rfl (ld_a (vg_o (i := 7) (v := .int p_18.1) (vg_o (i := 6) (v := .int (gE (σ) 22 (l_3 : Int32).toNatClampNeg)) g_0 (by decide) (Or.inl rfl)) (by decide) (Or.inl rfl))) ?_
                      refine ev_x (i := .iload_n 3) (len := 1) (p' := 227) (s' := [.int l_3, .ref 42]) rfl rfl (ld_i (vg_o (i := 7) (v := .int p_18.1) (vg_o (i := 6) (v := .int (gE (σ) 22 (l_3 : Int32).toNatClampNeg)) g_3 (by decide) (Or.inl rfl)) (by decide) (Or.inl rfl))) ?_
                      obtain ⟨p_20, G_20, H⟩ := F_bd H
                      refine ev_cv (d := d + 2) (As := [.int l_3]) (a := 42) (p' := 230) rfl rfl rfl ly_42 rfl rfl rfl rfl rfl (nb_s1 (nb_s1 hnb rfl) rfl) rfl (F_74_ok (d := d + 0) (ht := (Or.inr rfl)) (hr_42_4 := ((congrFun (congrFun e_18 42) 4).trans hr_42_4)) G_20) ?_
                      refine ev_st (st' := [.int p_20.1]) rfl ?_
                      have e_20 := F_74_R G_20
                      refine ev_x (i := .istore 7) (len := 2) (p' := 232) (s' := []) (l' := vz_s1 (vz_s1 (vz_s1 (lv) 6 (.int (gE (σ) 22 (l_3 : Int32).toNatClampNeg))) 7 (.int p_18.1)) 7 (.int p_20.1)) rfl rfl rfl ?_
                      refine ev_x (i := .iload 7) (len := 2) (p' := 234) (s' := [.int p_20.1]) rfl rfl (ld_i (vg_s (vz_s1 (vz_s1 (lv) 6 (.int (gE (σ) 22 (l_3 : Int32).toNatClampNeg))) 7 (.int p_18.1)) 7 (.int p_20.1))) ?_
                      refine F_if H (fun c_21 H => ?_) (fun c_21 H => ?_)
                      · refine ev_b0 (t := 253) (p' := 253) rfl rfl rfl (if_pos c_21) ?_
                        refine ev_x (i := .iinc 3 1) (len := 3) (p' := 256) (s' := []) (l' := vz_s1 (vz_s1 (vz_s1 (vz_s1 (lv) 6 (.int (gE (σ) 22 (l_3 : Int32).toNatClampNeg))) 7 (.int p_18.1)) 7 (.int p_20.1)) 3 (.int (l_3 + 1))) rfl rfl (ld_inc (vg_o (i := 7) (v := .int p_20.1) (vg_o (i := 7) (v := .int p_18.1) (vg_o (i := 6) (v := .int (gE (σ) 22 (l_3 : Int32).toNatClampNeg)) g_3 (by decide) (Or.inl rfl)) (by decide) (Or.inl rfl)) (by decide) (Or.inl rfl)) rfl) ?_
                        refine ev_x (i := .goto 13) (len := 3) (p' := 269) (s' := []) rfl rfl rfl ?_
                        refine ev_x (i := .iinc 5 1) (len := 3) (p' := 272) (s' := []) (l' := vz_s1 (vz_s1 (vz_s1 (vz_s1 (vz_s1 (lv) 6 (.int (gE (σ) 22 (l_3 : Int32).toNatClampNeg))) 7 (.int p_18.1)) 7 (.int p_20.1)) 3 (.int (l_3 + 1))) 5 (.int (l_5 + 1))) rfl rfl (ld_inc (vg_o (i := 3) (v := .int (l_3 + 1)) (vg_o (i := 7) (v := .int p_20.1) (vg_o (i := 7) (v := .int p_18.1) (vg_o (i := 6) (v := .int (gE (σ) 22 (l_3 : Int32).toNatClampNeg)) g_5 (by decide) (Or.inl rfl)) (by decide) (Or.inl rfl)) (by decide) (Or.inl rfl)) (by decide) (Or.inl rfl)) rfl) ?_
                        refine ev_x (i := .goto (-244)) (len := 3) (p' := 28) (s' := []) rfl rfl rfl ?_
                        exact ih _ _ _ _ _ _ _ (vg_o (i := 5) (v := .int (l_5 + 1)) (vg_o (i := 3) (v := .int (l_3 + 1)) (vg_o (i := 7) (v := .int p_20.1) (vg_o (i := 7) (v := .int p_18.1) (vg_o (i := 6) (v := .int (gE (σ) 22 (l_3 : Int32).toNatClampNeg)) g_0 (by decide) (Or.inl rfl)) (by decide) (Or.inl rfl)) (by decide) (Or.inl rfl)) (by decide) (Or.inl rfl)) (by decide) (Or.inl rfl)) (vg_o (i := 5) (v := .int (l_5 + 1)) (vg_o (i := 3) (v := .int (l_3 + 1)) (vg_o (i := 7) (v := .int p_20.1) (vg_o (i := 7) (v := .int p_18.1) (vg_o (i := 6) (v := .int (gE (σ) 22 (l_3 : Int32).toNatClampNeg)) g_2 (by decide) (Or.inl rfl)) (by decide) (Or.inl rfl)) (by decide) (Or.inl rfl)) (by decide) (Or.inl rfl)) (by decide) (Or.inl rfl)) (vg_o (i := 5) (v := .int (l_5 + 1)) (vg_s (vz_s1 (vz_s1 (vz_s1 (lv) 6 (.int (gE (σ) 22 (l_3 : Int32).toNatClampNeg))) 7 (.int p_18.1)) 7 (.int p_20.1)) 3 (.int (l_3 + 1))) (by decide) (Or.inl rfl)) (vg_o (i := 5) (v := .int (l_5 + 1)) (vg_o (i := 3) (v := .int (l_3 + 1)) (vg_o (i := 7) (v := .int p_20.1) (vg_o (i := 7) (v := .int p_18.1) (vg_o (i := 6) (v := .int (gE (σ) 22 (l_3 : Int32).toNatClampNeg)) g_4 (by decide) (Or.inl rfl)) (by decide) (Or.inl rfl)) (by decide) (Or.inl rfl)) (by decide) (Or.inl rfl)) (by decide) (Or.inl rfl)) (vg_s (vz_s1 (vz_s1 (vz_s1 (vz_s1 (lv) 6 (.int (gE (σ) 22 (l_3 : Int32).toNatClampNeg))) 7 (.int p_18.1)) 7 (.int p_20.1)) 3 (.int (l_3 + 1))) 5 (.int (l_5 + 1))) (nb_s1 (nb_s1 (nb_s1 (nb_s1 (nb_s1 hnb rfl) rfl) rfl) rfl) rfl) ((congrFun (congrFun e_20 42) 3).trans ((congrFun (congrFun e_18 42) 3).trans hr_42_3)) ((congrFun (congrFun e_20 42) 4).trans ((congrFun (congrFun e_18 42) 4).trans hr_42_4)) H
                      · refine ev_b0 (t := 253) (p' := 237) rfl rfl rfl (if_neg c_21) ?_
                        refine ev_x (i := .aload_n 0) (len := 1) (p' := 238) (s' := [.ref 42]) rfl rfl (ld_a (vg_o (i := 7) (v := .int p_20.1) (vg_o (i := 7) (v := .int p_18.1) (vg_o (i := 6) (v := .int (gE (σ) 22 (l_3 : Int32).toNatClampNeg)) g_0 (by decide) (Or.inl rfl)) (by decide) (Or.inl rfl)) (by decide) (Or.inl rfl))) ?_
                        refine ev_x (i := .aload_n 0) (len := 1) (p' := 239) (s' := [.ref 42, .ref 42]) rfl rfl (ld_a (vg_o (i := 7) (v := .int p_20.1) (vg_o (i := 7) (v := .int p_18.1) (vg_o (i := 6) (v := .int (gE (σ) 22 (l_3 : Int32).toNatClampNeg)) g_0 (by decide) (Or.inl rfl)) (by decide) (Or.inl rfl)) (by decide) (Or.inl rfl))) ?_
                        refine ev_gr (p' := 242) (v := 21) rfl rfl rfl ly_42 rfl rfl ((congrFun (congrFun e_20 42) 4).trans ((congrFun (congrFun e_18 42) 4).trans hr_42_4)) ?_
                        refine ev_gc (p' := 245) (v := 23) rfl rfl rfl ly_21 rfl rfl ?_
                        refine ev_x (i := .iload_n 3) (len := 1) (p' := 246) (s' := [.int l_3, .ref 23, .ref 42]) rfl rfl (ld_i (vg_o (i := 7) (v := .int p_20.1) (vg_o (i := 7) (v := .int p_18.1) (vg_o (i := 6) (v := .int (gE (σ) 22 (l_3 : Int32).toNatClampNeg)) g_3 (by decide) (Or.inl rfl)) (by decide) (Or.inl rfl)) (by decide) (Or.inl rfl))) ?_
                        obtain ⟨b_22, H⟩ := F_gd H
                        refine ev_ga (p' := 247) (v := (gE (p_20.2) 23 (l_3 : Int32).toNatClampNeg)) rfl rfl ly_23 rfl (gd_in b_22) rfl ?_
                        refine ev_pi (p' := 250) rfl rfl rfl ly_42 rfl rfl rfl rfl ?_
                        refine ev_x (i := .iload 7) (len := 2) (p' := 252) (s' := [.int p_20.1]) rfl rfl (ld_i (vg_s (vz_s1 (vz_s1 (lv) 6 (.int (gE (σ) 22 (l_3 : Int32).toNatClampNeg))) 7 (.int p_18.1)) 7 (.int p_20.1))) ?_
                        obtain rfl := Option.some.inj H
                        exact ev_iret rfl rfl rfl rfl
                    · refine ev_b0 (t := 232) (p' := 232) rfl rfl rfl (if_pos c_19) ?_
                      refine ev_x (i := .iload 7) (len := 2) (p' := 234) (s' := [.int p_18.1]) rfl rfl (ld_i (vg_s (vz_s1 (lv) 6 (.int (gE (σ) 22 (l_3 : Int32).toNatClampNeg))) 7 (.int p_18.1))) ?_
                      refine ev_b0 (t := 253) (p' := 237) rfl rfl rfl (if_neg c_19) ?_
                      refine ev_x (i := .aload_n 0) (len := 1) (p' := 238) (s' := [.ref 42]) rfl rfl (ld_a (vg_o (i := 7) (v := .int p_18.1) (vg_o (i := 6) (v := .int (gE (σ) 22 (l_3 : Int32).toNatClampNeg)) g_0 (by decide) (Or.inl rfl)) (by decide) (Or.inl rfl))) ?_
                      refine ev_x (i := .aload_n 0) (len := 1) (p' := 239) (s' := [.ref 42, .ref 42]) rfl rfl (ld_a (vg_o (i := 7) (v := .int p_18.1) (vg_o (i := 6) (v := .int (gE (σ) 22 (l_3 : Int32).toNatClampNeg)) g_0 (by decide) (Or.inl rfl)) (by decide) (Or.inl rfl))) ?_
                      refine ev_gr (p' := 242) (v := 21) rfl rfl rfl ly_42 rfl rfl ((congrFun (congrFun e_18 42) 4).trans hr_42_4) ?_
                      refine ev_gc (p' := 245) (v := 23) rfl rfl rfl ly_21 rfl rfl ?_
                      refine ev_x (i := .iload_n 3) (len := 1) (p' := 246) (s' := [.int l_3, .ref 23, .ref 42]) rfl rfl (ld_i (vg_o (i := 7) (v := .int p_18.1) (vg_o (i := 6) (v := .int (gE (σ) 22 (l_3 : Int32).toNatClampNeg)) g_3 (by decide) (Or.inl rfl)) (by decide) (Or.inl rfl))) ?_
                      obtain ⟨b_23, H⟩ := F_gd H
                      refine ev_ga (p' := 247) (v := (gE (p_18.2) 23 (l_3 : Int32).toNatClampNeg)) rfl rfl ly_23 rfl (gd_in b_23) rfl ?_
                      refine ev_pi (p' := 250) rfl rfl rfl ly_42 rfl rfl rfl rfl ?_
                      refine ev_x (i := .iload 7) (len := 2) (p' := 252) (s' := [.int p_18.1]) rfl rfl (ld_i (vg_s (vz_s1 (lv) 6 (.int (gE (σ) 22 (l_3 : Int32).toNatClampNeg))) 7 (.int p_18.1))) ?_
                      obtain rfl := Option.some.inj H
                      exact ev_iret rfl rfl rfl rfl
              · refine ev_b2 (t := 198) (p' := 169) rfl rfl rfl (if_neg c_13) ?_
                refine ev_x (i := .aload_n 0) (len := 1) (p' := 170) (s' := [.ref 42]) rfl rfl (ld_a (vg_o (i := 6) (v := .int (gE (σ) 22 (l_3 : Int32).toNatClampNeg)) g_0 (by decide) (Or.inl rfl))) ?_
                refine ev_x (i := .iload_n 3) (len := 1) (p' := 171) (s' := [.int l_3, .ref 42]) rfl rfl (ld_i (vg_o (i := 6) (v := .int (gE (σ) 22 (l_3 : Int32).toNatClampNeg)) g_3 (by decide) (Or.inl rfl))) ?_
                refine ev_x (i := .iload 6) (len := 2) (p' := 173) (s' := [.int (gE (σ) 22 (l_3 : Int32).toNatClampNeg), .int l_3, .ref 42]) rfl rfl (ld_i (vg_s (lv) 6 (.int (gE (σ) 22 (l_3 : Int32).toNatClampNeg)))) ?_
                obtain ⟨p_24, G_24, H⟩ := F_bd H
                refine ev_cv (d := d + 2) (As := [.int l_3, .int (gE (σ) 22 (l_3 : Int32).toNatClampNeg)]) (a := 42) (p' := 176) rfl rfl rfl ly_42 rfl rfl rfl rfl rfl (nb_s1 hnb rfl) rfl (F_71_ok (d := d + 1) (ht := (Or.inr rfl)) (hr_42_4 := hr_42_4) G_24) ?_
                refine ev_st (st' := [.int p_24.1]) rfl ?_
                have e_24 := F_71_R G_24
                refine F_if H (fun c_25 H => ?_) (fun c_25 H => ?_)
                · refine ev_b0 (t := 191) (p' := 191) rfl rfl rfl (if_pos c_25) ?_
                  refine ev_x (i := .iload_n 3) (len := 1) (p' := 192) (s' := [.int l_3]) rfl rfl (ld_i (vg_o (i := 6) (v := .int (gE (σ) 22 (l_3 : Int32).toNatClampNeg)) g_3 (by decide) (Or.inl rfl))) ?_
                  refine ev_x (i := .iconst 1) (len := 1) (p' := 193) (s' := [.int 1, .int l_3]) rfl rfl rfl ?_
                  refine ev_x (i := .iadd) (len := 1) (p' := 194) (s' := [.int (l_3 + 1)]) rfl rfl rfl ?_
                  refine ev_x (i := .istore_n 3) (len := 1) (p' := 195) (s' := []) (l' := vz_s1 (vz_s1 (lv) 6 (.int (gE (σ) 22 (l_3 : Int32).toNatClampNeg))) 3 (.int (l_3 + 1))) rfl rfl rfl ?_
                  refine ev_x (i := .goto 74) (len := 3) (p' := 269) (s' := []) rfl rfl rfl ?_
                  refine ev_x (i := .iinc 5 1) (len := 3) (p' := 272) (s' := []) (l' := vz_s1 (vz_s1 (vz_s1 (lv) 6 (.int (gE (σ) 22 (l_3 : Int32).toNatClampNeg))) 3 (.int (l_3 + 1))) 5 (.int (l_5 + 1))) rfl rfl (ld_inc (vg_o (i := 3) (v := .int (l_3 + 1)) (vg_o (i := 6) (v := .int (gE (σ) 22 (l_3 : Int32).toNatClampNeg)) g_5 (by decide) (Or.inl rfl)) (by decide) (Or.inl rfl)) rfl) ?_
                  refine ev_x (i := .goto (-244)) (len := 3) (p' := 28) (s' := []) rfl rfl rfl ?_
                  exact ih _ _ _ _ _ _ _ (vg_o (i := 5) (v := .int (l_5 + 1)) (vg_o (i := 3) (v := .int (l_3 + 1)) (vg_o (i := 6) (v := .int (gE (σ) 22 (l_3 : Int32).toNatClampNeg)) g_0 (by decide) (Or.inl rfl)) (by decide) (Or.inl rfl)) (by decide) (Or.inl rfl)) (vg_o (i := 5) (v := .int (l_5 + 1)) (vg_o (i := 3) (v := .int (l_3 + 1)) (vg_o (i := 6) (v := .int (gE (σ) 22 (l_3 : Int32).toNatClampNeg)) g_2 (by decide) (Or.inl rfl)) (by decide) (Or.inl rfl)) (by decide) (Or.inl rfl)) (vg_o (i := 5) (v := .int (l_5 + 1)) (vg_s (vz_s1 (lv) 6 (.int (gE (σ) 22 (l_3 : Int32).toNatClampNeg))) 3 (.int (l_3 + 1))) (by decide) (Or.inl rfl)) (vg_o (i := 5) (v := .int (l_5 + 1)) (vg_o (i := 3) (v := .int (l_3 + 1)) (vg_o (i := 6) (v := .int (gE (σ) 22 (l_3 : Int32).toNatClampNeg)) g_4 (by decide) (Or.inl rfl)) (by decide) (Or.inl rfl)) (by decide) (Or.inl rfl)) (vg_s (vz_s1 (vz_s1 (lv) 6 (.int (gE (σ) 22 (l_3 : Int32).toNatClampNeg))) 3 (.int (l_3 + 1))) 5 (.int (l_5 + 1))) (nb_s1 (nb_s1 (nb_s1 hnb rfl) rfl) rfl) ((congrFun (congrFun e_24 42) 3).trans hr_42_3) ((congrFun (congrFun e_24 42) 4).trans hr_42_4) H
                · refine ev_b0 (t := 191) (p' := 179) rfl rfl rfl (if_neg c_25) ?_
                  refine ev_x (i := .aload_n 0) (len := 1) (p' := 180) (s' := [.ref 42]) rfl rfl (ld_a (vg_o (i := 6) (v := .int (gE (σ) 22 (l_3 : Int32).toNatClampNeg)) g_0 (by decide) (Or.inl rfl))) ?_
                  refine ev_gr (p' := 183) (v := 21) rfl rfl rfl ly_42 rfl rfl ((congrFun (congrFun e_24 42) 4).trans hr_42_4) ?_
                  refine ev_gc (p' := 186) (v := 26) rfl rfl rfl ly_21 rfl rfl ?_
                  refine ev_x (i := .iload_n 3) (len := 1) (p' := 187) (s' := [.int l_3, .ref 26]) rfl rfl (ld_i (vg_o (i := 6) (v := .int (gE (σ) 22 (l_3 : Int32).toNatClampNeg)) g_3 (by decide) (Or.inl rfl))) ?_
                  obtain ⟨b_26, H⟩ := F_gd H
                  refine ev_ga (p' := 188) (v := (gE (p_24.2) 26 (l_3 : Int32).toNatClampNeg)) rfl rfl ly_26 rfl (gd_in b_26) rfl ?_
                  refine ev_x (i := .goto 6) (len := 3) (p' := 194) (s' := [.int (gE (p_24.2) 26 (l_3 : Int32).toNatClampNeg)]) rfl rfl rfl ?_
                  refine ev_x (i := .istore_n 3) (len := 1) (p' := 195) (s' := []) (l' := vz_s1 (vz_s1 (lv) 6 (.int (gE (σ) 22 (l_3 : Int32).toNatClampNeg))) 3 (.int (gE (p_24.2) 26 (l_3 : Int32).toNatClampNeg))) rfl rfl rfl ?_
                  refine ev_x (i := .goto 74) (len := 3) (p' := 269) (s' := []) rfl rfl rfl ?_
                  refine ev_x (i := .iinc 5 1) (len := 3) (p' := 272) (s' := []) (l' := vz_s1 (vz_s1 (vz_s1 (lv) 6 (.int (gE (σ) 22 (l_3 : Int32).toNatClampNeg))) 3 (.int (gE (p_24.2) 26 (l_3 : Int32).toNatClampNeg))) 5 (.int (l_5 + 1))) rfl rfl (ld_inc (vg_o (i := 3) (v := .int (gE (p_24.2) 26 (l_3 : Int32).toNatClampNeg)) (vg_o (i := 6) (v := .int (gE (σ) 22 (l_3 : Int32).toNatClampNeg)) g_5 (by decide) (Or.inl rfl)) (by decide) (Or.inl rfl)) rfl) ?_
                  refine ev_x (i := .goto (-244)) (len := 3) (p' := 28) (s' := []) rfl rfl rfl ?_
                  exact ih _ _ _ _ _ _ _ (vg_o (i := 5) (v := .int (l_5 + 1)) (vg_o (i := 3) (v := .int (gE (p_24.2) 26 (l_3 : Int32).toNatClampNeg)) (vg_o (i := 6) (v := .int (gE (σ) 22 (l_3 : Int32).toNatClampNeg)) g_0 (by decide) (Or.inl rfl)) (by decide) (Or.inl rfl)) (by decide) (Or.inl rfl)) (vg_o (i := 5) (v := .int (l_5 + 1)) (vg_o (i := 3) (v := .int (gE (p_24.2) 26 (l_3 : Int32).toNatClampNeg)) (vg_o (i := 6) (v := .int (gE (σ) 22 (l_3 : Int32).toNatClampNeg)) g_2 (by decide) (Or.inl rfl)) (by decide) (Or.inl rfl)) (by decide) (Or.inl rfl)) (vg_o (i := 5) (v := .int (l_5 + 1)) (vg_s (vz_s1 (lv) 6 (.int (gE (σ) 22 (l_3 : Int32).toNatClampNeg))) 3 (.int (gE (p_24.2) 26 (l_3 : Int32).toNatClampNeg))) (by decide) (Or.inl rfl)) (vg_o (i := 5) (v := .int (l_5 + 1)) (vg_o (i := 3) (v := .int (gE (p_24.2) 26 (l_3 : Int32).toNatClampNeg)) (vg_o (i := 6) (v := .int (gE (σ) 22 (l_3 : Int32).toNatClampNeg)) g_4 (by decide) (Or.inl rfl)) (by decide) (Or.inl rfl)) (by decide) (Or.inl rfl)) (vg_s (vz_s1 (vz_s1 (lv) 6 (.int (gE (σ) 22 (l_3 : Int32).toNatClampNeg))) 3 (.int (gE (p_24.2) 26 (l_3 : Int32).toNatClampNeg))) 5 (.int (l_5 + 1))) (nb_s1 (nb_s1 (nb_s1 hnb rfl) rfl) rfl) ((congrFun (congrFun e_24 42) 3).trans hr_42_3) ((congrFun (congrFun e_24 42) 4).trans hr_42_4) H
            · refine ev_b2 (t := 162) (p' := 117) rfl rfl rfl (if_neg c_12) ?_
              refine ev_x (i := .iload_n 2) (len := 1) (p' := 118) (s' := [.int l_2]) rfl rfl (ld_i (vg_o (i := 6) (v := .int (gE (σ) 22 (l_3 : Int32).toNatClampNeg)) g_2 (by decide) (Or.inl rfl))) ?_
              refine ev_x (i := .bipush 60) (len := 2) (p' := 120) (s' := [.int 60, .int l_2]) rfl rfl rfl ?_
              refine F_if H (fun c_27 H => ?_) (fun c_27 H => ?_)
              · refine ev_b2 (t := 162) (p' := 162) rfl rfl rfl (if_pos c_27) ?_
                refine ev_x (i := .iload 6) (len := 2) (p' := 164) (s' := [.int (gE (σ) 22 (l_3 : Int32).toNatClampNeg)]) rfl rfl (ld_i (vg_s (lv) 6 (.int (gE (σ) 22 (l_3 : Int32).toNatClampNeg)))) ?_
                refine ev_x (i := .bipush 23) (len := 2) (p' := 166) (s' := [.int 23, .int (gE (σ) 22 (l_3 : Int32).toNatClampNeg)]) rfl rfl rfl ?_
                refine F_if H (fun c_28 H => ?_) (fun c_28 H => ?_)
                · refine ev_b2 (t := 198) (p' := 198) rfl rfl rfl (if_pos c_28) ?_
                  refine ev_x (i := .iload 6) (len := 2) (p' := 200) (s' := [.int (gE (σ) 22 (l_3 : Int32).toNatClampNeg)]) rfl rfl (ld_i (vg_s (lv) 6 (.int (gE (σ) 22 (l_3 : Int32).toNatClampNeg)))) ?_
                  refine ev_x (i := .iconst 4) (len := 1) (p' := 201) (s' := [.int 4, .int (gE (σ) 22 (l_3 : Int32).toNatClampNeg)]) rfl rfl rfl ?_
                  refine F_if H (fun c_29 H => ?_) (fun c_29 H => ?_)
                  · refine ev_b2 (t := 259) (p' := 259) rfl rfl rfl (if_pos c_29) ?_
                    refine ev_x (i := .aload_n 0) (len := 1) (p' := 260) (s' := [.ref 42]) rfl rfl (ld_a (vg_o (i := 6) (v := .int (gE (σ) 22 (l_3 : Int32).toNatClampNeg)) g_0 (by decide) (Or.inl rfl))) ?_
                    refine ev_x (i := .iload_n 3) (len := 1) (p' := 261) (s' := [.int l_3, .ref 42]) rfl rfl (ld_i (vg_o (i := 6) (v := .int (gE (σ) 22 (l_3 : Int32).toNatClampNeg)) g_3 (by decide) (Or.inl rfl))) ?_
                    refine ev_x (i := .iload 6) (len := 2) (p' := 263) (s' := [.int (gE (σ) 22 (l_3 : Int32).toNatClampNeg), .int l_3, .ref 42]) rfl rfl (ld_i (vg_s (lv) 6 (.int (gE (σ) 22 (l_3 : Int32).toNatClampNeg)))) ?_
                    obtain ⟨p_30, G_30, H⟩ := F_bd H
                    refine ev_cv (d := d + 2) (As := [.int l_3, .int (gE (σ) 22 (l_3 : Int32).toNatClampNeg)]) (a := 42) (p' := 266) rfl rfl rfl ly_42 rfl rfl rfl rfl rfl (nb_s1 hnb rfl) rfl (F_76_ok (d := d + 0) (ht := (Or.inr rfl)) (hr_42_3 := hr_42_3) (hr_42_4 := hr_42_4) G_30) ?_
                    refine ev_st (st' := []) rfl ?_
                    have e_30 := F_76_R G_30
                    refine ev_x (i := .iinc 3 1) (len := 3) (p' := 269) (s' := []) (l' := vz_s1 (vz_s1 (lv) 6 (.int (gE (σ) 22 (l_3 : Int32).toNatClampNeg))) 3 (.int (l_3 + 1))) rfl rfl (ld_inc (vg_o (i := 6) (v := .int (gE (σ) 22 (l_3 : Int32).toNatClampNeg)) g_3 (by decide) (Or.inl rfl)) rfl) ?_
                    refine ev_x (i := .iinc 5 1) (len := 3) (p' := 272) (s' := []) (l' := vz_s1 (vz_s1 (vz_s1 (lv) 6 (.int (gE (σ) 22 (l_3 : Int32).toNatClampNeg))) 3 (.int (l_3 + 1))) 5 (.int (l_5 + 1))) rfl rfl (ld_inc (vg_o (i := 3) (v := .int (l_3 + 1)) (vg_o (i := 6) (v := .int (gE (σ) 22 (l_3 : Int32).toNatClampNeg)) g_5 (by decide) (Or.inl rfl)) (by decide) (Or.inl rfl)) rfl) ?_
                    refine ev_x (i := .goto (-244)) (len := 3) (p' := 28) (s' := []) rfl rfl rfl ?_
                    exact ih _ _ _ _ _ _ _ (vg_o (i := 5) (v := .int (l_5 + 1)) (vg_o (i := 3) (v := .int (l_3 + 1)) (vg_o (i := 6) (v := .int (gE (σ) 22 (l_3 : Int32).toNatClampNeg)) g_0 (by decide) (Or.inl rfl)) (by decide) (Or.inl rfl)) (by decide) (Or.inl rfl)) (vg_o (i := 5) (v := .int (l_5 + 1)) (vg_o (i := 3) (v := .int (l_3 + 1)) (vg_o (i := 6) (v := .int (gE (σ) 22 (l_3 : Int32).toNatClampNeg)) g_2 (by decide) (Or.inl rfl)) (by decide) (Or.inl rfl)) (by decide) (Or.inl rfl)) (vg_o (i := 5) (v := .int (l_5 + 1)) (vg_s (vz_s1 (lv) 6 (.int (gE (σ) 22 (l_3 : Int32).toNatClampNeg))) 3 (.int (l_3 + 1))) (by decide) (Or.inl rfl)) (vg_o (i := 5) (v := .int (l_5 + 1)) (vg_o (i := 3) (v := .int (l_3 + 1)) (vg_o (i := 6) (v := .int (gE (σ) 22 (l_3 : Int32).toNatClampNeg)) g_4 (by decide) (Or.inl rfl)) (by decide) (Or.inl rfl)) (by decide) (Or.inl rfl)) (vg_s (vz_s1 (vz_s1 (lv) 6 (.int (gE (σ) 22 (l_3 : Int32).toNatClampNeg))) 3 (.int (l_3 + 1))) 5 (.int (l_5 + 1))) (nb_s1 (nb_s1 (nb_s1 hnb rfl) rfl) rfl) ((congrFun (congrFun e_30 42) 3).trans hr_42_3) ((congrFun (congrFun e_30 42) 4).trans hr_42_4) H
                  · refine ev_b2 (t := 259) (p' := 204) rfl rfl rfl (if_neg c_29) ?_
                    refine ev_x (i := .iload 6) (len := 2) (p' := 206) (s' := [.int (gE (σ) 22 (l_3 : Int32).toNatClampNeg)]) rfl rfl (ld_i (vg_s (lv) 6 (.int (gE (σ) 22 (l_3 : Int32).toNatClampNeg)))) ?_
                    refine ev_x (i := .bipush 8) (len := 2) (p' := 208) (s' := [.int 8, .int (gE (σ) 22 (l_3 : Int32).toNatClampNeg)]) rfl rfl rfl ?_
                    refine F_if H (fun c_31 H => ?_) (fun c_31 H => ?_)
                    · refine ev_b2 (t := 259) (p' := 259) rfl rfl rfl (if_pos c_31) ?_
                      refine ev_x (i := .aload_n 0) (len := 1) (p' := 260) (s' := [.ref 42]) rfl rfl (ld_a (vg_o (i := 6) (v := .int (gE (σ) 22 (l_3 : Int32).toNatClampNeg)) g_0 (by decide) (Or.inl rfl))) ?_
                      refine ev_x (i := .iload_n 3) (len := 1) (p' := 261) (s' := [.int l_3, .ref 42]) rfl rfl (ld_i (vg_o (i := 6) (v := .int (gE (σ) 22 (l_3 : Int32).toNatClampNeg)) g_3 (by decide) (Or.inl rfl))) ?_
                      refine ev_x (i := .iload 6) (len := 2) (p' := 263) (s' := [.int (gE (σ) 22 (l_3 : Int32).toNatClampNeg), .int l_3, .ref 42]) rfl rfl (ld_i (vg_s (lv) 6 (.int (gE (σ) 22 (l_3 : Int32).toNatClampNeg)))) ?_
                      obtain ⟨p_32, G_32, H⟩ := F_bd H
                      refine ev_cv (d := d + 2) (As := [.int l_3, .int (gE (σ) 22 (l_3 : Int32).toNatClampNeg)]) (a := 42) (p' := 266) rfl rfl rfl ly_42 rfl rfl rfl rfl rfl (nb_s1 hnb rfl) rfl (F_76_ok (d := d + 0) (ht := (Or.inr rfl)) (hr_42_3 := hr_42_3) (hr_42_4 := hr_42_4) G_32) ?_
                      refine ev_st (st' := []) rfl ?_
                      have e_32 := F_76_R G_32
                      refine ev_x (i := .iinc 3 1) (len := 3) (p' := 269) (s' := []) (l' := vz_s1 (vz_s1 (lv) 6 (.int (gE (σ) 22 (l_3 : Int32).toNatClampNeg))) 3 (.int (l_3 + 1))) rfl rfl (ld_inc (vg_o (i := 6) (v := .int (gE (σ) 22 (l_3 : Int32).toNatClampNeg)) g_3 (by decide) (Or.inl rfl)) rfl) ?_
                      refine ev_x (i := .iinc 5 1) (len := 3) (p' := 272) (s' := []) (l' := vz_s1 (vz_s1 (vz_s1 (lv) 6 (.int (gE (σ) 22 (l_3 : Int32).toNatClampNeg))) 3 (.int (l_3 + 1))) 5 (.int (l_5 + 1))) rfl rfl (ld_inc (vg_o (i := 3) (v := .int (l_3 + 1)) (vg_o (i := 6) (v := .int (gE (σ) 22 (l_3 : Int32).toNatClampNeg)) g_5 (by decide) (Or.inl rfl)) (by decide) (Or.inl rfl)) rfl) ?_
                      refine ev_x (i := .goto (-244)) (len := 3) (p' := 28) (s' := []) rfl rfl rfl ?_
                      exact ih _ _ _ _ _ _ _ (vg_o (i := 5) (v := .int (l_5 + 1)) (vg_o (i := 3) (v := .int (l_3 + 1)) (vg_o (i := 6) (v := .int (gE (σ) 22 (l_3 : Int32).toNatClampNeg)) g_0 (by decide) (Or.inl rfl)) (by decide) (Or.inl rfl)) (by decide) (Or.inl rfl)) (vg_o (i := 5) (v := .int (l_5 + 1)) (vg_o (i := 3) (v := .int (l_3 + 1)) (vg_o (i := 6) (v := .int (gE (σ) 22 (l_3 : Int32).toNatClampNeg)) g_2 (by decide) (Or.inl rfl)) (by decide) (Or.inl rfl)) (by decide) (Or.inl rfl)) (vg_o (i := 5) (v := .int (l_5 + 1)) (vg_s (vz_s1 (lv) 6 (.int (gE (σ) 22 (l_3 : Int32).toNatClampNeg))) 3 (.int (l_3 + 1))) (by decide) (Or.inl rfl)) (vg_o (i := 5) (v := .int (l_5 + 1)) (vg_o (i := 3) (v := .int (l_3 + 1)) (vg_o (i := 6) (v := .int (gE (σ) 22 (l_3 : Int32).toNatClampNeg)) g_4 (by decide) (Or.inl rfl)) (by decide) (Or.inl rfl)) (by decide) (Or.inl rfl)) (vg_s (vz_s1 (vz_s1 (lv) 6 (.int (gE (σ) 22 (l_3 : Int32).toNatClampNeg))) 3 (.int (l_3 + 1))) 5 (.int (l_5 + 1))) (nb_s1 (nb_s1 (nb_s1 hnb rfl) rfl) rfl) ((congrFun (congrFun e_32 42) 3).trans hr_42_3) ((congrFun (congrFun e_32 42) 4).trans hr_42_4) H
                    · refine ev_b2 (t := 259) (p' := 211) rfl rfl rfl (if_neg c_31) ?_
                      refine ev_x (i := .aload_n 0) (len := 1) (p' := 212) (s' := [.ref 42]) rfl rfl (ld_a (vg_o (i := 6) (v := .int (gE (σ) 22 (l_3 : Int32).toNatClampNeg)) g_0 (by decide) (Or.inl rfl))) ?_
                      refine ev_x (i := .iload_n 3) (len := 1) (p' := 213) (s' := [.int l_3, .ref 42]) rfl rfl (ld_i (vg_o (i := 6) (v := .int (gE (σ) 22 (l_3 : Int32).toNatClampNeg)) g_3 (by decide) (Or.inl rfl))) ?_
                      refine ev_x (i := .iload 6) (len := 2) (p' := 215) (s' := [.int (gE (σ) 22 (l_3 : Int32).toNatClampNeg), .int l_3, .ref 42]) rfl rfl (ld_i (vg_s (lv) 6 (.int (gE (σ) 22 (l_3 : Int32).toNatClampNeg)))) ?_
                      obtain ⟨p_33, G_33, H⟩ := F_bd H
                      refine ev_cv (d := d + 2) (As := [.int l_3, .int (gE (σ) 22 (l_3 : Int32).toNatClampNeg)]) (a := 42) (p' := 218) rfl rfl rfl ly_42 rfl rfl rfl rfl rfl (nb_s1 hnb rfl) rfl (F_72_ok (d := d + 0) (ht := (Or.inr rfl)) (hr_42_4 := hr_42_4) G_33) ?_
                      refine ev_st (st' := [.int p_33.1]) rfl ?_
                      have e_33 := F_72_R G_33
                      refine ev_x (i := .istore 7) (len := 2) (p' := 220) (s' := []) (l' := vz_s1 (vz_s1 (lv) 6 (.int (gE (σ) 22 (l_3 : Int32).toNatClampNeg))) 7 (.int p_33.1)) rfl rfl rfl ?_
                      refine ev_x (i := .iload 7) (len := 2) (p' := 222) (s' := [.int p_33.1]) rfl rfl (ld_i (vg_s (vz_s1 (lv) 6 (.int (gE (σ) 22 (l_3 : Int32).toNatClampNeg))) 7 (.int p_33.1))) ?_
                      refine F_if H (fun c_34 H => ?_) (fun c_34 H => ?_)
                      · refine ev_b0 (t := 232) (p' := 225) rfl rfl rfl (if_neg (fun q => q c_34)) ?_
                        refine ev_x (i := .aload_n 0) (len := 1) (p' := 226) (s' := [.ref 42]) rfl rfl (ld_a (vg_o (i := 7) (v := .int p_33.1) (vg_o (i := 6) (v := .int (gE (σ) 22 (l_3 : Int32).toNatClampNeg)) g_0 (by decide) (Or.inl rfl)) (by decide) (Or.inl rfl))) ?_
                        refine ev_x (i := .iload_n 3) (len := 1) (p' := 227) (s' := [.int l_3, .ref 42]) rfl rfl (ld_i (vg_o (i := 7) (v := .int p_33.1) (vg_o (i := 6) (v := .int (gE (σ) 22 (l_3 : Int32).toNatClampNeg)) g_3 (by decide) (Or.inl rfl)) (by decide) (Or.inl rfl))) ?_
                        obtain ⟨p_35, G_35, H⟩ := F_bd H
                        refine ev_cv (d := d + 2) (As := [.int l_3]) (a := 42) (p' := 230) rfl rfl rfl ly_42 rfl rfl rfl rfl rfl (nb_s1 (nb_s1 hnb rfl) rfl) rfl (F_74_ok (d := d + 0) (ht := (Or.inr rfl)) (hr_42_4 := ((congrFun (congrFun e_33 42) 4).trans hr_42_4)) G_35) ?_
                        refine ev_st (st' := [.int p_35.1]) rfl ?_
                        have e_35 := F_74_R G_35
                        refine ev_x (i := .istore 7) (len := 2) (p' := 232) (s' := []) (l' := vz_s1 (vz_s1 (vz_s1 (lv) 6 (.int (gE (σ) 22 (l_3 : Int32).toNatClampNeg))) 7 (.int p_33.1)) 7 (.int p_35.1)) rfl rfl rfl ?_
                        refine ev_x (i := .iload 7) (len := 2) (p' := 234) (s' := [.int p_35.1]) rfl rfl (ld_i (vg_s (vz_s1 (vz_s1 (lv) 6 (.int (gE (σ) 22 (l_3 : Int32).toNatClampNeg))) 7 (.int p_33.1)) 7 (.int p_35.1))) ?_
                        refine F_if H (fun c_36 H => ?_) (fun c_36 H => ?_)
                        · refine ev_b0 (t := 253) (p' := 253) rfl rfl rfl (if_pos c_36) ?_
                          refine ev_x (i := .iinc 3 1) (len := 3) (p' := 256) (s' := []) (l' := vz_s1 (vz_s1 (vz_s1 (vz_s1 (lv) 6 (.int (gE (σ) 22 (l_3 : Int32).toNatClampNeg))) 7 (.int p_33.1)) 7 (.int p_35.1)) 3 (.int (l_3 + 1))) rfl rfl (ld_inc (vg_o (i := 7) (v := .int p_35.1) (vg_o (i := 7) (v := .int p_33.1) (vg_o (i := 6) (v := .int (gE (σ) 22 (l_3 : Int32).toNatClampNeg)) g_3 (by decide) (Or.inl rfl)) (by decide) (Or.inl rfl)) (by decide) (Or.inl rfl)) rfl) ?_
                          refine ev_x (i := .goto 13) (len := 3) (p' := 269) (s' := []) rfl rfl rfl ?_
                          refine ev_x (i := .iinc 5 1) (len := 3) (p' := 272) (s' := []) (l' := vz_s1 (vz_s1 (vz_s1 (vz_s1 (vz_s1 (lv) 6 (.int (gE (σ) 22 (l_3 : Int32).toNatClampNeg))) 7 (.int p_33.1)) 7 (.int p_35.1)) 3 (.int (l_3 + 1))) 5 (.int (l_5 + 1))) rfl rfl (ld_inc (vg_o (i := 3) (v := .int (l_3 + 1)) (vg_o (i := 7) (v := .int p_35.1) (vg_o (i := 7) (v := .int p_33.1) (vg_o (i := 6) (v := .int (gE (σ) 22 (l_3 : Int32).toNatClampNeg)) g_5 (by decide) (Or.inl rfl)) (by decide) (Or.inl rfl)) (by decide) (Or.inl rfl)) (by decide) (Or.inl rfl)) rfl) ?_
                          refine ev_x (i := .goto (-244)) (len := 3) (p' := 28) (s' := []) rfl rfl rfl ?_
                          exact ih _ _ _ _ _ _ _ (vg_o (i := 5) (v := .int (l_5 + 1)) (vg_o (i := 3) (v := .int (l_3 + 1)) (vg_o (i := 7) (v := .int p_35.1) (vg_o (i := 7) (v := .int p_33.1) (vg_o (i := 6) (v := .int (gE (σ) 22 (l_3 : Int32).toNatClampNeg)) g_0 (by decide) (Or.inl rfl)) (by decide) (Or.inl rfl)) (by decide) (Or.inl rfl)) (by decide) (Or.inl rfl)) (by decide) (Or.inl rfl)) (vg_o (i := 5) (v := .int (l_5 + 1)) (vg_o (i := 3) (v := .int (l_3 + 1)) (vg_o (i := 7) (v := .int p_35.1) (vg_o (i := 7) (v := .int p_33.1) (vg_o (i := 6) (v := .int (gE (σ) 22 (l_3 : Int32).toNatClampNeg)) g_2 (by decide) (Or.inl rfl)) (by decide) (Or.inl rfl)) (by decide) (Or.inl rfl)) (by decide) (Or.inl rfl)) (by decide) (Or.inl rfl)) (vg_o (i := 5) (v := .int (l_5 + 1)) (vg_s (vz_s1 (vz_s1 (vz_s1 (lv) 6 (.int (gE (σ) 22 (l_3 : Int32).toNatClampNeg))) 7 (.int p_33.1)) 7 (.int p_35.1)) 3 (.int (l_3 + 1))) (by decide) (Or.inl rfl)) (vg_o (i := 5) (v := .int (l_5 + 1)) (vg_o (i := 3) (v := .int (l_3 + 1)) (vg_o (i := 7) (v := .int p_35.1) (vg_o (i := 7) (v := .int p_33.1) (vg_o (i := 6) (v := .int (gE (σ) 22 (l_3 : Int32).toNatClampNeg)) g_4 (by decide) (Or.inl rfl)) (by decide) (Or.inl rfl)) (by decide) (Or.inl rfl)) (by decide) (Or.inl rfl)) (by decide) (Or.inl rfl)) (vg_s (vz_s1 (vz_s1 (vz_s1 (vz_s1 (lv) 6 (.int (gE (σ) 22 (l_3 : Int32).toNatClampNeg))) 7 (.int p_33.1)) 7 (.int p_35.1)) 3 (.int (l_3 + 1))) 5 (.int (l_5 + 1))) (nb_s1 (nb_s1 (nb_s1 (nb_s1 (nb_s1 hnb rfl) rfl) rfl) rfl) rfl) ((congrFun (congrFun e_35 42) 3).trans ((congrFun (congrFun e_33 42) 3).trans hr_42_3)) ((congrFun (congrFun e_35 42) 4).trans ((congrFun (congrFun e_33 42) 4).trans hr_42_4)) H
                        · refine ev_b0 (t := 253) (p' := 237) rfl rfl rfl (if_neg c_36) ?_
                          refine ev_x (i := .aload_n 0) (len := 1) (p' := 238) (s' := [.ref 42]) rfl rfl (ld_a (vg_o (i := 7) (v := .int p_35.1) (vg_o (i := 7) (v := .int p_33.1) (vg_o (i := 6) (v := .int (gE (σ) 22 (l_3 : Int32).toNatClampNeg)) g_0 (by decide) (Or.inl rfl)) (by decide) (Or.inl rfl)) (by decide) (Or.inl rfl))) ?_
                          refine ev_x (i := .aload_n 0) (len := 1) (p' := 239) (s' := [.ref 42, .ref 42]) rfl rfl (ld_a (vg_o (i := 7) (v := .int p_35.1) (vg_o (i := 7) (v := .int p_33.1) (vg_o (i := 6) (v := .int (gE (σ) 22 (l_3 : Int32).toNatClampNeg)) g_0 (by decide) (Or.inl rfl)) (by decide) (Or.inl rfl)) (by decide) (Or.inl rfl))) ?_
                          refine ev_gr (p' := 242) (v := 21) rfl rfl rfl ly_42 rfl rfl ((congrFun (congrFun e_35 42) 4).trans ((congrFun (congrFun e_33 42) 4).trans hr_42_4)) ?_
                          refine ev_gc (p' := 245) (v := 23) rfl rfl rfl ly_21 rfl rfl ?_
                          refine ev_x (i := .iload_n 3) (len := 1) (p' := 246) (s' := [.int l_3, .ref 23, .ref 42]) rfl rfl (ld_i (vg_o (i := 7) (v := .int p_35.1) (vg_o (i := 7) (v := .int p_33.1) (vg_o (i := 6) (v := .int (gE (σ) 22 (l_3 : Int32).toNatClampNeg)) g_3 (by decide) (Or.inl rfl)) (by decide) (Or.inl rfl)) (by decide) (Or.inl rfl))) ?_
                          obtain ⟨b_37, H⟩ := F_gd H
                          refine ev_ga (p' := 247) (v := (gE (p_35.2) 23 (l_3 : Int32).toNatClampNeg)) rfl rfl ly_23 rfl (gd_in b_37) rfl ?_
                          refine ev_pi (p' := 250) rfl rfl rfl ly_42 rfl rfl rfl rfl ?_
                          refine ev_x (i := .iload 7) (len := 2) (p' := 252) (s' := [.int p_35.1]) rfl rfl (ld_i (vg_s (vz_s1 (vz_s1 (lv) 6 (.int (gE (σ) 22 (l_3 : Int32).toNatClampNeg))) 7 (.int p_33.1)) 7 (.int p_35.1))) ?_
                          obtain rfl := Option.some.inj H
                          exact ev_iret rfl rfl rfl rfl
                      · refine ev_b0 (t := 232) (p' := 232) rfl rfl rfl (if_pos c_34) ?_
                        refine ev_x (i := .iload 7) (len := 2) (p' := 234) (s' := [.int p_33.1]) rfl rfl (ld_i (vg_s (vz_s1 (lv) 6 (.int (gE (σ) 22 (l_3 : Int32).toNatClampNeg))) 7 (.int p_33.1))) ?_
                        refine ev_b0 (t := 253) (p' := 237) rfl rfl rfl (if_neg c_34) ?_
                        refine ev_x (i := .aload_n 0) (len := 1) (p' := 238) (s' := [.ref 42]) rfl rfl (ld_a (vg_o (i := 7) (v := .int p_33.1) (vg_o (i := 6) (v := .int (gE (σ) 22 (l_3 : Int32).toNatClampNeg)) g_0 (by decide) (Or.inl rfl)) (by decide) (Or.inl rfl))) ?_
                        refine ev_x (i := .aload_n 0) (len := 1) (p' := 239) (s' := [.ref 42, .ref 42]) rfl rfl (ld_a (vg_o (i := 7) (v := .int p_33.1) (vg_o (i := 6) (v := .int (gE (σ) 22 (l_3 : Int32).toNatClampNeg)) g_0 (by decide) (Or.inl rfl)) (by decide) (Or.inl rfl))) ?_
                        refine ev_gr (p' := 242) (v := 21) rfl rfl rfl ly_42 rfl rfl ((congrFun (congrFun e_33 42) 4).trans hr_42_4) ?_
                        refine ev_gc (p' := 245) (v := 23) rfl rfl rfl ly_21 rfl rfl ?_
                        refine ev_x (i := .iload_n 3) (len := 1) (p' := 246) (s' := [.int l_3, .ref 23, .ref 42]) rfl rfl (ld_i (vg_o (i := 7) (v := .int p_33.1) (vg_o (i := 6) (v := .int (gE (σ) 22 (l_3 : Int32).toNatClampNeg)) g_3 (by decide) (Or.inl rfl)) (by decide) (Or.inl rfl))) ?_
                        obtain ⟨b_38, H⟩ := F_gd H
                        refine ev_ga (p' := 247) (v := (gE (p_33.2) 23 (l_3 : Int32).toNatClampNeg)) rfl rfl ly_23 rfl (gd_in b_38) rfl ?_
                        refine ev_pi (p' := 250) rfl rfl rfl ly_42 rfl rfl rfl rfl ?_
                        refine ev_x (i := .iload 7) (len := 2) (p' := 252) (s' := [.int p_33.1]) rfl rfl (ld_i (vg_s (vz_s1 (lv) 6 (.int (gE (σ) 22 (l_3 : Int32).toNatClampNeg))) 7 (.int p_33.1))) ?_
                        obtain rfl := Option.some.inj H
                        exact ev_iret rfl rfl rfl rfl
                · refine ev_b2 (t := 198) (p' := 169) rfl rfl rfl (if_neg c_28) ?_
                  refine ev_x (i := .aload_n 0) (len := 1) (p' := 170) (s' := [.ref 42]) rfl rfl (ld_a (vg_o (i := 6) (v := .int (gE (σ) 22 (l_3 : Int32).toNatClampNeg)) g_0 (by decide) (Or.inl rfl))) ?_
                  refine ev_x (i := .iload_n 3) (len := 1) (p' := 171) (s' := [.int l_3, .ref 42]) rfl rfl (ld_i (vg_o (i := 6) (v := .int (gE (σ) 22 (l_3 : Int32).toNatClampNeg)) g_3 (by decide) (Or.inl rfl))) ?_
                  refine ev_x (i := .iload 6) (len := 2) (p' := 173) (s' := [.int (gE (σ) 22 (l_3 : Int32).toNatClampNeg), .int l_3, .ref 42]) rfl rfl (ld_i (vg_s (lv) 6 (.int (gE (σ) 22 (l_3 : Int32).toNatClampNeg)))) ?_
                  obtain ⟨p_39, G_39, H⟩ := F_bd H
                  refine ev_cv (d := d + 2) (As := [.int l_3, .int (gE (σ) 22 (l_3 : Int32).toNatClampNeg)]) (a := 42) (p' := 176) rfl rfl rfl ly_42 rfl rfl rfl rfl rfl (nb_s1 hnb rfl) rfl (F_71_ok (d := d + 1) (ht := (Or.inr rfl)) (hr_42_4 := hr_42_4) G_39) ?_
                  refine ev_st (st' := [.int p_39.1]) rfl ?_
                  have e_39 := F_71_R G_39
                  refine F_if H (fun c_40 H => ?_) (fun c_40 H => ?_)
                  · refine ev_b0 (t := 191) (p' := 191) rfl rfl rfl (if_pos c_40) ?_
                    refine ev_x (i := .iload_n 3) (len := 1) (p' := 192) (s' := [.int l_3]) rfl rfl (ld_i (vg_o (i := 6) (v := .int (gE (σ) 22 (l_3 : Int32).toNatClampNeg)) g_3 (by decide) (Or.inl rfl))) ?_
                    refine ev_x (i := .iconst 1) (len := 1) (p' := 193) (s' := [.int 1, .int l_3]) rfl rfl rfl ?_
                    refine ev_x (i := .iadd) (len := 1) (p' := 194) (s' := [.int (l_3 + 1)]) rfl rfl rfl ?_
                    refine ev_x (i := .istore_n 3) (len := 1) (p' := 195) (s' := []) (l' := vz_s1 (vz_s1 (lv) 6 (.int (gE (σ) 22 (l_3 : Int32).toNatClampNeg))) 3 (.int (l_3 + 1))) rfl rfl rfl ?_
                    refine ev_x (i := .goto 74) (len := 3) (p' := 269) (s' := []) rfl rfl rfl ?_
                    refine ev_x (i := .iinc 5 1) (len := 3) (p' := 272) (s' := []) (l' := vz_s1 (vz_s1 (vz_s1 (lv) 6 (.int (gE (σ) 22 (l_3 : Int32).toNatClampNeg))) 3 (.int (l_3 + 1))) 5 (.int (l_5 + 1))) rfl rfl (ld_inc (vg_o (i := 3) (v := .int (l_3 + 1)) (vg_o (i := 6) (v := .int (gE (σ) 22 (l_3 : Int32).toNatClampNeg)) g_5 (by decide) (Or.inl rfl)) (by decide) (Or.inl rfl)) rfl) ?_
                    refine ev_x (i := .goto (-244)) (len := 3) (p' := 28) (s' := []) rfl rfl rfl ?_
                    exact ih _ _ _ _ _ _ _ (vg_o (i := 5) (v := .int (l_5 + 1)) (vg_o (i := 3) (v := .int (l_3 + 1)) (vg_o (i := 6) (v := .int (gE (σ) 22 (l_3 : Int32).toNatClampNeg)) g_0 (by decide) (Or.inl rfl)) (by decide) (Or.inl rfl)) (by decide) (Or.inl rfl)) (vg_o (i := 5) (v := .int (l_5 + 1)) (vg_o (i := 3) (v := .int (l_3 + 1)) (vg_o (i := 6) (v := .int (gE (σ) 22 (l_3 : Int32).toNatClampNeg)) g_2 (by decide) (Or.inl rfl)) (by decide) (Or.inl rfl)) (by decide) (Or.inl rfl)) (vg_o (i := 5) (v := .int (l_5 + 1)) (vg_s (vz_s1 (lv) 6 (.int (gE (σ) 22 (l_3 : Int32).toNatClampNeg))) 3 (.int (l_3 + 1))) (by decide) (Or.inl rfl)) (vg_o (i := 5) (v := .int (l_5 + 1)) (vg_o (i := 3) (v := .int (l_3 + 1)) (vg_o (i := 6) (v := .int (gE (σ) 22 (l_3 : Int32).toNatClampNeg)) g_4 (by decide) (Or.inl rfl)) (by decide) (Or.inl rfl)) (by decide) (Or.inl rfl)) (vg_s (vz_s1 (vz_s1 (lv) 6 (.int (gE (σ) 22 (l_3 : Int32).toNatClampNeg))) 3 (.int (l_3 + 1))) 5 (.int (l_5 + 1))) (nb_s1 (nb_s1 (nb_s1 hnb rfl) rfl) rfl) ((congrFun (congrFun e_39 42) 3).trans hr_42_3) ((congrFun (congrFun e_39 42) 4).trans hr_42_4) H
                  · refine ev_b0 (t := 191) (p' := 179) rfl rfl rfl (if_neg c_40) ?_
                    refine ev_x (i := .aload_n 0) (len := 1) (p' := 180) (s' := [.ref 42]) rfl rfl (ld_a (vg_o (i := 6) (v := .int (gE (σ) 22 (l_3 : Int32).toNatClampNeg)) g_0 (by decide) (Or.inl rfl))) ?_
                    refine ev_gr (p' := 183) (v := 21) rfl rfl rfl ly_42 rfl rfl ((congrFun (congrFun e_39 42) 4).trans hr_42_4) ?_
                    refine ev_gc (p' := 186) (v := 26) rfl rfl rfl ly_21 rfl rfl ?_
                    refine ev_x (i := .iload_n 3) (len := 1) (p' := 187) (s' := [.int l_3, .ref 26]) rfl rfl (ld_i (vg_o (i := 6) (v := .int (gE (σ) 22 (l_3 : Int32).toNatClampNeg)) g_3 (by decide) (Or.inl rfl))) ?_
                    obtain ⟨b_41, H⟩ := F_gd H
                    refine ev_ga (p' := 188) (v := (gE (p_39.2) 26 (l_3 : Int32).toNatClampNeg)) rfl rfl ly_26 rfl (gd_in b_41) rfl ?_
                    refine ev_x (i := .goto 6) (len := 3) (p' := 194) (s' := [.int (gE (p_39.2) 26 (l_3 : Int32).toNatClampNeg)]) rfl rfl rfl ?_
                    refine ev_x (i := .istore_n 3) (len := 1) (p' := 195) (s' := []) (l' := vz_s1 (vz_s1 (lv) 6 (.int (gE (σ) 22 (l_3 : Int32).toNatClampNeg))) 3 (.int (gE (p_39.2) 26 (l_3 : Int32).toNatClampNeg))) rfl rfl rfl ?_
                    refine ev_x (i := .goto 74) (len := 3) (p' := 269) (s' := []) rfl rfl rfl ?_
                    refine ev_x (i := .iinc 5 1) (len := 3) (p' := 272) (s' := []) (l' := vz_s1 (vz_s1 (vz_s1 (lv) 6 (.int (gE (σ) 22 (l_3 : Int32).toNatClampNeg))) 3 (.int (gE (p_39.2) 26 (l_3 : Int32).toNatClampNeg))) 5 (.int (l_5 + 1))) rfl rfl (ld_inc (vg_o (i := 3) (v := .int (gE (p_39.2) 26 (l_3 : Int32).toNatClampNeg)) (vg_o (i := 6) (v := .int (gE (σ) 22 (l_3 : Int32).toNatClampNeg)) g_5 (by decide) (Or.inl rfl)) (by decide) (Or.inl rfl)) rfl) ?_
                    refine ev_x (i := .goto (-244)) (len := 3) (p' := 28) (s' := []) rfl rfl rfl ?_
                    exact ih _ _ _ _ _ _ _ (vg_o (i := 5) (v := .int (l_5 + 1)) (vg_o (i := 3) (v := .int (gE (p_39.2) 26 (l_3 : Int32).toNatClampNeg)) (vg_o (i := 6) (v := .int (gE (σ) 22 (l_3 : Int32).toNatClampNeg)) g_0 (by decide) (Or.inl rfl)) (by decide) (Or.inl rfl)) (by decide) (Or.inl rfl)) (vg_o (i := 5) (v := .int (l_5 + 1)) (vg_o (i := 3) (v := .int (gE (p_39.2) 26 (l_3 : Int32).toNatClampNeg)) (vg_o (i := 6) (v := .int (gE (σ) 22 (l_3 : Int32).toNatClampNeg)) g_2 (by decide) (Or.inl rfl)) (by decide) (Or.inl rfl)) (by decide) (Or.inl rfl)) (vg_o (i := 5) (v := .int (l_5 + 1)) (vg_s (vz_s1 (lv) 6 (.int (gE (σ) 22 (l_3 : Int32).toNatClampNeg))) 3 (.int (gE (p_39.2) 26 (l_3 : Int32).toNatClampNeg))) (by decide) (Or.inl rfl)) (vg_o (i := 5) (v := .int (l_5 + 1)) (vg_o (i := 3) (v := .int (gE (p_39.2) 26 (l_3 : Int32).toNatClampNeg)) (vg_o (i := 6) (v := .int (gE (σ) 22 (l_3 : Int32).toNatClampNeg)) g_4 (by decide) (Or.inl rfl)) (by decide) (Or.inl rfl)) (by decide) (Or.inl rfl)) (vg_s (vz_s1 (vz_s1 (lv) 6 (.int (gE (σ) 22 (l_3 : Int32).toNatClampNeg))) 3 (.int (gE (p_39.2) 26 (l_3 : Int32).toNatClampNeg))) 5 (.int (l_5 + 1))) (nb_s1 (nb_s1 (nb_s1 hnb rfl) rfl) rfl) ((congrFun (congrFun e_39 42) 3).trans hr_42_3) ((congrFun (congrFun e_39 42) 4).trans hr_42_4) H
              · refine ev_b2 (t := 162) (p' := 123) rfl rfl rfl (if_neg c_27) ?_
                refine ev_x (i := .aload_n 0) (len := 1) (p' := 124) (s' := [.ref 42]) rfl rfl (ld_a (vg_o (i := 6) (v := .int (gE (σ) 22 (l_3 : Int32).toNatClampNeg)) g_0 (by decide) (Or.inl rfl))) ?_
                refine ev_gc (p' := 127) (v := 45) rfl rfl rfl ly_42 rfl rfl ?_
                refine ev_x (i := .iload_n 2) (len := 1) (p' := 128) (s' := [.int l_2, .ref 45]) rfl rfl (ld_i (vg_o (i := 6) (v := .int (gE (σ) 22 (l_3 : Int32).toNatClampNeg)) g_2 (by decide) (Or.inl rfl))) ?_
                refine ev_x (i := .iload_n 3) (len := 1) (p' := 129) (s' := [.int l_3, .int l_2, .ref 45]) rfl rfl (ld_i (vg_o (i := 6) (v := .int (gE (σ) 22 (l_3 : Int32).toNatClampNeg)) g_3 (by decide) (Or.inl rfl))) ?_
                obtain ⟨b_42, H⟩ := F_gd H
                refine ev_pa (j := (l_2 : Int32).toNatClampNeg) (p' := 130) rfl rfl ly_45 rfl (gd_in b_42) rfl ?_
                refine ev_x (i := .iinc 2 1) (len := 3) (p' := 133) (s' := []) (l' := vz_s1 (vz_s1 (lv) 6 (.int (gE (σ) 22 (l_3 : Int32).toNatClampNeg))) 2 (.int (l_2 + 1))) rfl rfl (ld_inc (vg_o (i := 6) (v := .int (gE (σ) 22 (l_3 : Int32).toNatClampNeg)) g_2 (by decide) (Or.inl rfl)) rfl) ?_
                refine ev_x (i := .aload_n 0) (len := 1) (p' := 134) (s' := [.ref 42]) rfl rfl (ld_a (vg_o (i := 2) (v := .int (l_2 + 1)) (vg_o (i := 6) (v := .int (gE (σ) 22 (l_3 : Int32).toNatClampNeg)) g_0 (by decide) (Or.inl rfl)) (by decide) (Or.inl rfl))) ?_
                refine ev_gr (p' := 137) (v := 21) rfl rfl rfl ly_42 rfl rfl hr_42_4 ?_
                refine ev_gc (p' := 140) (v := 26) rfl rfl rfl ly_21 rfl rfl ?_
                refine ev_x (i := .aload_n 0) (len := 1) (p' := 141) (s' := [.ref 42, .ref 26]) rfl rfl (ld_a (vg_o (i := 2) (v := .int (l_2 + 1)) (vg_o (i := 6) (v := .int (gE (σ) 22 (l_3 : Int32).toNatClampNeg)) g_0 (by decide) (Or.inl rfl)) (by decide) (Or.inl rfl))) ?_
                refine ev_gr (p' := 144) (v := 20) rfl rfl rfl ly_42 rfl rfl hr_42_3 ?_
                refine ev_gc (p' := 147) (v := 34) rfl rfl rfl ly_20 rfl rfl ?_
                refine ev_x (i := .aload_n 0) (len := 1) (p' := 148) (s' := [.ref 42, .ref 34, .ref 26]) rfl rfl (ld_a (vg_o (i := 2) (v := .int (l_2 + 1)) (vg_o (i := 6) (v := .int (gE (σ) 22 (l_3 : Int32).toNatClampNeg)) g_0 (by decide) (Or.inl rfl)) (by decide) (Or.inl rfl))) ?_
                refine ev_gr (p' := 151) (v := 21) rfl rfl rfl ly_42 rfl rfl hr_42_4 ?_
                refine ev_gc (p' := 154) (v := 24) rfl rfl rfl ly_21 rfl rfl ?_
                refine ev_x (i := .iload_n 3) (len := 1) (p' := 155) (s' := [.int l_3, .ref 24, .ref 34, .ref 26]) rfl rfl (ld_i (vg_o (i := 2) (v := .int (l_2 + 1)) (vg_o (i := 6) (v := .int (gE (σ) 22 (l_3 : Int32).toNatClampNeg)) g_3 (by decide) (Or.inl rfl)) (by decide) (Or.inl rfl))) ?_
                refine ev_ga (p' := 156) (v := (gE (σ) 24 (l_3 : Int32).toNatClampNeg)) rfl rfl ly_24 rfl (gd_in b_10) rfl ?_
                obtain ⟨b_43, H⟩ := F_gd H
                refine ev_ga (p' := 157) (v := (gE (σ) 34 ((gE (σ) 24 (l_3 : Int32).toNatClampNeg) : Int32).toNatClampNeg)) rfl rfl ly_34 rfl (gd_in b_43) rfl ?_
                obtain ⟨b_44, H⟩ := F_gd H
                refine ev_ga (p' := 158) (v := (gE (σ) 26 ((gE (σ) 34 ((gE (σ) 24 (l_3 : Int32).toNatClampNeg) : Int32).toNatClampNeg) : Int32).toNatClampNeg)) rfl rfl ly_26 rfl (gd_in b_44) rfl ?_
                refine ev_x (i := .istore_n 3) (len := 1) (p' := 159) (s' := []) (l' := vz_s1 (vz_s1 (vz_s1 (lv) 6 (.int (gE (σ) 22 (l_3 : Int32).toNatClampNeg))) 2 (.int (l_2 + 1))) 3 (.int (gE (σ) 26 ((gE (σ) 34 ((gE (σ) 24 (l_3 : Int32).toNatClampNeg) : Int32).toNatClampNeg) : Int32).toNatClampNeg))) rfl rfl rfl ?_
                refine ev_x (i := .goto 110) (len := 3) (p' := 269) (s' := []) rfl rfl rfl ?_
                refine ev_x (i := .iinc 5 1) (len := 3) (p' := 272) (s' := []) (l' := vz_s1 (vz_s1 (vz_s1 (vz_s1 (lv) 6 (.int (gE (σ) 22 (l_3 : Int32).toNatClampNeg))) 2 (.int (l_2 + 1))) 3 (.int (gE (σ) 26 ((gE (σ) 34 ((gE (σ) 24 (l_3 : Int32).toNatClampNeg) : Int32).toNatClampNeg) : Int32).toNatClampNeg))) 5 (.int (l_5 + 1))) rfl rfl (ld_inc (vg_o (i := 3) (v := .int (gE (σ) 26 ((gE (σ) 34 ((gE (σ) 24 (l_3 : Int32).toNatClampNeg) : Int32).toNatClampNeg) : Int32).toNatClampNeg)) (vg_o (i := 2) (v := .int (l_2 + 1)) (vg_o (i := 6) (v := .int (gE (σ) 22 (l_3 : Int32).toNatClampNeg)) g_5 (by decide) (Or.inl rfl)) (by decide) (Or.inl rfl)) (by decide) (Or.inl rfl)) rfl) ?_
                refine ev_x (i := .goto (-244)) (len := 3) (p' := 28) (s' := []) rfl rfl rfl ?_
                exact ih _ _ _ _ _ _ _ (vg_o (i := 5) (v := .int (l_5 + 1)) (vg_o (i := 3) (v := .int (gE (σ) 26 ((gE (σ) 34 ((gE (σ) 24 (l_3 : Int32).toNatClampNeg) : Int32).toNatClampNeg) : Int32).toNatClampNeg)) (vg_o (i := 2) (v := .int (l_2 + 1)) (vg_o (i := 6) (v := .int (gE (σ) 22 (l_3 : Int32).toNatClampNeg)) g_0 (by decide) (Or.inl rfl)) (by decide) (Or.inl rfl)) (by decide) (Or.inl rfl)) (by decide) (Or.inl rfl)) (vg_o (i := 5) (v := .int (l_5 + 1)) (vg_o (i := 3) (v := .int (gE (σ) 26 ((gE (σ) 34 ((gE (σ) 24 (l_3 : Int32).toNatClampNeg) : Int32).toNatClampNeg) : Int32).toNatClampNeg)) (vg_s (vz_s1 (lv) 6 (.int (gE (σ) 22 (l_3 : Int32).toNatClampNeg))) 2 (.int (l_2 + 1))) (by decide) (Or.inl rfl)) (by decide) (Or.inl rfl)) (vg_o (i := 5) (v := .int (l_5 + 1)) (vg_s (vz_s1 (vz_s1 (lv) 6 (.int (gE (σ) 22 (l_3 : Int32).toNatClampNeg))) 2 (.int (l_2 + 1))) 3 (.int (gE (σ) 26 ((gE (σ) 34 ((gE (σ) 24 (l_3 : Int32).toNatClampNeg) : Int32).toNatClampNeg) : Int32).toNatClampNeg))) (by decide) (Or.inl rfl)) (vg_o (i := 5) (v := .int (l_5 + 1)) (vg_o (i := 3) (v := .int (gE (σ) 26 ((gE (σ) 34 ((gE (σ) 24 (l_3 : Int32).toNatClampNeg) : Int32).toNatClampNeg) : Int32).toNatClampNeg)) (vg_o (i := 2) (v := .int (l_2 + 1)) (vg_o (i := 6) (v := .int (gE (σ) 22 (l_3 : Int32).toNatClampNeg)) g_4 (by decide) (Or.inl rfl)) (by decide) (Or.inl rfl)) (by decide) (Or.inl rfl)) (by decide) (Or.inl rfl)) (vg_s (vz_s1 (vz_s1 (vz_s1 (lv) 6 (.int (gE (σ) 22 (l_3 : Int32).toNatClampNeg))) 2 (.int (l_2 + 1))) 3 (.int (gE (σ) 26 ((gE (σ) 34 ((gE (σ) 24 (l_3 : Int32).toNatClampNeg) : Int32).toNatClampNeg) : Int32).toNatClampNeg))) 5 (.int (l_5 + 1))) (nb_s1 (nb_s1 (nb_s1 (nb_s1 hnb rfl) rfl) rfl) rfl) hr_42_3 hr_42_4 H
          · refine ev_b2 (t := 162) (p' := 162) rfl rfl rfl (if_pos c_9) ?_
            refine ev_x (i := .iload 6) (len := 2) (p' := 164) (s' := [.int (gE (σ) 22 (l_3 : Int32).toNatClampNeg)]) rfl rfl (ld_i (vg_s (lv) 6 (.int (gE (σ) 22 (l_3 : Int32).toNatClampNeg)))) ?_
            refine ev_x (i := .bipush 23) (len := 2) (p' := 166) (s' := [.int 23, .int (gE (σ) 22 (l_3 : Int32).toNatClampNeg)]) rfl rfl rfl ?_
            refine F_if H (fun c_45 H => ?_) (fun c_45 H => ?_)
            · refine ev_b2 (t := 198) (p' := 198) rfl rfl rfl (if_pos c_45) ?_
              refine ev_x (i := .iload 6) (len := 2) (p' := 200) (s' := [.int (gE (σ) 22 (l_3 : Int32).toNatClampNeg)]) rfl rfl (ld_i (vg_s (lv) 6 (.int (gE (σ) 22 (l_3 : Int32).toNatClampNeg)))) ?_
              refine ev_x (i := .iconst 4) (len := 1) (p' := 201) (s' := [.int 4, .int (gE (σ) 22 (l_3 : Int32).toNatClampNeg)]) rfl rfl rfl ?_
              refine F_if H (fun c_46 H => ?_) (fun c_46 H => ?_)
              · refine ev_b2 (t := 259) (p' := 259) rfl rfl rfl (if_pos c_46) ?_
                refine ev_x (i := .aload_n 0) (len := 1) (p' := 260) (s' := [.ref 42]) rfl rfl (ld_a (vg_o (i := 6) (v := .int (gE (σ) 22 (l_3 : Int32).toNatClampNeg)) g_0 (by decide) (Or.inl rfl))) ?_
                refine ev_x (i := .iload_n 3) (len := 1) (p' := 261) (s' := [.int l_3, .ref 42]) rfl rfl (ld_i (vg_o (i := 6) (v := .int (gE (σ) 22 (l_3 : Int32).toNatClampNeg)) g_3 (by decide) (Or.inl rfl))) ?_
                refine ev_x (i := .iload 6) (len := 2) (p' := 263) (s' := [.int (gE (σ) 22 (l_3 : Int32).toNatClampNeg), .int l_3, .ref 42]) rfl rfl (ld_i (vg_s (lv) 6 (.int (gE (σ) 22 (l_3 : Int32).toNatClampNeg)))) ?_
                obtain ⟨p_47, G_47, H⟩ := F_bd H
                refine ev_cv (d := d + 2) (As := [.int l_3, .int (gE (σ) 22 (l_3 : Int32).toNatClampNeg)]) (a := 42) (p' := 266) rfl rfl rfl ly_42 rfl rfl rfl rfl rfl (nb_s1 hnb rfl) rfl (F_76_ok (d := d + 0) (ht := (Or.inr rfl)) (hr_42_3 := hr_42_3) (hr_42_4 := hr_42_4) G_47) ?_
                refine ev_st (st' := []) rfl ?_
                have e_47 := F_76_R G_47
                refine ev_x (i := .iinc 3 1) (len := 3) (p' := 269) (s' := []) (l' := vz_s1 (vz_s1 (lv) 6 (.int (gE (σ) 22 (l_3 : Int32).toNatClampNeg))) 3 (.int (l_3 + 1))) rfl rfl (ld_inc (vg_o (i := 6) (v := .int (gE (σ) 22 (l_3 : Int32).toNatClampNeg)) g_3 (by decide) (Or.inl rfl)) rfl) ?_
                refine ev_x (i := .iinc 5 1) (len := 3) (p' := 272) (s' := []) (l' := vz_s1 (vz_s1 (vz_s1 (lv) 6 (.int (gE (σ) 22 (l_3 : Int32).toNatClampNeg))) 3 (.int (l_3 + 1))) 5 (.int (l_5 + 1))) rfl rfl (ld_inc (vg_o (i := 3) (v := .int (l_3 + 1)) (vg_o (i := 6) (v := .int (gE (σ) 22 (l_3 : Int32).toNatClampNeg)) g_5 (by decide) (Or.inl rfl)) (by decide) (Or.inl rfl)) rfl) ?_
                refine ev_x (i := .goto (-244)) (len := 3) (p' := 28) (s' := []) rfl rfl rfl ?_
                exact ih _ _ _ _ _ _ _ (vg_o (i := 5) (v := .int (l_5 + 1)) (vg_o (i := 3) (v := .int (l_3 + 1)) (vg_o (i := 6) (v := .int (gE (σ) 22 (l_3 : Int32).toNatClampNeg)) g_0 (by decide) (Or.inl rfl)) (by decide) (Or.inl rfl)) (by decide) (Or.inl rfl)) (vg_o (i := 5) (v := .int (l_5 + 1)) (vg_o (i := 3) (v := .int (l_3 + 1)) (vg_o (i := 6) (v := .int (gE (σ) 22 (l_3 : Int32).toNatClampNeg)) g_2 (by decide) (Or.inl rfl)) (by decide) (Or.inl rfl)) (by decide) (Or.inl rfl)) (vg_o (i := 5) (v := .int (l_5 + 1)) (vg_s (vz_s1 (lv) 6 (.int (gE (σ) 22 (l_3 : Int32).toNatClampNeg))) 3 (.int (l_3 + 1))) (by decide) (Or.inl rfl)) (vg_o (i := 5) (v := .int (l_5 + 1)) (vg_o (i := 3) (v := .int (l_3 + 1)) (vg_o (i := 6) (v := .int (gE (σ) 22 (l_3 : Int32).toNatClampNeg)) g_4 (by decide) (Or.inl rfl)) (by decide) (Or.inl rfl)) (by decide) (Or.inl rfl)) (vg_s (vz_s1 (vz_s1 (lv) 6 (.int (gE (σ) 22 (l_3 : Int32).toNatClampNeg))) 3 (.int (l_3 + 1))) 5 (.int (l_5 + 1))) (nb_s1 (nb_s1 (nb_s1 hnb rfl) rfl) rfl) ((congrFun (congrFun e_47 42) 3).trans hr_42_3) ((congrFun (congrFun e_47 42) 4).trans hr_42_4) H
              · refine ev_b2 (t := 259) (p' := 204) rfl rfl rfl (if_neg c_46) ?_
                refine ev_x (i := .iload 6) (len := 2) (p' := 206) (s' := [.int (gE (σ) 22 (l_3 : Int32).toNatClampNeg)]) rfl rfl (ld_i (vg_s (lv) 6 (.int (gE (σ) 22 (l_3 : Int32).toNatClampNeg)))) ?_
                refine ev_x (i := .bipush 8) (len := 2) (p' := 208) (s' := [.int 8, .int (gE (σ) 22 (l_3 : Int32).toNatClampNeg)]) rfl rfl rfl ?_
                refine F_if H (fun c_48 H => ?_) (fun c_48 H => ?_)
                · refine ev_b2 (t := 259) (p' := 259) rfl rfl rfl (if_pos c_48) ?_
                  refine ev_x (i := .aload_n 0) (len := 1) (p' := 260) (s' := [.ref 42]) rfl rfl (ld_a (vg_o (i := 6) (v := .int (gE (σ) 22 (l_3 : Int32).toNatClampNeg)) g_0 (by decide) (Or.inl rfl))) ?_
                  refine ev_x (i := .iload_n 3) (len := 1) (p' := 261) (s' := [.int l_3, .ref 42]) rfl rfl (ld_i (vg_o (i := 6) (v := .int (gE (σ) 22 (l_3 : Int32).toNatClampNeg)) g_3 (by decide) (Or.inl rfl))) ?_
                  refine ev_x (i := .iload 6) (len := 2) (p' := 263) (s' := [.int (gE (σ) 22 (l_3 : Int32).toNatClampNeg), .int l_3, .ref 42]) rfl rfl (ld_i (vg_s (lv) 6 (.int (gE (σ) 22 (l_3 : Int32).toNatClampNeg)))) ?_
                  obtain ⟨p_49, G_49, H⟩ := F_bd H
                  refine ev_cv (d := d + 2) (As := [.int l_3, .int (gE (σ) 22 (l_3 : Int32).toNatClampNeg)]) (a := 42) (p' := 266) rfl rfl rfl ly_42 rfl rfl rfl rfl rfl (nb_s1 hnb rfl) rfl (F_76_ok (d := d + 0) (ht := (Or.inr rfl)) (hr_42_3 := hr_42_3) (hr_42_4 := hr_42_4) G_49) ?_
                  refine ev_st (st' := []) rfl ?_
                  have e_49 := F_76_R G_49
                  refine ev_x (i := .iinc 3 1) (len := 3) (p' := 269) (s' := []) (l' := vz_s1 (vz_s1 (lv) 6 (.int (gE (σ) 22 (l_3 : Int32).toNatClampNeg))) 3 (.int (l_3 + 1))) rfl rfl (ld_inc (vg_o (i := 6) (v := .int (gE (σ) 22 (l_3 : Int32).toNatClampNeg)) g_3 (by decide) (Or.inl rfl)) rfl) ?_
                  refine ev_x (i := .iinc 5 1) (len := 3) (p' := 272) (s' := []) (l' := vz_s1 (vz_s1 (vz_s1 (lv) 6 (.int (gE (σ) 22 (l_3 : Int32).toNatClampNeg))) 3 (.int (l_3 + 1))) 5 (.int (l_5 + 1))) rfl rfl (ld_inc (vg_o (i := 3) (v := .int (l_3 + 1)) (vg_o (i := 6) (v := .int (gE (σ) 22 (l_3 : Int32).toNatClampNeg)) g_5 (by decide) (Or.inl rfl)) (by decide) (Or.inl rfl)) rfl) ?_
                  refine ev_x (i := .goto (-244)) (len := 3) (p' := 28) (s' := []) rfl rfl rfl ?_
                  exact ih _ _ _ _ _ _ _ (vg_o (i := 5) (v := .int (l_5 + 1)) (vg_o (i := 3) (v := .int (l_3 + 1)) (vg_o (i := 6) (v := .int (gE (σ) 22 (l_3 : Int32).toNatClampNeg)) g_0 (by decide) (Or.inl rfl)) (by decide) (Or.inl rfl)) (by decide) (Or.inl rfl)) (vg_o (i := 5) (v := .int (l_5 + 1)) (vg_o (i := 3) (v := .int (l_3 + 1)) (vg_o (i := 6) (v := .int (gE (σ) 22 (l_3 : Int32).toNatClampNeg)) g_2 (by decide) (Or.inl rfl)) (by decide) (Or.inl rfl)) (by decide) (Or.inl rfl)) (vg_o (i := 5) (v := .int (l_5 + 1)) (vg_s (vz_s1 (lv) 6 (.int (gE (σ) 22 (l_3 : Int32).toNatClampNeg))) 3 (.int (l_3 + 1))) (by decide) (Or.inl rfl)) (vg_o (i := 5) (v := .int (l_5 + 1)) (vg_o (i := 3) (v := .int (l_3 + 1)) (vg_o (i := 6) (v := .int (gE (σ) 22 (l_3 : Int32).toNatClampNeg)) g_4 (by decide) (Or.inl rfl)) (by decide) (Or.inl rfl)) (by decide) (Or.inl rfl)) (vg_s (vz_s1 (vz_s1 (lv) 6 (.int (gE (σ) 22 (l_3 : Int32).toNatClampNeg))) 3 (.int (l_3 + 1))) 5 (.int (l_5 + 1))) (nb_s1 (nb_s1 (nb_s1 hnb rfl) rfl) rfl) ((congrFun (congrFun e_49 42) 3).trans hr_42_3) ((congrFun (congrFun e_49 42) 4).trans hr_42_4) H
                · refine ev_b2 (t := 259) (p' := 211) rfl rfl rfl (if_neg c_48) ?_
                  refine ev_x (i := .aload_n 0) (len := 1) (p' := 212) (s' := [.ref 42]) rfl rfl (ld_a (vg_o (i := 6) (v := .int (gE (σ) 22 (l_3 : Int32).toNatClampNeg)) g_0 (by decide) (Or.inl rfl))) ?_
                  refine ev_x (i := .iload_n 3) (len := 1) (p' := 213) (s' := [.int l_3, .ref 42]) rfl rfl (ld_i (vg_o (i := 6) (v := .int (gE (σ) 22 (l_3 : Int32).toNatClampNeg)) g_3 (by decide) (Or.inl rfl))) ?_
                  refine ev_x (i := .iload 6) (len := 2) (p' := 215) (s' := [.int (gE (σ) 22 (l_3 : Int32).toNatClampNeg), .int l_3, .ref 42]) rfl rfl (ld_i (vg_s (lv) 6 (.int (gE (σ) 22 (l_3 : Int32).toNatClampNeg)))) ?_
                  obtain ⟨p_50, G_50, H⟩ := F_bd H
                  refine ev_cv (d := d + 2) (As := [.int l_3, .int (gE (σ) 22 (l_3 : Int32).toNatClampNeg)]) (a := 42) (p' := 218) rfl rfl rfl ly_42 rfl rfl rfl rfl rfl (nb_s1 hnb rfl) rfl (F_72_ok (d := d + 0) (ht := (Or.inr rfl)) (hr_42_4 := hr_42_4) G_50) ?_
                  refine ev_st (st' := [.int p_50.1]) rfl ?_
                  have e_50 := F_72_R G_50
                  refine ev_x (i := .istore 7) (len := 2) (p' := 220) (s' := []) (l' := vz_s1 (vz_s1 (lv) 6 (.int (gE (σ) 22 (l_3 : Int32).toNatClampNeg))) 7 (.int p_50.1)) rfl rfl rfl ?_
                  refine ev_x (i := .iload 7) (len := 2) (p' := 222) (s' := [.int p_50.1]) rfl rfl (ld_i (vg_s (vz_s1 (lv) 6 (.int (gE (σ) 22 (l_3 : Int32).toNatClampNeg))) 7 (.int p_50.1))) ?_
                  refine F_if H (fun c_51 H => ?_) (fun c_51 H => ?_)
                  · refine ev_b0 (t := 232) (p' := 225) rfl rfl rfl (if_neg (fun q => q c_51)) ?_
                    refine ev_x (i := .aload_n 0) (len := 1) (p' := 226) (s' := [.ref 42]) rfl rfl (ld_a (vg_o (i := 7) (v := .int p_50.1) (vg_o (i := 6) (v := .int (gE (σ) 22 (l_3 : Int32).toNatClampNeg)) g_0 (by decide) (Or.inl rfl)) (by decide) (Or.inl rfl))) ?_
                    refine ev_x (i := .iload_n 3) (len := 1) (p' := 227) (s' := [.int l_3, .ref 42]) rfl rfl (ld_i (vg_o (i := 7) (v := .int p_50.1) (vg_o (i := 6) (v := .int (gE (σ) 22 (l_3 : Int32).toNatClampNeg)) g_3 (by decide) (Or.inl rfl)) (by decide) (Or.inl rfl))) ?_
                    obtain ⟨p_52, G_52, H⟩ := F_bd H
                    refine ev_cv (d := d + 2) (As := [.int l_3]) (a := 42) (p' := 230) rfl rfl rfl ly_42 rfl rfl rfl rfl rfl (nb_s1 (nb_s1 hnb rfl) rfl) rfl (F_74_ok (d := d + 0) (ht := (Or.inr rfl)) (hr_42_4 := ((congrFun (congrFun e_50 42) 4).trans hr_42_4)) G_52) ?_
                    refine ev_st (st' := [.int p_52.1]) rfl ?_
                    have e_52 := F_74_R G_52
                    refine ev_x (i := .istore 7) (len := 2) (p' := 232) (s' := []) (l' := vz_s1 (vz_s1 (vz_s1 (lv) 6 (.int (gE (σ) 22 (l_3 : Int32).toNatClampNeg))) 7 (.int p_50.1)) 7 (.int p_52.1)) rfl rfl rfl ?_
                    refine ev_x (i := .iload 7) (len := 2) (p' := 234) (s' := [.int p_52.1]) rfl rfl (ld_i (vg_s (vz_s1 (vz_s1 (lv) 6 (.int (gE (σ) 22 (l_3 : Int32).toNatClampNeg))) 7 (.int p_50.1)) 7 (.int p_52.1))) ?_
                    refine F_if H (fun c_53 H => ?_) (fun c_53 H => ?_)
                    · refine ev_b0 (t := 253) (p' := 253) rfl rfl rfl (if_pos c_53) ?_
                      refine ev_x (i := .iinc 3 1) (len := 3) (p' := 256) (s' := []) (l' := vz_s1 (vz_s1 (vz_s1 (vz_s1 (lv) 6 (.int (gE (σ) 22 (l_3 : Int32).toNatClampNeg))) 7 (.int p_50.1)) 7 (.int p_52.1)) 3 (.int (l_3 + 1))) rfl rfl (ld_inc (vg_o (i := 7) (v := .int p_52.1) (vg_o (i := 7) (v := .int p_50.1) (vg_o (i := 6) (v := .int (gE (σ) 22 (l_3 : Int32).toNatClampNeg)) g_3 (by decide) (Or.inl rfl)) (by decide) (Or.inl rfl)) (by decide) (Or.inl rfl)) rfl) ?_
                      refine ev_x (i := .goto 13) (len := 3) (p' := 269) (s' := []) rfl rfl rfl ?_
                      refine ev_x (i := .iinc 5 1) (len := 3) (p' := 272) (s' := []) (l' := vz_s1 (vz_s1 (vz_s1 (vz_s1 (vz_s1 (lv) 6 (.int (gE (σ) 22 (l_3 : Int32).toNatClampNeg))) 7 (.int p_50.1)) 7 (.int p_52.1)) 3 (.int (l_3 + 1))) 5 (.int (l_5 + 1))) rfl rfl (ld_inc (vg_o (i := 3) (v := .int (l_3 + 1)) (vg_o (i := 7) (v := .int p_52.1) (vg_o (i := 7) (v := .int p_50.1) (vg_o (i := 6) (v := .int (gE (σ) 22 (l_3 : Int32).toNatClampNeg)) g_5 (by decide) (Or.inl rfl)) (by decide) (Or.inl rfl)) (by decide) (Or.inl rfl)) (by decide) (Or.inl rfl)) rfl) ?_
                      refine ev_x (i := .goto (-244)) (len := 3) (p' := 28) (s' := []) rfl rfl rfl ?_
                      exact ih _ _ _ _ _ _ _ (vg_o (i := 5) (v := .int (l_5 + 1)) (vg_o (i := 3) (v := .int (l_3 + 1)) (vg_o (i := 7) (v := .int p_52.1) (vg_o (i := 7) (v := .int p_50.1) (vg_o (i := 6) (v := .int (gE (σ) 22 (l_3 : Int32).toNatClampNeg)) g_0 (by decide) (Or.inl rfl)) (by decide) (Or.inl rfl)) (by decide) (Or.inl rfl)) (by decide) (Or.inl rfl)) (by decide) (Or.inl rfl)) (vg_o (i := 5) (v := .int (l_5 + 1)) (vg_o (i := 3) (v := .int (l_3 + 1)) (vg_o (i := 7) (v := .int p_52.1) (vg_o (i := 7) (v := .int p_50.1) (vg_o (i := 6) (v := .int (gE (σ) 22 (l_3 : Int32).toNatClampNeg)) g_2 (by decide) (Or.inl rfl)) (by decide) (Or.inl rfl)) (by decide) (Or.inl rfl)) (by decide) (Or.inl rfl)) (by decide) (Or.inl rfl)) (vg_o (i := 5) (v := .int (l_5 + 1)) (vg_s (vz_s1 (vz_s1 (vz_s1 (lv) 6 (.int (gE (σ) 22 (l_3 : Int32).toNatClampNeg))) 7 (.int p_50.1)) 7 (.int p_52.1)) 3 (.int (l_3 + 1))) (by decide) (Or.inl rfl)) (vg_o (i := 5) (v := .int (l_5 + 1)) (vg_o (i := 3) (v := .int (l_3 + 1)) (vg_o (i := 7) (v := .int p_52.1) (vg_o (i := 7) (v := .int p_50.1) (vg_o (i := 6) (v := .int (gE (σ) 22 (l_3 : Int32).toNatClampNeg)) g_4 (by decide) (Or.inl rfl)) (by decide) (Or.inl rfl)) (by decide) (Or.inl rfl)) (by decide) (Or.inl rfl)) (by decide) (Or.inl rfl)) (vg_s (vz_s1 (vz_s1 (vz_s1 (vz_s1 (lv) 6 (.int (gE (σ) 22 (l_3 : Int32).toNatClampNeg))) 7 (.int p_50.1)) 7 (.int p_52.1)) 3 (.int (l_3 + 1))) 5 (.int (l_5 + 1))) (nb_s1 (nb_s1 (nb_s1 (nb_s1 (nb_s1 hnb rfl) rfl) rfl) rfl) rfl) ((congrFun (congrFun e_52 42) 3).trans ((congrFun (congrFun e_50 42) 3).trans hr_42_3)) ((congrFun (congrFun e_52 42) 4).trans ((congrFun (congrFun e_50 42) 4).trans hr_42_4)) H
                    · refine ev_b0 (t := 253) (p' := 237) rfl rfl rfl (if_neg c_53) ?_
                      refine ev_x (i := .aload_n 0) (len := 1) (p' := 238) (s' := [.ref 42]) rfl rfl (ld_a (vg_o (i := 7) (v := .int p_52.1) (vg_o (i := 7) (v := .int p_50.1) (vg_o (i := 6) (v := .int (gE (σ) 22 (l_3 : Int32).toNatClampNeg)) g_0 (by decide) (Or.inl rfl)) (by decide) (Or.inl rfl)) (by decide) (Or.inl rfl))) ?_
                      refine ev_x (i := .aload_n 0) (len := 1) (p' := 239) (s' := [.ref 42, .ref 42]) rfl rfl (ld_a (vg_o (i := 7) (v := .int p_52.1) (vg_o (i := 7) (v := .int p_50.1) (vg_o (i := 6) (v := .int (gE (σ) 22 (l_3 : Int32).toNatClampNeg)) g_0 (by decide) (Or.inl rfl)) (by decide) (Or.inl rfl)) (by decide) (Or.inl rfl))) ?_
                      refine ev_gr (p' := 242) (v := 21) rfl rfl rfl ly_42 rfl rfl ((congrFun (congrFun e_52 42) 4).trans ((congrFun (congrFun e_50 42) 4).trans hr_42_4)) ?_
                      refine ev_gc (p' := 245) (v := 23) rfl rfl rfl ly_21 rfl rfl ?_
                      refine ev_x (i := .iload_n 3) (len := 1) (p' := 246) (s' := [.int l_3, .ref 23, .ref 42]) rfl rfl (ld_i (vg_o (i := 7) (v := .int p_52.1) (vg_o (i := 7) (v := .int p_50.1) (vg_o (i := 6) (v := .int (gE (σ) 22 (l_3 : Int32).toNatClampNeg)) g_3 (by decide) (Or.inl rfl)) (by decide) (Or.inl rfl)) (by decide) (Or.inl rfl))) ?_
                      obtain ⟨b_54, H⟩ := F_gd H
                      refine ev_ga (p' := 247) (v := (gE (p_52.2) 23 (l_3 : Int32).toNatClampNeg)) rfl rfl ly_23 rfl (gd_in b_54) rfl ?_
                      refine ev_pi (p' := 250) rfl rfl rfl ly_42 rfl rfl rfl rfl ?_
                      refine ev_x (i := .iload 7) (len := 2) (p' := 252) (s' := [.int p_52.1]) rfl rfl (ld_i (vg_s (vz_s1 (vz_s1 (lv) 6 (.int (gE (σ) 22 (l_3 : Int32).toNatClampNeg))) 7 (.int p_50.1)) 7 (.int p_52.1))) ?_
                      obtain rfl := Option.some.inj H
                      exact ev_iret rfl rfl rfl rfl
                  · refine ev_b0 (t := 232) (p' := 232) rfl rfl rfl (if_pos c_51) ?_
                    refine ev_x (i := .iload 7) (len := 2) (p' := 234) (s' := [.int p_50.1]) rfl rfl (ld_i (vg_s (vz_s1 (lv) 6 (.int (gE (σ) 22 (l_3 : Int32).toNatClampNeg))) 7 (.int p_50.1))) ?_
                    refine ev_b0 (t := 253) (p' := 237) rfl rfl rfl (if_neg c_51) ?_
                    refine ev_x (i := .aload_n 0) (len := 1) (p' := 238) (s' := [.ref 42]) rfl rfl (ld_a (vg_o (i := 7) (v := .int p_50.1) (vg_o (i := 6) (v := .int (gE (σ) 22 (l_3 : Int32).toNatClampNeg)) g_0 (by decide) (Or.inl rfl)) (by decide) (Or.inl rfl))) ?_
                    refine ev_x (i := .aload_n 0) (len := 1) (p' := 239) (s' := [.ref 42, .ref 42]) rfl rfl (ld_a (vg_o (i := 7) (v := .int p_50.1) (vg_o (i := 6) (v := .int (gE (σ) 22 (l_3 : Int32).toNatClampNeg)) g_0 (by decide) (Or.inl rfl)) (by decide) (Or.inl rfl))) ?_
                    refine ev_gr (p' := 242) (v := 21) rfl rfl rfl ly_42 rfl rfl ((congrFun (congrFun e_50 42) 4).trans hr_42_4) ?_
                    refine ev_gc (p' := 245) (v := 23) rfl rfl rfl ly_21 rfl rfl ?_
                    refine ev_x (i := .iload_n 3) (len := 1) (p' := 246) (s' := [.int l_3, .ref 23, .ref 42]) rfl rfl (ld_i (vg_o (i := 7) (v := .int p_50.1) (vg_o (i := 6) (v := .int (gE (σ) 22 (l_3 : Int32).toNatClampNeg)) g_3 (by decide) (Or.inl rfl)) (by decide) (Or.inl rfl))) ?_
                    obtain ⟨b_55, H⟩ := F_gd H
                    refine ev_ga (p' := 247) (v := (gE (p_50.2) 23 (l_3 : Int32).toNatClampNeg)) rfl rfl ly_23 rfl (gd_in b_55) rfl ?_
                    refine ev_pi (p' := 250) rfl rfl rfl ly_42 rfl rfl rfl rfl ?_
                    refine ev_x (i := .iload 7) (len := 2) (p' := 252) (s' := [.int p_50.1]) rfl rfl (ld_i (vg_s (vz_s1 (lv) 6 (.int (gE (σ) 22 (l_3 : Int32).toNatClampNeg))) 7 (.int p_50.1))) ?_
                    obtain rfl := Option.some.inj H
                    exact ev_iret rfl rfl rfl rfl
            · refine ev_b2 (t := 198) (p' := 169) rfl rfl rfl (if_neg c_45) ?_
              refine ev_x (i := .aload_n 0) (len := 1) (p' := 170) (s' := [.ref 42]) rfl rfl (ld_a (vg_o (i := 6) (v := .int (gE (σ) 22 (l_3 : Int32).toNatClampNeg)) g_0 (by decide) (Or.inl rfl))) ?_
              refine ev_x (i := .iload_n 3) (len := 1) (p' := 171) (s' := [.int l_3, .ref 42]) rfl rfl (ld_i (vg_o (i := 6) (v := .int (gE (σ) 22 (l_3 : Int32).toNatClampNeg)) g_3 (by decide) (Or.inl rfl))) ?_
              refine ev_x (i := .iload 6) (len := 2) (p' := 173) (s' := [.int (gE (σ) 22 (l_3 : Int32).toNatClampNeg), .int l_3, .ref 42]) rfl rfl (ld_i (vg_s (lv) 6 (.int (gE (σ) 22 (l_3 : Int32).toNatClampNeg)))) ?_
              obtain ⟨p_56, G_56, H⟩ := F_bd H
              refine ev_cv (d := d + 2) (As := [.int l_3, .int (gE (σ) 22 (l_3 : Int32).toNatClampNeg)]) (a := 42) (p' := 176) rfl rfl rfl ly_42 rfl rfl rfl rfl rfl (nb_s1 hnb rfl) rfl (F_71_ok (d := d + 1) (ht := (Or.inr rfl)) (hr_42_4 := hr_42_4) G_56) ?_
              refine ev_st (st' := [.int p_56.1]) rfl ?_
              have e_56 := F_71_R G_56
              refine F_if H (fun c_57 H => ?_) (fun c_57 H => ?_)
              · refine ev_b0 (t := 191) (p' := 191) rfl rfl rfl (if_pos c_57) ?_
                refine ev_x (i := .iload_n 3) (len := 1) (p' := 192) (s' := [.int l_3]) rfl rfl (ld_i (vg_o (i := 6) (v := .int (gE (σ) 22 (l_3 : Int32).toNatClampNeg)) g_3 (by decide) (Or.inl rfl))) ?_
                refine ev_x (i := .iconst 1) (len := 1) (p' := 193) (s' := [.int 1, .int l_3]) rfl rfl rfl ?_
                refine ev_x (i := .iadd) (len := 1) (p' := 194) (s' := [.int (l_3 + 1)]) rfl rfl rfl ?_
                refine ev_x (i := .istore_n 3) (len := 1) (p' := 195) (s' := []) (l' := vz_s1 (vz_s1 (lv) 6 (.int (gE (σ) 22 (l_3 : Int32).toNatClampNeg))) 3 (.int (l_3 + 1))) rfl rfl rfl ?_
                refine ev_x (i := .goto 74) (len := 3) (p' := 269) (s' := []) rfl rfl rfl ?_
                refine ev_x (i := .iinc 5 1) (len := 3) (p' := 272) (s' := []) (l' := vz_s1 (vz_s1 (vz_s1 (lv) 6 (.int (gE (σ) 22 (l_3 : Int32).toNatClampNeg))) 3 (.int (l_3 + 1))) 5 (.int (l_5 + 1))) rfl rfl (ld_inc (vg_o (i := 3) (v := .int (l_3 + 1)) (vg_o (i := 6) (v := .int (gE (σ) 22 (l_3 : Int32).toNatClampNeg)) g_5 (by decide) (Or.inl rfl)) (by decide) (Or.inl rfl)) rfl) ?_
                refine ev_x (i := .goto (-244)) (len := 3) (p' := 28) (s' := []) rfl rfl rfl ?_
                exact ih _ _ _ _ _ _ _ (vg_o (i := 5) (v := .int (l_5 + 1)) (vg_o (i := 3) (v := .int (l_3 + 1)) (vg_o (i := 6) (v := .int (gE (σ) 22 (l_3 : Int32).toNatClampNeg)) g_0 (by decide) (Or.inl rfl)) (by decide) (Or.inl rfl)) (by decide) (Or.inl rfl)) (vg_o (i := 5) (v := .int (l_5 + 1)) (vg_o (i := 3) (v := .int (l_3 + 1)) (vg_o (i := 6) (v := .int (gE (σ) 22 (l_3 : Int32).toNatClampNeg)) g_2 (by decide) (Or.inl rfl)) (by decide) (Or.inl rfl)) (by decide) (Or.inl rfl)) (vg_o (i := 5) (v := .int (l_5 + 1)) (vg_s (vz_s1 (lv) 6 (.int (gE (σ) 22 (l_3 : Int32).toNatClampNeg))) 3 (.int (l_3 + 1))) (by decide) (Or.inl rfl)) (vg_o (i := 5) (v := .int (l_5 + 1)) (vg_o (i := 3) (v := .int (l_3 + 1)) (vg_o (i := 6) (v := .int (gE (σ) 22 (l_3 : Int32).toNatClampNeg)) g_4 (by decide) (Or.inl rfl)) (by decide) (Or.inl rfl)) (by decide) (Or.inl rfl)) (vg_s (vz_s1 (vz_s1 (lv) 6 (.int (gE (σ) 22 (l_3 : Int32).toNatClampNeg))) 3 (.int (l_3 + 1))) 5 (.int (l_5 + 1))) (nb_s1 (nb_s1 (nb_s1 hnb rfl) rfl) rfl) ((congrFun (congrFun e_56 42) 3).trans hr_42_3) ((congrFun (congrFun e_56 42) 4).trans hr_42_4) H
              · refine ev_b0 (t := 191) (p' := 179) rfl rfl rfl (if_neg c_57) ?_
                refine ev_x (i := .aload_n 0) (len := 1) (p' := 180) (s' := [.ref 42]) rfl rfl (ld_a (vg_o (i := 6) (v := .int (gE (σ) 22 (l_3 : Int32).toNatClampNeg)) g_0 (by decide) (Or.inl rfl))) ?_
                refine ev_gr (p' := 183) (v := 21) rfl rfl rfl ly_42 rfl rfl ((congrFun (congrFun e_56 42) 4).trans hr_42_4) ?_
                refine ev_gc (p' := 186) (v := 26) rfl rfl rfl ly_21 rfl rfl ?_
                refine ev_x (i := .iload_n 3) (len := 1) (p' := 187) (s' := [.int l_3, .ref 26]) rfl rfl (ld_i (vg_o (i := 6) (v := .int (gE (σ) 22 (l_3 : Int32).toNatClampNeg)) g_3 (by decide) (Or.inl rfl))) ?_
                obtain ⟨b_58, H⟩ := F_gd H
                refine ev_ga (p' := 188) (v := (gE (p_56.2) 26 (l_3 : Int32).toNatClampNeg)) rfl rfl ly_26 rfl (gd_in b_58) rfl ?_
                refine ev_x (i := .goto 6) (len := 3) (p' := 194) (s' := [.int (gE (p_56.2) 26 (l_3 : Int32).toNatClampNeg)]) rfl rfl rfl ?_
                refine ev_x (i := .istore_n 3) (len := 1) (p' := 195) (s' := []) (l' := vz_s1 (vz_s1 (lv) 6 (.int (gE (σ) 22 (l_3 : Int32).toNatClampNeg))) 3 (.int (gE (p_56.2) 26 (l_3 : Int32).toNatClampNeg))) rfl rfl rfl ?_
                refine ev_x (i := .goto 74) (len := 3) (p' := 269) (s' := []) rfl rfl rfl ?_
                refine ev_x (i := .iinc 5 1) (len := 3) (p' := 272) (s' := []) (l' := vz_s1 (vz_s1 (vz_s1 (lv) 6 (.int (gE (σ) 22 (l_3 : Int32).toNatClampNeg))) 3 (.int (gE (p_56.2) 26 (l_3 : Int32).toNatClampNeg))) 5 (.int (l_5 + 1))) rfl rfl (ld_inc (vg_o (i := 3) (v := .int (gE (p_56.2) 26 (l_3 : Int32).toNatClampNeg)) (vg_o (i := 6) (v := .int (gE (σ) 22 (l_3 : Int32).toNatClampNeg)) g_5 (by decide) (Or.inl rfl)) (by decide) (Or.inl rfl)) rfl) ?_
                refine ev_x (i := .goto (-244)) (len := 3) (p' := 28) (s' := []) rfl rfl rfl ?_
                exact ih _ _ _ _ _ _ _ (vg_o (i := 5) (v := .int (l_5 + 1)) (vg_o (i := 3) (v := .int (gE (p_56.2) 26 (l_3 : Int32).toNatClampNeg)) (vg_o (i := 6) (v := .int (gE (σ) 22 (l_3 : Int32).toNatClampNeg)) g_0 (by decide) (Or.inl rfl)) (by decide) (Or.inl rfl)) (by decide) (Or.inl rfl)) (vg_o (i := 5) (v := .int (l_5 + 1)) (vg_o (i := 3) (v := .int (gE (p_56.2) 26 (l_3 : Int32).toNatClampNeg)) (vg_o (i := 6) (v := .int (gE (σ) 22 (l_3 : Int32).toNatClampNeg)) g_2 (by decide) (Or.inl rfl)) (by decide) (Or.inl rfl)) (by decide) (Or.inl rfl)) (vg_o (i := 5) (v := .int (l_5 + 1)) (vg_s (vz_s1 (lv) 6 (.int (gE (σ) 22 (l_3 : Int32).toNatClampNeg))) 3 (.int (gE (p_56.2) 26 (l_3 : Int32).toNatClampNeg))) (by decide) (Or.inl rfl)) (vg_o (i := 5) (v := .int (l_5 + 1)) (vg_o (i := 3) (v := .int (gE (p_56.2) 26 (l_3 : Int32).toNatClampNeg)) (vg_o (i := 6) (v := .int (gE (σ) 22 (l_3 : Int32).toNatClampNeg)) g_4 (by decide) (Or.inl rfl)) (by decide) (Or.inl rfl)) (by decide) (Or.inl rfl)) (vg_s (vz_s1 (vz_s1 (lv) 6 (.int (gE (σ) 22 (l_3 : Int32).toNatClampNeg))) 3 (.int (gE (p_56.2) 26 (l_3 : Int32).toNatClampNeg))) 5 (.int (l_5 + 1))) (nb_s1 (nb_s1 (nb_s1 hnb rfl) rfl) rfl) ((congrFun (congrFun e_56 42) 3).trans hr_42_3) ((congrFun (congrFun e_56 42) 4).trans hr_42_4) H
/-- GameText$Machine.run(I)I -/
def F_70 (N : Nat) (t : Nat) (x_1 : Int32) (σ : st_S) : Option (Int32 × st_S) :=
  if aB x_1 (gN σ (t + 6)) then
  L_70 N t N 0 (gE (σ) (t + 6) (x_1 : Int32).toNatClampNeg) ((2 * (gI σ (t + 1) 8)) + 2) 0 (σ)
  else none
set_option maxRecDepth 100000 in
theorem F_70_R {N : Nat} {t : Nat} {x_1 : Int32} {σ : st_S} {p : Int32 × st_S} (H : F_70 N t x_1 σ = some p) : gR p.2 = gR σ := by
  unfold F_70 at H
  obtain ⟨_, H⟩ := F_gd H
  exact (((L_70_R _ _ _ _ _ _ _ H)).trans rfl)
set_option maxHeartbeats 4000000 in
set_option maxRecDepth 100000 in
theorem F_70_ok {N d : Nat} {t : Nat} (ht : t = 4 ∨ t = 20) {x_1 : Int32} {σ : st_S} {p : Int32 × st_S} (hr_42_3 : gR σ 42 3 = t) (hr_42_4 : gR σ 42 4 = (t + 1)) (H : F_70 N t x_1 σ = some p) : vz_ev P0 (d + 3) 70 0 (lv_args 0 [.ref 42, .int x_1]) [] (hp σ) (.inl (some (.int p.1)), hp p.2) := by
  unfold F_70 at H
  rcases ht with rfl | rfl
  · refine ev_x (i := .iconst 0) (len := 1) (p' := 1) (s' := [.int 0]) rfl rfl rfl ?_
    refine ev_x (i := .istore_n 2) (len := 1) (p' := 2) (s' := []) (l' := [(2, .int 0), (0, .ref 42), (1, .int x_1)]) rfl rfl rfl ?_
    refine ev_x (i := .aload_n 0) (len := 1) (p' := 3) (s' := [.ref 42]) rfl rfl rfl ?_
    refine ev_gr (p' := 6) (v := 5) rfl rfl rfl ly_42 rfl rfl hr_42_4 ?_
    refine ev_gc (p' := 9) (v := 10) rfl rfl rfl ly_5 rfl rfl ?_
    refine ev_x (i := .iload_n 1) (len := 1) (p' := 10) (s' := [.int x_1, .ref 10]) rfl rfl rfl ?_
    obtain ⟨b_1, H⟩ := F_gd H
    refine ev_ga (p' := 11) (v := (gE (σ) 10 (x_1 : Int32).toNatClampNeg)) rfl rfl ly_10 rfl (gd_in b_1) rfl ?_
    refine ev_x (i := .istore_n 3) (len := 1) (p' := 12) (s' := []) (l' := [(3, .int (gE (σ) 10 (x_1 : Int32).toNatClampNeg)), (2, .int 0), (0, .ref 42), (1, .int x_1)]) rfl rfl rfl ?_
    refine ev_x (i := .iconst 2) (len := 1) (p' := 13) (s' := [.int 2]) rfl rfl rfl ?_
    refine ev_x (i := .aload_n 0) (len := 1) (p' := 14) (s' := [.ref 42, .int 2]) rfl rfl rfl ?_
    refine ev_gr (p' := 17) (v := 5) rfl rfl rfl ly_42 rfl rfl hr_42_4 ?_
    refine ev_gi (p' := 20) (v := (gI σ 5 8)) rfl rfl rfl ly_5 rfl rfl rfl ?_
    refine ev_x (i := .imul) (len := 1) (p' := 21) (s' := [.int (2 * (gI σ 5 8))]) rfl rfl rfl ?_
    refine ev_x (i := .iconst 2) (len := 1) (p' := 22) (s' := [.int 2, .int (2 * (gI σ 5 8))]) rfl rfl rfl ?_
    refine ev_x (i := .iadd) (len := 1) (p' := 23) (s' := [.int ((2 * (gI σ 5 8)) + 2)]) rfl rfl rfl ?_
    refine ev_x (i := .istore 4) (len := 2) (p' := 25) (s' := []) (l' := [(4, .int ((2 * (gI σ 5 8)) + 2)), (3, .int (gE (σ) 10 (x_1 : Int32).toNatClampNeg)), (2, .int 0), (0, .ref 42), (1, .int x_1)]) rfl rfl rfl ?_
    refine ev_x (i := .iconst 0) (len := 1) (p' := 26) (s' := [.int 0]) rfl rfl rfl ?_
    refine ev_x (i := .istore 5) (len := 2) (p' := 28) (s' := []) (l' := [(5, .int 0), (4, .int ((2 * (gI σ 5 8)) + 2)), (3, .int (gE (σ) 10 (x_1 : Int32).toNatClampNeg)), (2, .int 0), (0, .ref 42), (1, .int x_1)]) rfl rfl rfl ?_
    exact (L_70_ok (d := d) (Or.inl rfl) N) _ _ _ _ _ _ _ rfl rfl rfl rfl rfl rfl hr_42_3 hr_42_4 H
  · refine ev_x (i := .iconst 0) (len := 1) (p' := 1) (s' := [.int 0]) rfl rfl rfl ?_
    refine ev_x (i := .istore_n 2) (len := 1) (p' := 2) (s' := []) (l' := [(2, .int 0), (0, .ref 42), (1, .int x_1)]) rfl rfl rfl ?_
    refine ev_x (i := .aload_n 0) (len := 1) (p' := 3) (s' := [.ref 42]) rfl rfl rfl ?_
    refine ev_gr (p' := 6) (v := 21) rfl rfl rfl ly_42 rfl rfl hr_42_4 ?_
    refine ev_gc (p' := 9) (v := 26) rfl rfl rfl ly_21 rfl rfl ?_
    refine ev_x (i := .iload_n 1) (len := 1) (p' := 10) (s' := [.int x_1, .ref 26]) rfl rfl rfl ?_
    obtain ⟨b_1, H⟩ := F_gd H
    refine ev_ga (p' := 11) (v := (gE (σ) 26 (x_1 : Int32).toNatClampNeg)) rfl rfl ly_26 rfl (gd_in b_1) rfl ?_
    refine ev_x (i := .istore_n 3) (len := 1) (p' := 12) (s' := []) (l' := [(3, .int (gE (σ) 26 (x_1 : Int32).toNatClampNeg)), (2, .int 0), (0, .ref 42), (1, .int x_1)]) rfl rfl rfl ?_
    refine ev_x (i := .iconst 2) (len := 1) (p' := 13) (s' := [.int 2]) rfl rfl rfl ?_
    refine ev_x (i := .aload_n 0) (len := 1) (p' := 14) (s' := [.ref 42, .int 2]) rfl rfl rfl ?_
    refine ev_gr (p' := 17) (v := 21) rfl rfl rfl ly_42 rfl rfl hr_42_4 ?_
    refine ev_gi (p' := 20) (v := (gI σ 21 8)) rfl rfl rfl ly_21 rfl rfl rfl ?_
    refine ev_x (i := .imul) (len := 1) (p' := 21) (s' := [.int (2 * (gI σ 21 8))]) rfl rfl rfl ?_
    refine ev_x (i := .iconst 2) (len := 1) (p' := 22) (s' := [.int 2, .int (2 * (gI σ 21 8))]) rfl rfl rfl ?_
    refine ev_x (i := .iadd) (len := 1) (p' := 23) (s' := [.int ((2 * (gI σ 21 8)) + 2)]) rfl rfl rfl ?_
    refine ev_x (i := .istore 4) (len := 2) (p' := 25) (s' := []) (l' := [(4, .int ((2 * (gI σ 21 8)) + 2)), (3, .int (gE (σ) 26 (x_1 : Int32).toNatClampNeg)), (2, .int 0), (0, .ref 42), (1, .int x_1)]) rfl rfl rfl ?_
    refine ev_x (i := .iconst 0) (len := 1) (p' := 26) (s' := [.int 0]) rfl rfl rfl ?_
    refine ev_x (i := .istore 5) (len := 2) (p' := 28) (s' := []) (l' := [(5, .int 0), (4, .int ((2 * (gI σ 21 8)) + 2)), (3, .int (gE (σ) 26 (x_1 : Int32).toNatClampNeg)), (2, .int 0), (0, .ref 42), (1, .int x_1)]) rfl rfl rfl ?_
    exact (L_70_ok (d := d) (Or.inr rfl) N) _ _ _ _ _ _ _ rfl rfl rfl rfl rfl rfl hr_42_3 hr_42_4 H
