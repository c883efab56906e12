/-! characters. Written by wip/prog/gen_pred.py -/
def bI (b : Bool) : Int32 := if b then 1 else 0
def isLe (c : Int32) : Bool := (decide (65 ≤ c) && decide (c ≤ 90)) || (decide (97 ≤ c) && decide (c ≤ 122))
def isDi (c : Int32) : Bool := decide (48 ≤ c) && decide (c ≤ 57)
def isBl (c : Int32) : Bool := decide (c = 9) || decide (c = 10) || decide (c = 13) || decide (c = 32)
set_option maxHeartbeats 1000000 in
/-- GameText$Words.isLetter(I)Z -/
theorem pr_19 {d : Nat} {σ : st_S} {y : Int32} : vz_ev P0 (d + 1) 19 0 (lv_args 0 [.int y]) [] (hp σ) (.inl (some (.int (bI (isLe y)))), hp σ) := by
  refine ev_x (i := .iload_n 0) (len := 1) (p' := 1) (s' := [.int y]) rfl rfl rfl ?_
  refine ev_x (i := .bipush 65) (len := 2) (p' := 3) (s' := [.int 65, .int y]) rfl rfl rfl ?_
  by_cases c_1 : y < 65
  · refine ev_b2 (t := 12) (p' := 12) rfl rfl rfl (if_pos c_1) ?_
    refine ev_x (i := .iload_n 0) (len := 1) (p' := 13) (s' := [.int y]) rfl rfl rfl ?_
    refine ev_x (i := .bipush 97) (len := 2) (p' := 15) (s' := [.int 97, .int y]) rfl rfl rfl ?_
    by_cases c_2 : y < 97
    · refine ev_b2 (t := 28) (p' := 28) rfl rfl rfl (if_pos c_2) ?_
      refine ev_x (i := .iconst 0) (len := 1) (p' := 29) (s' := [.int 0]) rfl rfl rfl ?_
      exact ev_q (congrArg (fun z => ((.inl (some (Value.int z)) : vz_O), hp σ)) (show (0 : Int32) = bI (isLe y) by simp [bI, isLe, c_1, Int32.not_le.mpr c_1, c_2, Int32.not_le.mpr c_2])) (ev_iret rfl rfl rfl rfl)
    · refine ev_b2 (t := 28) (p' := 18) rfl rfl rfl (if_neg c_2) ?_
      refine ev_x (i := .iload_n 0) (len := 1) (p' := 19) (s' := [.int y]) rfl rfl rfl ?_
      refine ev_x (i := .bipush 122) (len := 2) (p' := 21) (s' := [.int 122, .int y]) rfl rfl rfl ?_
      by_cases c_3 : 122 < y
      · refine ev_b2 (t := 28) (p' := 28) rfl rfl rfl (if_pos c_3) ?_
        refine ev_x (i := .iconst 0) (len := 1) (p' := 29) (s' := [.int 0]) rfl rfl rfl ?_
        exact ev_q (congrArg (fun z => ((.inl (some (Value.int z)) : vz_O), hp σ)) (show (0 : Int32) = bI (isLe y) by simp [bI, isLe, c_1, Int32.not_le.mpr c_1, c_2, Int32.not_lt.mp c_2, c_3, Int32.not_le.mpr c_3])) (ev_iret rfl rfl rfl rfl)
      · refine ev_b2 (t := 28) (p' := 24) rfl rfl rfl (if_neg c_3) ?_
        refine ev_x (i := .iconst 1) (len := 1) (p' := 25) (s' := [.int 1]) rfl rfl rfl ?_
        refine ev_x (i := .goto 4) (len := 3) (p' := 29) (s' := [.int 1]) rfl rfl rfl ?_
        exact ev_q (congrArg (fun z => ((.inl (some (Value.int z)) : vz_O), hp σ)) (show (1 : Int32) = bI (isLe y) by simp [bI, isLe, c_1, Int32.not_le.mpr c_1, c_2, Int32.not_lt.mp c_2, c_3, Int32.not_lt.mp c_3])) (ev_iret rfl rfl rfl rfl)
  · refine ev_b2 (t := 12) (p' := 6) rfl rfl rfl (if_neg c_1) ?_
    refine ev_x (i := .iload_n 0) (len := 1) (p' := 7) (s' := [.int y]) rfl rfl rfl ?_
    refine ev_x (i := .bipush 90) (len := 2) (p' := 9) (s' := [.int 90, .int y]) rfl rfl rfl ?_
    by_cases c_2 : y ≤ 90
    · refine ev_b2 (t := 24) (p' := 24) rfl rfl rfl (if_pos c_2) ?_
      refine ev_x (i := .iconst 1) (len := 1) (p' := 25) (s' := [.int 1]) rfl rfl rfl ?_
      refine ev_x (i := .goto 4) (len := 3) (p' := 29) (s' := [.int 1]) rfl rfl rfl ?_
      exact ev_q (congrArg (fun z => ((.inl (some (Value.int z)) : vz_O), hp σ)) (show (1 : Int32) = bI (isLe y) by simp [bI, isLe, c_1, Int32.not_lt.mp c_1, c_2, Int32.not_lt.mpr c_2])) (ev_iret rfl rfl rfl rfl)
    · refine ev_b2 (t := 24) (p' := 12) rfl rfl rfl (if_neg c_2) ?_
      refine ev_x (i := .iload_n 0) (len := 1) (p' := 13) (s' := [.int y]) rfl rfl rfl ?_
      refine ev_x (i := .bipush 97) (len := 2) (p' := 15) (s' := [.int 97, .int y]) rfl rfl rfl ?_
      by_cases c_3 : y < 97
      · refine ev_b2 (t := 28) (p' := 28) rfl rfl rfl (if_pos c_3) ?_
        refine ev_x (i := .iconst 0) (len := 1) (p' := 29) (s' := [.int 0]) rfl rfl rfl ?_
        exact ev_q (congrArg (fun z => ((.inl (some (Value.int z)) : vz_O), hp σ)) (show (0 : Int32) = bI (isLe y) by simp [bI, isLe, c_1, Int32.not_lt.mp c_1, c_2, Int32.not_le.mp c_2, c_3, Int32.not_le.mpr c_3])) (ev_iret rfl rfl rfl rfl)
      · refine ev_b2 (t := 28) (p' := 18) rfl rfl rfl (if_neg c_3) ?_
        refine ev_x (i := .iload_n 0) (len := 1) (p' := 19) (s' := [.int y]) rfl rfl rfl ?_
        refine ev_x (i := .bipush 122) (len := 2) (p' := 21) (s' := [.int 122, .int y]) rfl rfl rfl ?_
        by_cases c_4 : 122 < y
        · refine ev_b2 (t := 28) (p' := 28) rfl rfl rfl (if_pos c_4) ?_
          refine ev_x (i := .iconst 0) (len := 1) (p' := 29) (s' := [.int 0]) rfl rfl rfl ?_
          exact ev_q (congrArg (fun z => ((.inl (some (Value.int z)) : vz_O), hp σ)) (show (0 : Int32) = bI (isLe y) by simp [bI, isLe, c_1, Int32.not_lt.mp c_1, c_2, Int32.not_le.mp c_2, c_3, Int32.not_lt.mp c_3, c_4, Int32.not_le.mpr c_4])) (ev_iret rfl rfl rfl rfl)
        · refine ev_b2 (t := 28) (p' := 24) rfl rfl rfl (if_neg c_4) ?_
          refine ev_x (i := .iconst 1) (len := 1) (p' := 25) (s' := [.int 1]) rfl rfl rfl ?_
          refine ev_x (i := .goto 4) (len := 3) (p' := 29) (s' := [.int 1]) rfl rfl rfl ?_
          exact ev_q (congrArg (fun z => ((.inl (some (Value.int z)) : vz_O), hp σ)) (show (1 : Int32) = bI (isLe y) by simp [bI, isLe, c_1, Int32.not_lt.mp c_1, c_2, Int32.not_le.mp c_2, c_3, Int32.not_lt.mp c_3, c_4, Int32.not_lt.mp c_4])) (ev_iret rfl rfl rfl rfl)
set_option maxHeartbeats 1000000 in
/-- GameText$Words.isDigit(I)Z -/
theorem pr_21 {d : Nat} {σ : st_S} {y : Int32} : vz_ev P0 (d + 1) 21 0 (lv_args 0 [.int y]) [] (hp σ) (.inl (some (.int (bI (isDi y)))), hp σ) := by
  refine ev_x (i := .iload_n 0) (len := 1) (p' := 1) (s' := [.int y]) rfl rfl rfl ?_
  refine ev_x (i := .bipush 48) (len := 2) (p' := 3) (s' := [.int 48, .int y]) rfl rfl rfl ?_
  by_cases c_1 : y < 48
  · refine ev_b2 (t := 16) (p' := 16) rfl rfl rfl (if_pos c_1) ?_
    refine ev_x (i := .iconst 0) (len := 1) (p' := 17) (s' := [.int 0]) rfl rfl rfl ?_
    exact ev_q (congrArg (fun z => ((.inl (some (Value.int z)) : vz_O), hp σ)) (show (0 : Int32) = bI (isDi y) by simp [bI, isDi, c_1, Int32.not_le.mpr c_1])) (ev_iret rfl rfl rfl rfl)
  · refine ev_b2 (t := 16) (p' := 6) rfl rfl rfl (if_neg c_1) ?_
    refine ev_x (i := .iload_n 0) (len := 1) (p' := 7) (s' := [.int y]) rfl rfl rfl ?_
    refine ev_x (i := .bipush 57) (len := 2) (p' := 9) (s' := [.int 57, .int y]) rfl rfl rfl ?_
    by_cases c_2 : 57 < y
    · refine ev_b2 (t := 16) (p' := 16) rfl rfl rfl (if_pos c_2) ?_
      refine ev_x (i := .iconst 0) (len := 1) (p' := 17) (s' := [.int 0]) rfl rfl rfl ?_
      exact ev_q (congrArg (fun z => ((.inl (some (Value.int z)) : vz_O), hp σ)) (show (0 : Int32) = bI (isDi y) by simp [bI, isDi, c_1, Int32.not_lt.mp c_1, c_2, Int32.not_le.mpr c_2])) (ev_iret rfl rfl rfl rfl)
    · refine ev_b2 (t := 16) (p' := 12) rfl rfl rfl (if_neg c_2) ?_
      refine ev_x (i := .iconst 1) (len := 1) (p' := 13) (s' := [.int 1]) rfl rfl rfl ?_
      refine ev_x (i := .goto 4) (len := 3) (p' := 17) (s' := [.int 1]) rfl rfl rfl ?_
      exact ev_q (congrArg (fun z => ((.inl (some (Value.int z)) : vz_O), hp σ)) (show (1 : Int32) = bI (isDi y) by simp [bI, isDi, c_1, Int32.not_lt.mp c_1, c_2, Int32.not_lt.mp c_2])) (ev_iret rfl rfl rfl rfl)
set_option maxHeartbeats 1000000 in
/-- GameTextModel.isBlank(I)Z -/
theorem pr_140 {d : Nat} {σ : st_S} {y : Int32} : vz_ev P0 (d + 1) 140 0 (lv_args 0 [.int y]) [] (hp σ) (.inl (some (.int (bI (isBl y)))), hp σ) := by
  refine ev_x (i := .iload_n 0) (len := 1) (p' := 1) (s' := [.int y]) rfl rfl rfl ?_
  refine ev_x (i := .bipush 9) (len := 2) (p' := 3) (s' := [.int 9, .int y]) rfl rfl rfl ?_
  by_cases c_1 : y = 9
  · refine ev_b2 (t := 24) (p' := 24) rfl rfl rfl (if_pos c_1) ?_
    refine ev_x (i := .iconst 1) (len := 1) (p' := 25) (s' := [.int 1]) rfl rfl rfl ?_
    refine ev_x (i := .goto 4) (len := 3) (p' := 29) (s' := [.int 1]) rfl rfl rfl ?_
    exact ev_q (congrArg (fun z => ((.inl (some (Value.int z)) : vz_O), hp σ)) (show (1 : Int32) = bI (isBl y) by simp [bI, isBl, c_1])) (ev_iret rfl rfl rfl rfl)
  · refine ev_b2 (t := 24) (p' := 6) rfl rfl rfl (if_neg c_1) ?_
    refine ev_x (i := .iload_n 0) (len := 1) (p' := 7) (s' := [.int y]) rfl rfl rfl ?_
    refine ev_x (i := .bipush 10) (len := 2) (p' := 9) (s' := [.int 10, .int y]) rfl rfl rfl ?_
    by_cases c_2 : y = 10
    · refine ev_b2 (t := 24) (p' := 24) rfl rfl rfl (if_pos c_2) ?_
      refine ev_x (i := .iconst 1) (len := 1) (p' := 25) (s' := [.int 1]) rfl rfl rfl ?_
      refine ev_x (i := .goto 4) (len := 3) (p' := 29) (s' := [.int 1]) rfl rfl rfl ?_
      exact ev_q (congrArg (fun z => ((.inl (some (Value.int z)) : vz_O), hp σ)) (show (1 : Int32) = bI (isBl y) by simp [bI, isBl, c_1, c_2])) (ev_iret rfl rfl rfl rfl)
    · refine ev_b2 (t := 24) (p' := 12) rfl rfl rfl (if_neg c_2) ?_
      refine ev_x (i := .iload_n 0) (len := 1) (p' := 13) (s' := [.int y]) rfl rfl rfl ?_
      refine ev_x (i := .bipush 13) (len := 2) (p' := 15) (s' := [.int 13, .int y]) rfl rfl rfl ?_
      by_cases c_3 : y = 13
      · refine ev_b2 (t := 24) (p' := 24) rfl rfl rfl (if_pos c_3) ?_
        refine ev_x (i := .iconst 1) (len := 1) (p' := 25) (s' := [.int 1]) rfl rfl rfl ?_
        refine ev_x (i := .goto 4) (len := 3) (p' := 29) (s' := [.int 1]) rfl rfl rfl ?_
        exact ev_q (congrArg (fun z => ((.inl (some (Value.int z)) : vz_O), hp σ)) (show (1 : Int32) = bI (isBl y) by simp [bI, isBl, c_1, c_2, c_3])) (ev_iret rfl rfl rfl rfl)
      · refine ev_b2 (t := 24) (p' := 18) rfl rfl rfl (if_neg c_3) ?_
        refine ev_x (i := .iload_n 0) (len := 1) (p' := 19) (s' := [.int y]) rfl rfl rfl ?_
        refine ev_x (i := .bipush 32) (len := 2) (p' := 21) (s' := [.int 32, .int y]) rfl rfl rfl ?_
        by_cases c_4 : ¬ y = 32
        · refine ev_b2 (t := 28) (p' := 28) rfl rfl rfl (if_pos c_4) ?_
          refine ev_x (i := .iconst 0) (len := 1) (p' := 29) (s' := [.int 0]) rfl rfl rfl ?_
          exact ev_q (congrArg (fun z => ((.inl (some (Value.int z)) : vz_O), hp σ)) (show (0 : Int32) = bI (isBl y) by simp [bI, isBl, c_1, c_2, c_3, c_4])) (ev_iret rfl rfl rfl rfl)
        · refine ev_b2 (t := 28) (p' := 24) rfl rfl rfl (if_neg c_4) ?_
          refine ev_x (i := .iconst 1) (len := 1) (p' := 25) (s' := [.int 1]) rfl rfl rfl ?_
          refine ev_x (i := .goto 4) (len := 3) (p' := 29) (s' := [.int 1]) rfl rfl rfl ?_
          exact ev_q (congrArg (fun z => ((.inl (some (Value.int z)) : vz_O), hp σ)) (show (1 : Int32) = bI (isBl y) by simp [bI, isBl, c_1, c_2, c_3, c_4])) (ev_iret rfl rfl rfl rfl)
set_option maxHeartbeats 1000000 in
/-- GameTextModel.isLetter(I)Z -/
theorem pr_141 {d : Nat} {σ : st_S} {y : Int32} : vz_ev P0 (d + 1) 141 0 (lv_args 0 [.int y]) [] (hp σ) (.inl (some (.int (bI (isLe y)))), hp σ) := by
  refine ev_x (i := .iload_n 0) (len := 1) (p' := 1) (s' := [.int y]) rfl rfl rfl ?_
  refine ev_x (i := .bipush 97) (len := 2) (p' := 3) (s' := [.int 97, .int y]) rfl rfl rfl ?_
  by_cases c_1 : y < 97
  · refine ev_b2 (t := 12) (p' := 12) rfl rfl rfl (if_pos c_1) ?_
    refine ev_x (i := .iload_n 0) (len := 1) (p' := 13) (s' := [.int y]) rfl rfl rfl ?_
    refine ev_x (i := .bipush 65) (len := 2) (p' := 15) (s' := [.int 65, .int y]) rfl rfl rfl ?_
    by_cases c_2 : y < 65
    · refine ev_b2 (t := 28) (p' := 28) rfl rfl rfl (if_pos c_2) ?_
      refine ev_x (i := .iconst 0) (len := 1) (p' := 29) (s' := [.int 0]) rfl rfl rfl ?_
      exact ev_q (congrArg (fun z => ((.inl (some (Value.int z)) : vz_O), hp σ)) (show (0 : Int32) = bI (isLe y) by simp [bI, isLe, c_1, Int32.not_le.mpr c_1, c_2, Int32.not_le.mpr c_2])) (ev_iret rfl rfl rfl rfl)
    · refine ev_b2 (t := 28) (p' := 18) rfl rfl rfl (if_neg c_2) ?_
      refine ev_x (i := .iload_n 0) (len := 1) (p' := 19) (s' := [.int y]) rfl rfl rfl ?_
      refine ev_x (i := .bipush 90) (len := 2) (p' := 21) (s' := [.int 90, .int y]) rfl rfl rfl ?_
      by_cases c_3 : 90 < y
      · refine ev_b2 (t := 28) (p' := 28) rfl rfl rfl (if_pos c_3) ?_
        refine ev_x (i := .iconst 0) (len := 1) (p' := 29) (s' := [.int 0]) rfl rfl rfl ?_
        exact ev_q (congrArg (fun z => ((.inl (some (Value.int z)) : vz_O), hp σ)) (show (0 : Int32) = bI (isLe y) by simp [bI, isLe, c_1, Int32.not_le.mpr c_1, c_2, Int32.not_lt.mp c_2, c_3, Int32.not_le.mpr c_3])) (ev_iret rfl rfl rfl rfl)
      · refine ev_b2 (t := 28) (p' := 24) rfl rfl rfl (if_neg c_3) ?_
        refine ev_x (i := .iconst 1) (len := 1) (p' := 25) (s' := [.int 1]) rfl rfl rfl ?_
        refine ev_x (i := .goto 4) (len := 3) (p' := 29) (s' := [.int 1]) rfl rfl rfl ?_
        exact ev_q (congrArg (fun z => ((.inl (some (Value.int z)) : vz_O), hp σ)) (show (1 : Int32) = bI (isLe y) by simp [bI, isLe, c_1, Int32.not_le.mpr c_1, c_2, Int32.not_lt.mp c_2, c_3, Int32.not_lt.mp c_3])) (ev_iret rfl rfl rfl rfl)
  · refine ev_b2 (t := 12) (p' := 6) rfl rfl rfl (if_neg c_1) ?_
    refine ev_x (i := .iload_n 0) (len := 1) (p' := 7) (s' := [.int y]) rfl rfl rfl ?_
    refine ev_x (i := .bipush 122) (len := 2) (p' := 9) (s' := [.int 122, .int y]) rfl rfl rfl ?_
    by_cases c_2 : y ≤ 122
    · refine ev_b2 (t := 24) (p' := 24) rfl rfl rfl (if_pos c_2) ?_
      refine ev_x (i := .iconst 1) (len := 1) (p' := 25) (s' := [.int 1]) rfl rfl rfl ?_
      refine ev_x (i := .goto 4) (len := 3) (p' := 29) (s' := [.int 1]) rfl rfl rfl ?_
      exact ev_q (congrArg (fun z => ((.inl (some (Value.int z)) : vz_O), hp σ)) (show (1 : Int32) = bI (isLe y) by simp [bI, isLe, c_1, Int32.not_lt.mp c_1, c_2, Int32.not_lt.mpr c_2])) (ev_iret rfl rfl rfl rfl)
    · refine ev_b2 (t := 24) (p' := 12) rfl rfl rfl (if_neg c_2) ?_
      refine ev_x (i := .iload_n 0) (len := 1) (p' := 13) (s' := [.int y]) rfl rfl rfl ?_
      refine ev_x (i := .bipush 65) (len := 2) (p' := 15) (s' := [.int 65, .int y]) rfl rfl rfl ?_
      by_cases c_3 : y < 65
      · refine ev_b2 (t := 28) (p' := 28) rfl rfl rfl (if_pos c_3) ?_
        refine ev_x (i := .iconst 0) (len := 1) (p' := 29) (s' := [.int 0]) rfl rfl rfl ?_
        exact ev_q (congrArg (fun z => ((.inl (some (Value.int z)) : vz_O), hp σ)) (show (0 : Int32) = bI (isLe y) by simp [bI, isLe, c_1, Int32.not_lt.mp c_1, c_2, Int32.not_le.mp c_2, c_3, Int32.not_le.mpr c_3])) (ev_iret rfl rfl rfl rfl)
      · refine ev_b2 (t := 28) (p' := 18) rfl rfl rfl (if_neg c_3) ?_
        refine ev_x (i := .iload_n 0) (len := 1) (p' := 19) (s' := [.int y]) rfl rfl rfl ?_
        refine ev_x (i := .bipush 90) (len := 2) (p' := 21) (s' := [.int 90, .int y]) rfl rfl rfl ?_
        by_cases c_4 : 90 < y
        · refine ev_b2 (t := 28) (p' := 28) rfl rfl rfl (if_pos c_4) ?_
          refine ev_x (i := .iconst 0) (len := 1) (p' := 29) (s' := [.int 0]) rfl rfl rfl ?_
          exact ev_q (congrArg (fun z => ((.inl (some (Value.int z)) : vz_O), hp σ)) (show (0 : Int32) = bI (isLe y) by simp [bI, isLe, c_1, Int32.not_lt.mp c_1, c_2, Int32.not_le.mp c_2, c_3, Int32.not_lt.mp c_3, c_4, Int32.not_le.mpr c_4])) (ev_iret rfl rfl rfl rfl)
        · refine ev_b2 (t := 28) (p' := 24) rfl rfl rfl (if_neg c_4) ?_
          refine ev_x (i := .iconst 1) (len := 1) (p' := 25) (s' := [.int 1]) rfl rfl rfl ?_
          refine ev_x (i := .goto 4) (len := 3) (p' := 29) (s' := [.int 1]) rfl rfl rfl ?_
          exact ev_q (congrArg (fun z => ((.inl (some (Value.int z)) : vz_O), hp σ)) (show (1 : Int32) = bI (isLe y) by simp [bI, isLe, c_1, Int32.not_lt.mp c_1, c_2, Int32.not_le.mp c_2, c_3, Int32.not_lt.mp c_3, c_4, Int32.not_lt.mp c_4])) (ev_iret rfl rfl rfl rfl)
set_option maxHeartbeats 1000000 in
/-- GameTextModel.isDigit(I)Z -/
theorem pr_142 {d : Nat} {σ : st_S} {y : Int32} : vz_ev P0 (d + 1) 142 0 (lv_args 0 [.int y]) [] (hp σ) (.inl (some (.int (bI (isDi y)))), hp σ) := by
  refine ev_x (i := .iload_n 0) (len := 1) (p' := 1) (s' := [.int y]) rfl rfl rfl ?_
  refine ev_x (i := .bipush 48) (len := 2) (p' := 3) (s' := [.int 48, .int y]) rfl rfl rfl ?_
  by_cases c_1 : y < 48
  · refine ev_b2 (t := 16) (p' := 16) rfl rfl rfl (if_pos c_1) ?_
    refine ev_x (i := .iconst 0) (len := 1) (p' := 17) (s' := [.int 0]) rfl rfl rfl ?_
    exact ev_q (congrArg (fun z => ((.inl (some (Value.int z)) : vz_O), hp σ)) (show (0 : Int32) = bI (isDi y) by simp [bI, isDi, c_1, Int32.not_le.mpr c_1])) (ev_iret rfl rfl rfl rfl)
  · refine ev_b2 (t := 16) (p' := 6) rfl rfl rfl (if_neg c_1) ?_
    refine ev_x (i := .iload_n 0) (len := 1) (p' := 7) (s' := [.int y]) rfl rfl rfl ?_
    refine ev_x (i := .bipush 57) (len := 2) (p' := 9) (s' := [.int 57, .int y]) rfl rfl rfl ?_
    by_cases c_2 : 57 < y
    · refine ev_b2 (t := 16) (p' := 16) rfl rfl rfl (if_pos c_2) ?_
      refine ev_x (i := .iconst 0) (len := 1) (p' := 17) (s' := [.int 0]) rfl rfl rfl ?_
      exact ev_q (congrArg (fun z => ((.inl (some (Value.int z)) : vz_O), hp σ)) (show (0 : Int32) = bI (isDi y) by simp [bI, isDi, c_1, Int32.not_lt.mp c_1, c_2, Int32.not_le.mpr c_2])) (ev_iret rfl rfl rfl rfl)
    · refine ev_b2 (t := 16) (p' := 12) rfl rfl rfl (if_neg c_2) ?_
      refine ev_x (i := .iconst 1) (len := 1) (p' := 13) (s' := [.int 1]) rfl rfl rfl ?_
      refine ev_x (i := .goto 4) (len := 3) (p' := 17) (s' := [.int 1]) rfl rfl rfl ?_
      exact ev_q (congrArg (fun z => ((.inl (some (Value.int z)) : vz_O), hp σ)) (show (1 : Int32) = bI (isDi y) by simp [bI, isDi, c_1, Int32.not_lt.mp c_1, c_2, Int32.not_lt.mp c_2])) (ev_iret rfl rfl rfl rfl)
