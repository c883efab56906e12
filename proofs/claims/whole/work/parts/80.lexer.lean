/-! methods as functions of the store. Written by wip/prog/dec2.py, gen_all.py -/
/-- GameTextModel.letter(I)I -/
def F_138 (N : Nat) (x : Nat) (x_1 : Int32) (σ : st_S) : Option (Int32 × st_S) :=
  if (gI σ x 1) ≤ x_1 then
    some (0, σ)
  else
    (N_139 N x x_1 (σ)).bind fun p_2 =>
    some (p_2.1, p_2.2)
set_option maxRecDepth 100000 in
theorem F_138_R {N : Nat} {x : Nat} {x_1 : Int32} {σ : st_S} {p : Int32 × st_S} (H : F_138 N x x_1 σ = some p) : gR p.2 = gR σ := by
  unfold F_138 at H
  refine F_if H (fun _ H => ?_) (fun _ H => ?_)
  · obtain rfl := Option.some.inj H
    exact rfl
  · obtain ⟨p_2, G_2, H⟩ := F_bd H
    obtain rfl := Option.some.inj H
    exact ((N_139_R G_2).trans rfl)
set_option maxHeartbeats 4000000 in
set_option maxRecDepth 100000 in
theorem F_138_ok {N d : Nat} {x : Nat} (hx : x = 67 ∨ x = 69) {x_1 : Int32} {σ : st_S} {p : Int32 × st_S} (hr_66_2 : gR σ 66 2 = x) (H : F_138 N x x_1 σ = some p) : vz_ev P0 (d + 2) 138 0 (lv_args 0 [.ref 66, .int x_1]) [] (hp σ) (.inl (some (.int p.1)), hp p.2) := by
  unfold F_138 at H
  rcases hx with rfl | rfl
  · refine ev_x (i := .iload_n 1) (len := 1) (p' := 1) (s' := [.int x_1]) rfl rfl rfl ?_
    refine ev_x (i := .aload_n 0) (len := 1) (p' := 2) (s' := [.ref 66, .int x_1]) rfl rfl rfl ?_
    refine ev_gr (p' := 5) (v := 67) rfl rfl rfl ly_66 rfl rfl hr_66_2 ?_
    refine ev_gi (p' := 8) (v := (gI σ 67 1)) rfl rfl rfl ly_67 rfl rfl rfl ?_
    refine F_if H (fun c_1 H => ?_) (fun c_1 H => ?_)
    · refine ev_b2 (t := 22) (p' := 22) rfl rfl rfl (if_pos c_1) ?_
      refine ev_x (i := .iconst 0) (len := 1) (p' := 23) (s' := [.int 0]) rfl rfl rfl ?_
      obtain rfl := Option.some.inj H
      exact ev_iret rfl rfl rfl rfl
    · refine ev_b2 (t := 22) (p' := 11) rfl rfl rfl (if_neg c_1) ?_
      refine ev_x (i := .aload_n 0) (len := 1) (p' := 12) (s' := [.ref 66]) rfl rfl rfl ?_
      refine ev_gr (p' := 15) (v := 67) rfl rfl rfl ly_66 rfl rfl hr_66_2 ?_
      refine ev_x (i := .iload_n 1) (len := 1) (p' := 16) (s' := [.int x_1, .ref 67]) rfl rfl rfl ?_
      obtain ⟨p_2, G_2, H⟩ := F_bd H
      refine ev_cv (d := d + 1) (As := [.int x_1]) (a := 67) (p' := 19) rfl rfl rfl ly_67 rfl rfl rfl rfl rfl rfl rfl (N_139_ok (d := d + 0) nm_67 G_2) ?_
      refine ev_st (st' := [.int p_2.1]) rfl ?_
      have e_2 := N_139_R G_2
      refine ev_x (i := .goto 4) (len := 3) (p' := 23) (s' := [.int p_2.1]) rfl rfl rfl ?_
      obtain rfl := Option.some.inj H
      exact ev_iret rfl rfl rfl rfl
  · refine ev_x (i := .iload_n 1) (len := 1) (p' := 1) (s' := [.int x_1]) rfl rfl rfl ?_
    refine ev_x (i := .aload_n 0) (len := 1) (p' := 2) (s' := [.ref 66, .int x_1]) rfl rfl rfl ?_
    refine ev_gr (p' := 5) (v := 69) rfl rfl rfl ly_66 rfl rfl hr_66_2 ?_
    refine ev_gi (p' := 8) (v := (gI σ 69 1)) rfl rfl rfl ly_69 rfl rfl rfl ?_
    refine F_if H (fun c_1 H => ?_) (fun c_1 H => ?_)
    · refine ev_b2 (t := 22) (p' := 22) rfl rfl rfl (if_pos c_1) ?_
      refine ev_x (i := .iconst 0) (len := 1) (p' := 23) (s' := [.int 0]) rfl rfl rfl ?_
      obtain rfl := Option.some.inj H
      exact ev_iret rfl rfl rfl rfl
    · refine ev_b2 (t := 22) (p' := 11) rfl rfl rfl (if_neg c_1) ?_
      refine ev_x (i := .aload_n 0) (len := 1) (p' := 12) (s' := [.ref 66]) rfl rfl rfl ?_
      refine ev_gr (p' := 15) (v := 69) rfl rfl rfl ly_66 rfl rfl hr_66_2 ?_
      refine ev_x (i := .iload_n 1) (len := 1) (p' := 16) (s' := [.int x_1, .ref 69]) rfl rfl rfl ?_
      obtain ⟨p_2, G_2, H⟩ := F_bd H
      refine ev_cv (d := d + 1) (As := [.int x_1]) (a := 69) (p' := 19) rfl rfl rfl ly_69 rfl rfl rfl rfl rfl rfl rfl (N_139_ok (d := d + 0) nm_69 G_2) ?_
      refine ev_st (st' := [.int p_2.1]) rfl ?_
      have e_2 := N_139_R G_2
      refine ev_x (i := .goto 4) (len := 3) (p' := 23) (s' := [.int p_2.1]) rfl rfl rfl ?_
      obtain rfl := Option.some.inj H
      exact ev_iret rfl rfl rfl rfl
/-- GameTextModel.isBlank(I)Z -/
def F_140 (N : Nat) (x_0 : Int32) (σ : st_S) : Option (Int32 × st_S) :=
  some ((if x_0 = 9 then 1 else (if x_0 = 10 then 1 else (if x_0 = 13 then 1 else (if x_0 = 32 then 1 else 0))) : Int32), σ)
set_option maxRecDepth 100000 in
theorem F_140_R {N : Nat} {x_0 : Int32} {σ : st_S} {p : Int32 × st_S} (H : F_140 N x_0 σ = some p) : gR p.2 = gR σ := by
  unfold F_140 at H
  obtain rfl := Option.some.inj H
  exact rfl
set_option maxHeartbeats 4000000 in
set_option maxRecDepth 100000 in
theorem F_140_ok {N d : Nat} {x_0 : Int32} {σ : st_S} {p : Int32 × st_S}  (H : F_140 N x_0 σ = some p) : vz_ev P0 (d + 1) 140 0 (lv_args 0 [.int x_0]) [] (hp σ) (.inl (some (.int p.1)), hp p.2) := by
  unfold F_140 at H
  refine ev_x (i := .iload_n 0) (len := 1) (p' := 1) (s' := [.int x_0]) rfl rfl rfl ?_
  refine ev_x (i := .bipush 9) (len := 2) (p' := 3) (s' := [.int 9, .int x_0]) rfl rfl rfl ?_
  refine F_jn (A := vz_ev P0 (d + 1) 140 29 [(0, .int x_0)] [.int (if x_0 = 9 then 1 else (if x_0 = 10 then 1 else (if x_0 = 13 then 1 else (if x_0 = 32 then 1 else 0))) : Int32)] (hp (σ)) (.inl (some (.int p.1)), hp p.2)) ?_ (fun J => ?_)
  · obtain rfl := Option.some.inj H
    exact ev_iret rfl rfl rfl (fit_b (by (repeat' split) <;> decide))
  · by_cases c_1 : x_0 = 9
    · refine ev_b2 (t := 24) (p' := 24) rfl rfl rfl (if_pos c_1) ?_
      refine ev_x (i := .iconst 1) (len := 1) (p' := 25) (s' := [.int 1]) rfl rfl rfl ?_
      refine ev_x (i := .goto 4) (len := 3) (p' := 29) (s' := [.int 1]) rfl rfl rfl ?_
      exact ev_st (congrArg (fun z => Value.int z :: []) (by rw [if_pos c_1])) J
    · refine ev_b2 (t := 24) (p' := 6) rfl rfl rfl (if_neg c_1) ?_
      refine ev_x (i := .iload_n 0) (len := 1) (p' := 7) (s' := [.int x_0]) rfl rfl rfl ?_
      refine ev_x (i := .bipush 10) (len := 2) (p' := 9) (s' := [.int 10, .int x_0]) rfl rfl rfl ?_
      by_cases c_2 : x_0 = 10
      · refine ev_b2 (t := 24) (p' := 24) rfl rfl rfl (if_pos c_2) ?_
        refine ev_x (i := .iconst 1) (len := 1) (p' := 25) (s' := [.int 1]) rfl rfl rfl ?_
        refine ev_x (i := .goto 4) (len := 3) (p' := 29) (s' := [.int 1]) rfl rfl rfl ?_
        exact ev_st (congrArg (fun z => Value.int z :: []) (by rw [if_neg c_1, if_pos c_2])) J
      · refine ev_b2 (t := 24) (p' := 12) rfl rfl rfl (if_neg c_2) ?_
        refine ev_x (i := .iload_n 0) (len := 1) (p' := 13) (s' := [.int x_0]) rfl rfl rfl ?_
        refine ev_x (i := .bipush 13) (len := 2) (p' := 15) (s' := [.int 13, .int x_0]) rfl rfl rfl ?_
        by_cases c_3 : x_0 = 13
        · refine ev_b2 (t := 24) (p' := 24) rfl rfl rfl (if_pos c_3) ?_
          refine ev_x (i := .iconst 1) (len := 1) (p' := 25) (s' := [.int 1]) rfl rfl rfl ?_
          refine ev_x (i := .goto 4) (len := 3) (p' := 29) (s' := [.int 1]) rfl rfl rfl ?_
          exact ev_st (congrArg (fun z => Value.int z :: []) (by rw [if_neg c_1, if_neg c_2, if_pos c_3])) J
        · refine ev_b2 (t := 24) (p' := 18) rfl rfl rfl (if_neg c_3) ?_
          refine ev_x (i := .iload_n 0) (len := 1) (p' := 19) (s' := [.int x_0]) rfl rfl rfl ?_
          refine ev_x (i := .bipush 32) (len := 2) (p' := 21) (s' := [.int 32, .int x_0]) rfl rfl rfl ?_
          by_cases c_4 : x_0 = 32
          · refine ev_b2 (t := 28) (p' := 24) rfl rfl rfl (if_neg (fun q => q c_4)) ?_
            refine ev_x (i := .iconst 1) (len := 1) (p' := 25) (s' := [.int 1]) rfl rfl rfl ?_
            refine ev_x (i := .goto 4) (len := 3) (p' := 29) (s' := [.int 1]) rfl rfl rfl ?_
            exact ev_st (congrArg (fun z => Value.int z :: []) (by rw [if_neg c_1, if_neg c_2, if_neg c_3, if_pos c_4])) J
          · refine ev_b2 (t := 28) (p' := 28) rfl rfl rfl (if_pos c_4) ?_
            refine ev_x (i := .iconst 0) (len := 1) (p' := 29) (s' := [.int 0]) rfl rfl rfl ?_
            exact ev_st (congrArg (fun z => Value.int z :: []) (by rw [if_neg c_1, if_neg c_2, if_neg c_3, if_neg c_4])) J
/-- GameTextModel.skip(I)I, its loops -/
def L_137 (N : Nat) (x : Nat) : Nat → Nat → Int32 → st_S → Option (Int32 × st_S)
  | 0, _, _, _ => none
  | k + 1, w, l_2, σ =>
    if w = 2 then
      if (gI σ x 1) ≤ l_2 then
        some (l_2, σ)
      else
        (F_138 N x l_2 (σ)).bind fun p_2 =>
        (F_140 N p_2.1 (p_2.2)).bind fun p_3 =>
        if p_3.1 = 0 then
          (F_138 N x l_2 (p_3.2)).bind fun p_5 =>
          if p_5.1 = 35 then
            (F_138 N x l_2 (p_5.2)).bind fun p_7 =>
            if p_7.1 = 35 then
              L_137 N x k 44 l_2 (p_7.2)
            else
              L_137 N x k 2 (l_2 + 1) (p_7.2)
          else
            some (l_2, p_5.2)
        else
          (F_138 N x l_2 (p_3.2)).bind fun p_9 =>
          if p_9.1 = 35 then
            L_137 N x k 44 l_2 (p_9.2)
          else
            L_137 N x k 2 (l_2 + 1) (p_9.2)
    else
      if (gI σ x 1) ≤ l_2 then
        L_137 N x k 2 l_2 (σ)
      else
        (F_138 N x l_2 (σ)).bind fun p_12 =>
        if p_12.1 = 10 then
          L_137 N x k 2 l_2 (p_12.2)
        else
          L_137 N x k 44 (l_2 + 1) (p_12.2)
set_option maxRecDepth 100000 in
theorem L_137_R {N : Nat} {x : Nat} : ∀ (k : Nat) (w : Nat) (l_2 : Int32) (σ : st_S) (p : Int32 × st_S), L_137 N x k w l_2 σ = some p → gR p.2 = gR σ := by
  intro k
  induction k with
  | zero => intro w l_2 σ p H; unfold L_137 at H; cases H
  | succ k ih =>
    intro w l_2 σ p H
    unfold L_137 at H
    refine F_if H (fun _ H => ?_) (fun _ H => ?_)
    · refine F_if H (fun _ H => ?_) (fun _ H => ?_)
      · obtain rfl := Option.some.inj H
        exact rfl
      · obtain ⟨p_2, G_2, H⟩ := F_bd H
        obtain ⟨p_3, G_3, H⟩ := F_bd H
        refine F_if H (fun _ H => ?_) (fun _ H => ?_)
        · obtain ⟨p_5, G_5, H⟩ := F_bd H
          refine F_if H (fun _ H => ?_) (fun _ H => ?_)
          · obtain ⟨p_7, G_7, H⟩ := F_bd H
            refine F_if H (fun _ H => ?_) (fun _ H => ?_)
            · exact (((ih _ _ _ _ H)).trans ((F_138_R G_7).trans ((F_138_R G_5).trans ((F_140_R G_3).trans ((F_138_R G_2).trans rfl)))))
            · exact (((ih _ _ _ _ H)).trans ((F_138_R G_7).trans ((F_138_R G_5).trans ((F_140_R G_3).trans ((F_138_R G_2).trans rfl)))))
          · obtain rfl := Option.some.inj H
            exact ((F_138_R G_5).trans ((F_140_R G_3).trans ((F_138_R G_2).trans rfl)))
        · obtain ⟨p_9, G_9, H⟩ := F_bd H
          refine F_if H (fun _ H => ?_) (fun _ H => ?_)
          · exact (((ih _ _ _ _ H)).trans ((F_138_R G_9).trans ((F_140_R G_3).trans ((F_138_R G_2).trans rfl))))
          · exact (((ih _ _ _ _ H)).trans ((F_138_R G_9).trans ((F_140_R G_3).trans ((F_138_R G_2).trans rfl))))
    · skip
      refine F_if H (fun _ H => ?_) (fun _ H => ?_)
      · exact (((ih _ _ _ _ H)).trans rfl)
      · obtain ⟨p_12, G_12, H⟩ := F_bd H
        refine F_if H (fun _ H => ?_) (fun _ H => ?_)
        · exact (((ih _ _ _ _ H)).trans ((F_138_R G_12).trans rfl))
        · exact (((ih _ _ _ _ H)).trans ((F_138_R G_12).trans rfl))
set_option maxHeartbeats 4000000 in
set_option maxRecDepth 100000 in
theorem L_137_ok {N d : Nat} {x : Nat} (hx : x = 67 ∨ x = 69) : ∀ k : Nat, (∀ (l_2 : Int32) (σ : st_S) (lv : vz_L) (p : Int32 × st_S), vz_g lv 0 = some (.ref 66) → vz_g lv 2 = some (.int l_2) → vz_nbL (vz_gr P0) lv = true → gR σ 66 2 = x → L_137 N x k 2 l_2 σ = some p → vz_ev P0 (d + 3) 137 2 lv [] (hp σ) (.inl (some (.int p.1)), hp p.2)) ∧ (∀ (l_2 : Int32) (σ : st_S) (lv : vz_L) (p : Int32 × st_S), vz_g lv 0 = some (.ref 66) → vz_g lv 2 = some (.int l_2) → vz_nbL (vz_gr P0) lv = true → gR σ 66 2 = x → L_137 N x k 44 l_2 σ = some p → vz_ev P0 (d + 3) 137 44 lv [] (hp σ) (.inl (some (.int p.1)), hp p.2)) := by
  rcases hx with rfl | rfl
  · intro k
    induction k with
    | zero => exact ⟨(by intro l_2 σ lv p g_0 g_2 hnb hr_66_2 H; unfold L_137 at H; cases H), (by intro l_2 σ lv p g_0 g_2 hnb hr_66_2 H; unfold L_137 at H; cases H)⟩
    | succ k ih =>
      refine ⟨?_, ?_⟩
      · intro l_2 σ lv p g_0 g_2 hnb hr_66_2 H
        unfold L_137 at H
        rw [if_pos rfl] at H
        refine ev_x (i := .iload_n 2) (len := 1) (p' := 3) (s' := [.int l_2]) rfl rfl (ld_i g_2) ?_
        refine ev_x (i := .aload_n 0) (len := 1) (p' := 4) (s' := [.ref 66, .int l_2]) rfl rfl (ld_a g_0) ?_
        refine ev_gr (p' := 7) (v := 67) rfl rfl rfl ly_66 rfl rfl hr_66_2 ?_
        refine ev_gi (p' := 10) (v := (gI σ 67 1)) rfl rfl rfl ly_67 rfl rfl rfl ?_
        refine F_if H (fun c_1 H => ?_) (fun c_1 H => ?_)
        · refine ev_b2 (t := 77) (p' := 77) rfl rfl rfl (if_pos c_1) ?_
          refine ev_x (i := .iload_n 2) (len := 1) (p' := 78) (s' := [.int l_2]) rfl rfl (ld_i g_2) ?_
          obtain rfl := Option.some.inj H
          exact ev_iret rfl rfl rfl rfl
        · refine ev_b2 (t := 77) (p' := 13) rfl rfl rfl (if_neg c_1) ?_
          refine ev_x (i := .aload_n 0) (len := 1) (p' := 14) (s' := [.ref 66]) rfl rfl (ld_a g_0) ?_
          refine ev_x (i := .iload_n 2) (len := 1) (p' := 15) (s' := [.int l_2, .ref 66]) rfl rfl (ld_i g_2) ?_
          obtain ⟨p_2, G_2, H⟩ := F_bd H
          refine ev_cv (d := d + 2) (As := [.int l_2]) (a := 66) (p' := 18) rfl rfl rfl ly_66 rfl rfl rfl rfl rfl hnb rfl (F_138_ok (d := d + 0) (hx := (Or.inl rfl)) (hr_66_2 := hr_66_2) G_2) ?_
          refine ev_st (st' := [.int p_2.1]) rfl ?_
          have e_2 := F_138_R G_2
          obtain ⟨p_3, G_3, H⟩ := F_bd H
          refine ev_callS (d := d + 2) (As := [.int p_2.1]) rfl rfl rfl (by decide) rfl rfl rfl rfl hnb (F_140_ok (d := d + 1)   G_3) ?_
          refine ev_st (st' := [.int p_3.1]) rfl ?_
          refine ev_pc (pc' := 21) rfl ?_
          have e_3 := F_140_R G_3
          refine F_if H (fun c_4 H => ?_) (fun c_4 H => ?_)
          · refine ev_b0 (t := 34) (p' := 24) rfl rfl rfl (if_neg (fun q => q c_4)) ?_
            refine ev_x (i := .aload_n 0) (len := 1) (p' := 25) (s' := [.ref 66]) rfl rfl (ld_a g_0) ?_
            refine ev_x (i := .iload_n 2) (len := 1) (p' := 26) (s' := [.int l_2, .ref 66]) rfl rfl (ld_i g_2) ?_
            obtain ⟨p_5, G_5, H⟩ := F_bd H
            refine ev_cv (d := d + 2) (As := [.int l_2]) (a := 66) (p' := 29) rfl rfl rfl ly_66 rfl rfl rfl rfl rfl hnb rfl (F_138_ok (d := d + 0) (hx := (Or.inl rfl)) (hr_66_2 := ((congrFun (congrFun e_3 66) 2).trans ((congrFun (congrFun e_2 66) 2).trans hr_66_2))) G_5) ?_
            refine ev_st (st' := [.int p_5.1]) rfl ?_
            have e_5 := F_138_R G_5
            refine ev_x (i := .bipush 35) (len := 2) (p' := 31) (s' := [.int 35, .int p_5.1]) rfl rfl rfl ?_
            refine F_if H (fun c_6 H => ?_) (fun c_6 H => ?_)
            · refine ev_b2 (t := 77) (p' := 34) rfl rfl rfl (if_neg (fun q => q c_6)) ?_
              refine ev_x (i := .aload_n 0) (len := 1) (p' := 35) (s' := [.ref 66]) rfl rfl (ld_a g_0) ?_
              refine ev_x (i := .iload_n 2) (len := 1) (p' := 36) (s' := [.int l_2, .ref 66]) rfl rfl (ld_i g_2) ?_
              obtain ⟨p_7, G_7, H⟩ := F_bd H
              refine ev_cv (d := d + 2) (As := [.int l_2]) (a := 66) (p' := 39) rfl rfl rfl ly_66 rfl rfl rfl rfl rfl hnb rfl (F_138_ok (d := d + 0) (hx := (Or.inl rfl)) (hr_66_2 := ((congrFun (congrFun e_5 66) 2).trans ((congrFun (congrFun e_3 66) 2).trans ((congrFun (congrFun e_2 66) 2).trans hr_66_2)))) G_7) ?_
              refine ev_st (st' := [.int p_7.1]) rfl ?_
              have e_7 := F_138_R G_7
              refine ev_x (i := .bipush 35) (len := 2) (p' := 41) (s' := [.int 35, .int p_7.1]) rfl rfl rfl ?_
              refine F_if H (fun c_8 H => ?_) (fun c_8 H => ?_)
              · refine ev_b2 (t := 71) (p' := 44) rfl rfl rfl (if_neg (fun q => q c_8)) ?_
                exact ih.2 _ _ _ _ g_0 g_2 hnb ((congrFun (congrFun e_7 66) 2).trans ((congrFun (congrFun e_5 66) 2).trans ((congrFun (congrFun e_3 66) 2).trans ((congrFun (congrFun e_2 66) 2).trans hr_66_2)))) H
              · refine ev_b2 (t := 71) (p' := 71) rfl rfl rfl (if_pos c_8) ?_
                refine ev_x (i := .iinc 2 1) (len := 3) (p' := 74) (s' := []) (l' := vz_s1 (lv) 2 (.int (l_2 + 1))) rfl rfl (ld_inc g_2 rfl) ?_
                refine ev_x (i := .goto (-72)) (len := 3) (p' := 2) (s' := []) rfl rfl rfl ?_
                exact ih.1 _ _ _ _ (vg_o (i := 2) (v := .int (l_2 + 1)) g_0 (by decide) (Or.inl rfl)) (vg_s (lv) 2 (.int (l_2 + 1))) (nb_s1 hnb rfl) ((congrFun (congrFun e_7 66) 2).trans ((congrFun (congrFun e_5 66) 2).trans ((congrFun (congrFun e_3 66) 2).trans ((congrFun (congrFun e_2 66) 2).trans hr_66_2)))) H
            · refine ev_b2 (t := 77) (p' := 77) rfl rfl rfl (if_pos c_6) ?_
              refine ev_x (i := .iload_n 2) (len := 1) (p' := 78) (s' := [.int l_2]) rfl rfl (ld_i g_2) ?_
              obtain rfl := Option.some.inj H
              exact ev_iret rfl rfl rfl rfl
          · refine ev_b0 (t := 34) (p' := 34) rfl rfl rfl (if_pos c_4) ?_
            refine ev_x (i := .aload_n 0) (len := 1) (p' := 35) (s' := [.ref 66]) rfl rfl (ld_a g_0) ?_
            refine ev_x (i := .iload_n 2) (len := 1) (p' := 36) (s' := [.int l_2, .ref 66]) rfl rfl (ld_i g_2) ?_
            obtain ⟨p_9, G_9, H⟩ := F_bd H
            refine ev_cv (d := d + 2) (As := [.int l_2]) (a := 66) (p' := 39) rfl rfl rfl ly_66 rfl rfl rfl rfl rfl hnb rfl (F_138_ok (d := d + 0) (hx := (Or.inl rfl)) (hr_66_2 := ((congrFun (congrFun e_3 66) 2).trans ((congrFun (congrFun e_2 66) 2).trans hr_66_2))) G_9) ?_
            refine ev_st (st' := [.int p_9.1]) rfl ?_
            have e_9 := F_138_R G_9
            refine ev_x (i := .bipush 35) (len := 2) (p' := 41) (s' := [.int 35, .int p_9.1]) rfl rfl rfl ?_
            refine F_if H (fun c_10 H => ?_) (fun c_10 H => ?_)
            · refine ev_b2 (t := 71) (p' := 44) rfl rfl rfl (if_neg (fun q => q c_10)) ?_
              exact ih.2 _ _ _ _ g_0 g_2 hnb ((congrFun (congrFun e_9 66) 2).trans ((congrFun (congrFun e_3 66) 2).trans ((congrFun (congrFun e_2 66) 2).trans hr_66_2))) H
            · refine ev_b2 (t := 71) (p' := 71) rfl rfl rfl (if_pos c_10) ?_
              refine ev_x (i := .iinc 2 1) (len := 3) (p' := 74) (s' := []) (l' := vz_s1 (lv) 2 (.int (l_2 + 1))) rfl rfl (ld_inc g_2 rfl) ?_
              refine ev_x (i := .goto (-72)) (len := 3) (p' := 2) (s' := []) rfl rfl rfl ?_
              exact ih.1 _ _ _ _ (vg_o (i := 2) (v := .int (l_2 + 1)) g_0 (by decide) (Or.inl rfl)) (vg_s (lv) 2 (.int (l_2 + 1))) (nb_s1 hnb rfl) ((congrFun (congrFun e_9 66) 2).trans ((congrFun (congrFun e_3 66) 2).trans ((congrFun (congrFun e_2 66) 2).trans hr_66_2))) H
      · intro l_2 σ lv p g_0 g_2 hnb hr_66_2 H
        unfold L_137 at H
        rw [if_neg (by decide)] at H
        refine ev_x (i := .iload_n 2) (len := 1) (p' := 45) (s' := [.int l_2]) rfl rfl (ld_i g_2) ?_
        refine ev_x (i := .aload_n 0) (len := 1) (p' := 46) (s' := [.ref 66, .int l_2]) rfl rfl (ld_a g_0) ?_
        refine ev_gr (p' := 49) (v := 67) rfl rfl rfl ly_66 rfl rfl hr_66_2 ?_
        refine ev_gi (p' := 52) (v := (gI σ 67 1)) rfl rfl rfl ly_67 rfl rfl rfl ?_
        refine F_if H (fun c_11 H => ?_) (fun c_11 H => ?_)
        · refine ev_b2 (t := 2) (p' := 2) rfl rfl rfl (if_pos c_11) ?_
          exact ih.1 _ _ _ _ g_0 g_2 hnb hr_66_2 H
        · refine ev_b2 (t := 2) (p' := 55) rfl rfl rfl (if_neg c_11) ?_
          refine ev_x (i := .aload_n 0) (len := 1) (p' := 56) (s' := [.ref 66]) rfl rfl (ld_a g_0) ?_
          refine ev_x (i := .iload_n 2) (len := 1) (p' := 57) (s' := [.int l_2, .ref 66]) rfl rfl (ld_i g_2) ?_
          obtain ⟨p_12, G_12, H⟩ := F_bd H
          refine ev_cv (d := d + 2) (As := [.int l_2]) (a := 66) (p' := 60) rfl rfl rfl ly_66 rfl rfl rfl rfl rfl hnb rfl (F_138_ok (d := d + 0) (hx := (Or.inl rfl)) (hr_66_2 := hr_66_2) G_12) ?_
          refine ev_st (st' := [.int p_12.1]) rfl ?_
          have e_12 := F_138_R G_12
          refine ev_x (i := .bipush 10) (len := 2) (p' := 62) (s' := [.int 10, .int p_12.1]) rfl rfl rfl ?_
          refine F_if H (fun c_13 H => ?_) (fun c_13 H => ?_)
          · refine ev_b2 (t := 2) (p' := 2) rfl rfl rfl (if_pos c_13) ?_
            exact ih.1 _ _ _ _ g_0 g_2 hnb ((congrFun (congrFun e_12 66) 2).trans hr_66_2) H
          · refine ev_b2 (t := 2) (p' := 65) rfl rfl rfl (if_neg c_13) ?_
            refine ev_x (i := .iinc 2 1) (len := 3) (p' := 68) (s' := []) (l' := vz_s1 (lv) 2 (.int (l_2 + 1))) rfl rfl (ld_inc g_2 rfl) ?_
            refine ev_x (i := .goto (-24)) (len := 3) (p' := 44) (s' := []) rfl rfl rfl ?_
            exact ih.2 _ _ _ _ (vg_o (i := 2) (v := .int (l_2 + 1)) g_0 (by decide) (Or.inl rfl)) (vg_s (lv) 2 (.int (l_2 + 1))) (nb_s1 hnb rfl) ((congrFun (congrFun e_12 66) 2).trans hr_66_2) H
  · intro k
    induction k with
    | zero => exact ⟨(by intro l_2 σ lv p g_0 g_2 hnb hr_66_2 H; unfold L_137 at H; cases H), (by intro l_2 σ lv p g_0 g_2 hnb hr_66_2 H; unfold L_137 at H; cases H)⟩
    | succ k ih =>
      refine ⟨?_, ?_⟩
      · intro l_2 σ lv p g_0 g_2 hnb hr_66_2 H
        unfold L_137 at H
        rw [if_pos rfl] at H
        refine ev_x (i := .iload_n 2) (len := 1) (p' := 3) (s' := [.int l_2]) rfl rfl (ld_i g_2) ?_
        refine ev_x (i := .aload_n 0) (len := 1) (p' := 4) (s' := [.ref 66, .int l_2]) rfl rfl (ld_a g_0) ?_
        refine ev_gr (p' := 7) (v := 69) rfl rfl rfl ly_66 rfl rfl hr_66_2 ?_
        refine ev_gi (p' := 10) (v := (gI σ 69 1)) rfl rfl rfl ly_69 rfl rfl rfl ?_
        refine F_if H (fun c_1 H => ?_) (fun c_1 H => ?_)
        · refine ev_b2 (t := 77) (p' := 77) rfl rfl rfl (if_pos c_1) ?_
          refine ev_x (i := .iload_n 2) (len := 1) (p' := 78) (s' := [.int l_2]) rfl rfl (ld_i g_2) ?_
          obtain rfl := Option.some.inj H
          exact ev_iret rfl rfl rfl rfl
        · refine ev_b2 (t := 77) (p' := 13) rfl rfl rfl (if_neg c_1) ?_
          refine ev_x (i := .aload_n 0) (len := 1) (p' := 14) (s' := [.ref 66]) rfl rfl (ld_a g_0) ?_
          refine ev_x (i := .iload_n 2) (len := 1) (p' := 15) (s' := [.int l_2, .ref 66]) rfl rfl (ld_i g_2) ?_
          obtain ⟨p_2, G_2, H⟩ := F_bd H
          refine ev_cv (d := d + 2) (As := [.int l_2]) (a := 66) (p' := 18) rfl rfl rfl ly_66 rfl rfl rfl rfl rfl hnb rfl (F_138_ok (d := d + 0) (hx := (Or.inr rfl)) (hr_66_2 := hr_66_2) G_2) ?_
          refine ev_st (st' := [.int p_2.1]) rfl ?_
          have e_2 := F_138_R G_2
          obtain ⟨p_3, G_3, H⟩ := F_bd H
          refine ev_callS (d := d + 2) (As := [.int p_2.1]) rfl rfl rfl (by decide) rfl rfl rfl rfl hnb (F_140_ok (d := d + 1)   G_3) ?_
          refine ev_st (st' := [.int p_3.1]) rfl ?_
          refine ev_pc (pc' := 21) rfl ?_
          have e_3 := F_140_R G_3
          refine F_if H (fun c_4 H => ?_) (fun c_4 H => ?_)
          · refine ev_b0 (t := 34) (p' := 24) rfl rfl rfl (if_neg (fun q => q c_4)) ?_
            refine ev_x (i := .aload_n 0) (len := 1) (p' := 25) (s' := [.ref 66]) rfl rfl (ld_a g_0) ?_
            refine ev_x (i := .iload_n 2) (len := 1) (p' := 26) (s' := [.int l_2, .ref 66]) rfl rfl (ld_i g_2) ?_
            obtain ⟨p_5, G_5, H⟩ := F_bd H
            refine ev_cv (d := d + 2) (As := [.int l_2]) (a := 66) (p' := 29) rfl rfl rfl ly_66 rfl rfl rfl rfl rfl hnb rfl (F_138_ok (d := d + 0) (hx := (Or.inr rfl)) (hr_66_2 := ((congrFun (congrFun e_3 66) 2).trans ((congrFun (congrFun e_2 66) 2).trans hr_66_2))) G_5) ?_
            refine ev_st (st' := [.int p_5.1]) rfl ?_
            have e_5 := F_138_R G_5
            refine ev_x (i := .bipush 35) (len := 2) (p' := 31) (s' := [.int 35, .int p_5.1]) rfl rfl rfl ?_
            refine F_if H (fun c_6 H => ?_) (fun c_6 H => ?_)
            · refine ev_b2 (t := 77) (p' := 34) rfl rfl rfl (if_neg (fun q => q c_6)) ?_
              refine ev_x (i := .aload_n 0) (len := 1) (p' := 35) (s' := [.ref 66]) rfl rfl (ld_a g_0) ?_
              refine ev_x (i := .iload_n 2) (len := 1) (p' := 36) (s' := [.int l_2, .ref 66]) rfl rfl (ld_i g_2) ?_
              obtain ⟨p_7, G_7, H⟩ := F_bd H
              refine ev_cv (d := d + 2) (As := [.int l_2]) (a := 66) (p' := 39) rfl rfl rfl ly_66 rfl rfl rfl rfl rfl hnb rfl (F_138_ok (d := d + 0) (hx := (Or.inr rfl)) (hr_66_2 := ((congrFun (congrFun e_5 66) 2).trans ((congrFun (congrFun e_3 66) 2).trans ((congrFun (congrFun e_2 66) 2).trans hr_66_2)))) G_7) ?_
              refine ev_st (st' := [.int p_7.1]) rfl ?_
              have e_7 := F_138_R G_7
              refine ev_x (i := .bipush 35) (len := 2) (p' := 41) (s' := [.int 35, .int p_7.1]) rfl rfl rfl ?_
              refine F_if H (fun c_8 H => ?_) (fun c_8 H => ?_)
              · refine ev_b2 (t := 71) (p' := 44) rfl rfl rfl (if_neg (fun q => q c_8)) ?_
                exact ih.2 _ _ _ _ g_0 g_2 hnb ((congrFun (congrFun e_7 66) 2).trans ((congrFun (congrFun e_5 66) 2).trans ((congrFun (congrFun e_3 66) 2).trans ((congrFun (congrFun e_2 66) 2).trans hr_66_2)))) H
              · refine ev_b2 (t := 71) (p' := 71) rfl rfl rfl (if_pos c_8) ?_
                refine ev_x (i := .iinc 2 1) (len := 3) (p' := 74) (s' := []) (l' := vz_s1 (lv) 2 (.int (l_2 + 1))) rfl rfl (ld_inc g_2 rfl) ?_
                refine ev_x (i := .goto (-72)) (len := 3) (p' := 2) (s' := []) rfl rfl rfl ?_
                exact ih.1 _ _ _ _ (vg_o (i := 2) (v := .int (l_2 + 1)) g_0 (by decide) (Or.inl rfl)) (vg_s (lv) 2 (.int (l_2 + 1))) (nb_s1 hnb rfl) ((congrFun (congrFun e_7 66) 2).trans ((congrFun (congrFun e_5 66) 2).trans ((congrFun (congrFun e_3 66) 2).trans ((congrFun (congrFun e_2 66) 2).trans hr_66_2)))) H
            · refine ev_b2 (t := 77) (p' := 77) rfl rfl rfl (if_pos c_6) ?_
              refine ev_x (i := .iload_n 2) (len := 1) (p' := 78) (s' := [.int l_2]) rfl rfl (ld_i g_2) ?_
              obtain rfl := Option.some.inj H
              exact ev_iret rfl rfl rfl rfl
          · refine ev_b0 (t := 34) (p' := 34) rfl rfl rfl (if_pos c_4) ?_
            refine ev_x (i := .aload_n 0) (len := 1) (p' := 35) (s' := [.ref 66]) rfl rfl (ld_a g_0) ?_
            refine ev_x (i := .iload_n 2) (len := 1) (p' := 36) (s' := [.int l_2, .ref 66]) rfl rfl (ld_i g_2) ?_
            obtain ⟨p_9, G_9, H⟩ := F_bd H
            refine ev_cv (d := d + 2) (As := [.int l_2]) (a := 66) (p' := 39) rfl rfl rfl ly_66 rfl rfl rfl rfl rfl hnb rfl (F_138_ok (d := d + 0) (hx := (Or.inr rfl)) (hr_66_2 := ((congrFun (congrFun e_3 66) 2).trans ((congrFun (congrFun e_2 66) 2).trans hr_66_2))) G_9) ?_
            refine ev_st (st' := [.int p_9.1]) rfl ?_
            have e_9 := F_138_R G_9
            refine ev_x (i := .bipush 35) (len := 2) (p' := 41) (s' := [.int 35, .int p_9.1]) rfl rfl rfl ?_
            refine F_if H (fun c_10 H => ?_) (fun c_10 H => ?_)
            · refine ev_b2 (t := 71) (p' := 44) rfl rfl rfl (if_neg (fun q => q c_10)) ?_
              exact ih.2 _ _ _ _ g_0 g_2 hnb ((congrFun (congrFun e_9 66) 2).trans ((congrFun (congrFun e_3 66) 2).trans ((congrFun (congrFun e_2 66) 2).trans hr_66_2))) H
            · refine ev_b2 (t := 71) (p' := 71) rfl rfl rfl (if_pos c_10) ?_
              refine ev_x (i := .iinc 2 1) (len := 3) (p' := 74) (s' := []) (l' := vz_s1 (lv) 2 (.int (l_2 + 1))) rfl rfl (ld_inc g_2 rfl) ?_
              refine ev_x (i := .goto (-72)) (len := 3) (p' := 2) (s' := []) rfl rfl rfl ?_
              exact ih.1 _ _ _ _ (vg_o (i := 2) (v := .int (l_2 + 1)) g_0 (by decide) (Or.inl rfl)) (vg_s (lv) 2 (.int (l_2 + 1))) (nb_s1 hnb rfl) ((congrFun (congrFun e_9 66) 2).trans ((congrFun (congrFun e_3 66) 2).trans ((congrFun (congrFun e_2 66) 2).trans hr_66_2))) H
      · intro l_2 σ lv p g_0 g_2 hnb hr_66_2 H
        unfold L_137 at H
        rw [if_neg (by decide)] at H
        refine ev_x (i := .iload_n 2) (len := 1) (p' := 45) (s' := [.int l_2]) rfl rfl (ld_i g_2) ?_
        refine ev_x (i := .aload_n 0) (len := 1) (p' := 46) (s' := [.ref 66, .int l_2]) rfl rfl (ld_a g_0) ?_
        refine ev_gr (p' := 49) (v := 69) rfl rfl rfl ly_66 rfl rfl hr_66_2 ?_
        refine ev_gi (p' := 52) (v := (gI σ 69 1)) rfl rfl rfl ly_69 rfl rfl rfl ?_
        refine F_if H (fun c_11 H => ?_) (fun c_11 H => ?_)
        · refine ev_b2 (t := 2) (p' := 2) rfl rfl rfl (if_pos c_11) ?_
          exact ih.1 _ _ _ _ g_0 g_2 hnb hr_66_2 H
        · refine ev_b2 (t := 2) (p' := 55) rfl rfl rfl (if_neg c_11) ?_
          refine ev_x (i := .aload_n 0) (len := 1) (p' := 56) (s' := [.ref 66]) rfl rfl (ld_a g_0) ?_
          refine ev_x (i := .iload_n 2) (len := 1) (p' := 57) (s' := [.int l_2, .ref 66]) rfl rfl (ld_i g_2) ?_
          obtain ⟨p_12, G_12, H⟩ := F_bd H
          refine ev_cv (d := d + 2) (As := [.int l_2]) (a := 66) (p' := 60) rfl rfl rfl ly_66 rfl rfl rfl rfl rfl hnb rfl (F_138_ok (d := d + 0) (hx := (Or.inr rfl)) (hr_66_2 := hr_66_2) G_12) ?_
          refine ev_st (st' := [.int p_12.1]) rfl ?_
          have e_12 := F_138_R G_12
          refine ev_x (i := .bipush 10) (len := 2) (p' := 62) (s' := [.int 10, .int p_12.1]) rfl rfl rfl ?_
          refine F_if H (fun c_13 H => ?_) (fun c_13 H => ?_)
          · refine ev_b2 (t := 2) (p' := 2) rfl rfl rfl (if_pos c_13) ?_
            exact ih.1 _ _ _ _ g_0 g_2 hnb ((congrFun (congrFun e_12 66) 2).trans hr_66_2) H
          · refine ev_b2 (t := 2) (p' := 65) rfl rfl rfl (if_neg c_13) ?_
            refine ev_x (i := .iinc 2 1) (len := 3) (p' := 68) (s' := []) (l' := vz_s1 (lv) 2 (.int (l_2 + 1))) rfl rfl (ld_inc g_2 rfl) ?_
            refine ev_x (i := .goto (-24)) (len := 3) (p' := 44) (s' := []) rfl rfl rfl ?_
            exact ih.2 _ _ _ _ (vg_o (i := 2) (v := .int (l_2 + 1)) g_0 (by decide) (Or.inl rfl)) (vg_s (lv) 2 (.int (l_2 + 1))) (nb_s1 hnb rfl) ((congrFun (congrFun e_12 66) 2).trans hr_66_2) H
/-- GameTextModel.skip(I)I -/
def F_137 (N : Nat) (x : Nat) (x_1 : Int32) (σ : st_S) : Option (Int32 × st_S) :=
  L_137 N x N 2 x_1 (σ)
set_option maxRecDepth 100000 in
theorem F_137_R {N : Nat} {x : Nat} {x_1 : Int32} {σ : st_S} {p : Int32 × st_S} (H : F_137 N x x_1 σ = some p) : gR p.2 = gR σ := by
  unfold F_137 at H
  exact (((L_137_R _ _ _ _ _ H)).trans rfl)
set_option maxHeartbeats 4000000 in
set_option maxRecDepth 100000 in
theorem F_137_ok {N d : Nat} {x : Nat} (hx : x = 67 ∨ x = 69) {x_1 : Int32} {σ : st_S} {p : Int32 × st_S} (hr_66_2 : gR σ 66 2 = x) (H : F_137 N x x_1 σ = some p) : vz_ev P0 (d + 3) 137 0 (lv_args 0 [.ref 66, .int x_1]) [] (hp σ) (.inl (some (.int p.1)), hp p.2) := by
  unfold F_137 at H
  refine ev_x (i := .iload_n 1) (len := 1) (p' := 1) (s' := [.int x_1]) rfl rfl rfl ?_
  refine ev_x (i := .istore_n 2) (len := 1) (p' := 2) (s' := []) (l' := [(2, .int x_1), (0, .ref 66), (1, .int x_1)]) rfl rfl rfl ?_
  exact (L_137_ok (d := d) hx N).1 _ _ _ _ rfl rfl rfl hr_66_2 H
/-- GameTextModel.isLetter(I)Z, from 12 -/
def J_141_12 (N : Nat) (l_0 : Int32) (σ : st_S) : Option (Int32 × st_S) :=
  some ((if l_0 < 65 then 0 else (if 90 < l_0 then 0 else 1) : Int32), σ)
set_option maxRecDepth 100000 in
theorem J_141_12_R {N : Nat} {l_0 : Int32} {σ : st_S} {p : Int32 × st_S} (H : J_141_12 N l_0 σ = some p) : gR p.2 = gR σ := by
  unfold J_141_12 at H
  obtain rfl := Option.some.inj H
  exact rfl
set_option maxHeartbeats 4000000 in
set_option maxRecDepth 100000 in
theorem J_141_12_ok {N d : Nat} {l_0 : Int32} {σ : st_S} {lv : vz_L} {p : Int32 × st_S} (g_0 : vz_g lv 0 = some (.int l_0)) (hnb : vz_nbL (vz_gr P0) lv = true)  (H : J_141_12 N l_0 σ = some p) : vz_ev P0 (d + 1) 141 12 lv [] (hp σ) (.inl (some (.int p.1)), hp p.2) := by
  unfold J_141_12 at H
  refine ev_x (i := .iload_n 0) (len := 1) (p' := 13) (s' := [.int l_0]) rfl rfl (ld_i g_0) ?_
  refine ev_x (i := .bipush 65) (len := 2) (p' := 15) (s' := [.int 65, .int l_0]) rfl rfl rfl ?_
  refine F_jn (A := vz_ev P0 (d + 1) 141 29 (lv) [.int (if l_0 < 65 then 0 else (if 90 < l_0 then 0 else 1) : Int32)] (hp (σ)) (.inl (some (.int p.1)), hp p.2)) ?_ (fun J => ?_)
  · obtain rfl := Option.some.inj H
    exact ev_iret rfl rfl rfl (fit_b (by (repeat' split) <;> decide))
  · by_cases c_3 : l_0 < 65
    · refine ev_b2 (t := 28) (p' := 28) rfl rfl rfl (if_pos c_3) ?_
      refine ev_x (i := .iconst 0) (len := 1) (p' := 29) (s' := [.int 0]) rfl rfl rfl ?_
      exact ev_st (congrArg (fun z => Value.int z :: []) (by rw [if_pos c_3])) J
    · refine ev_b2 (t := 28) (p' := 18) rfl rfl rfl (if_neg c_3) ?_
      refine ev_x (i := .iload_n 0) (len := 1) (p' := 19) (s' := [.int l_0]) rfl rfl (ld_i g_0) ?_
      refine ev_x (i := .bipush 90) (len := 2) (p' := 21) (s' := [.int 90, .int l_0]) rfl rfl rfl ?_
      by_cases c_4 : 90 < l_0
      · refine ev_b2 (t := 28) (p' := 28) rfl rfl rfl (if_pos c_4) ?_
        refine ev_x (i := .iconst 0) (len := 1) (p' := 29) (s' := [.int 0]) rfl rfl rfl ?_
        exact ev_st (congrArg (fun z => Value.int z :: []) (by rw [if_neg c_3, if_pos c_4])) J
      · refine ev_b2 (t := 28) (p' := 24) rfl rfl rfl (if_neg c_4) ?_
        refine ev_x (i := .iconst 1) (len := 1) (p' := 25) (s' := [.int 1]) rfl rfl rfl ?_
        refine ev_x (i := .goto 4) (len := 3) (p' := 29) (s' := [.int 1]) rfl rfl rfl ?_
        exact ev_st (congrArg (fun z => Value.int z :: []) (by rw [if_neg c_3, if_neg c_4])) J
/-- GameTextModel.isLetter(I)Z -/
def F_141 (N : Nat) (x_0 : Int32) (σ : st_S) : Option (Int32 × st_S) :=
  if x_0 < 97 then
    J_141_12 N x_0 (σ)
  else
    if x_0 ≤ 122 then
      some (1, σ)
    else
      J_141_12 N x_0 (σ)
set_option maxRecDepth 100000 in
theorem F_141_R {N : Nat} {x_0 : Int32} {σ : st_S} {p : Int32 × st_S} (H : F_141 N x_0 σ = some p) : gR p.2 = gR σ := by
  unfold F_141 at H
  refine F_if H (fun _ H => ?_) (fun _ H => ?_)
  · exact (((J_141_12_R H)).trans rfl)
  · refine F_if H (fun _ H => ?_) (fun _ H => ?_)
    · obtain rfl := Option.some.inj H
      exact rfl
    · exact (((J_141_12_R H)).trans rfl)
set_option maxHeartbeats 4000000 in
set_option maxRecDepth 100000 in
theorem F_141_ok {N d : Nat} {x_0 : Int32} {σ : st_S} {p : Int32 × st_S}  (H : F_141 N x_0 σ = some p) : vz_ev P0 (d + 1) 141 0 (lv_args 0 [.int x_0]) [] (hp σ) (.inl (some (.int p.1)), hp p.2) := by
  unfold F_141 at H
  refine ev_x (i := .iload_n 0) (len := 1) (p' := 1) (s' := [.int x_0]) rfl rfl rfl ?_
  refine ev_x (i := .bipush 97) (len := 2) (p' := 3) (s' := [.int 97, .int x_0]) rfl rfl rfl ?_
  refine F_if H (fun c_1 H => ?_) (fun c_1 H => ?_)
  · refine ev_b2 (t := 12) (p' := 12) rfl rfl rfl (if_pos c_1) ?_
    exact J_141_12_ok (d := d) rfl rfl  H
  · refine ev_b2 (t := 12) (p' := 6) rfl rfl rfl (if_neg c_1) ?_
    refine ev_x (i := .iload_n 0) (len := 1) (p' := 7) (s' := [.int x_0]) rfl rfl rfl ?_
    refine ev_x (i := .bipush 122) (len := 2) (p' := 9) (s' := [.int 122, .int x_0]) rfl rfl rfl ?_
    refine F_if H (fun c_2 H => ?_) (fun c_2 H => ?_)
    · refine ev_b2 (t := 24) (p' := 24) rfl rfl rfl (if_pos c_2) ?_
      refine ev_x (i := .iconst 1) (len := 1) (p' := 25) (s' := [.int 1]) rfl rfl rfl ?_
      refine ev_x (i := .goto 4) (len := 3) (p' := 29) (s' := [.int 1]) rfl rfl rfl ?_
      obtain rfl := Option.some.inj H
      exact ev_iret rfl rfl rfl rfl
    · refine ev_b2 (t := 24) (p' := 12) rfl rfl rfl (if_neg c_2) ?_
      exact J_141_12_ok (d := d) rfl rfl  H
/-- GameTextModel.isDigit(I)Z -/
def F_142 (N : Nat) (x_0 : Int32) (σ : st_S) : Option (Int32 × st_S) :=
  some ((if x_0 < 48 then 0 else (if 57 < x_0 then 0 else 1) : Int32), σ)
set_option maxRecDepth 100000 in
theorem F_142_R {N : Nat} {x_0 : Int32} {σ : st_S} {p : Int32 × st_S} (H : F_142 N x_0 σ = some p) : gR p.2 = gR σ := by
  unfold F_142 at H
  obtain rfl := Option.some.inj H
  exact rfl
set_option maxHeartbeats 4000000 in
set_option maxRecDepth 100000 in
theorem F_142_ok {N d : Nat} {x_0 : Int32} {σ : st_S} {p : Int32 × st_S}  (H : F_142 N x_0 σ = some p) : vz_ev P0 (d + 1) 142 0 (lv_args 0 [.int x_0]) [] (hp σ) (.inl (some (.int p.1)), hp p.2) := by
  unfold F_142 at H
  refine ev_x (i := .iload_n 0) (len := 1) (p' := 1) (s' := [.int x_0]) rfl rfl rfl ?_
  refine ev_x (i := .bipush 48) (len := 2) (p' := 3) (s' := [.int 48, .int x_0]) rfl rfl rfl ?_
  refine F_jn (A := vz_ev P0 (d + 1) 142 17 [(0, .int x_0)] [.int (if x_0 < 48 then 0 else (if 57 < x_0 then 0 else 1) : Int32)] (hp (σ)) (.inl (some (.int p.1)), hp p.2)) ?_ (fun J => ?_)
  · obtain rfl := Option.some.inj H
    exact ev_iret rfl rfl rfl (fit_b (by (repeat' split) <;> decide))
  · by_cases c_1 : x_0 < 48
    · refine ev_b2 (t := 16) (p' := 16) rfl rfl rfl (if_pos c_1) ?_
      refine ev_x (i := .iconst 0) (len := 1) (p' := 17) (s' := [.int 0]) rfl rfl rfl ?_
      exact ev_st (congrArg (fun z => Value.int z :: []) (by rw [if_pos c_1])) J
    · refine ev_b2 (t := 16) (p' := 6) rfl rfl rfl (if_neg c_1) ?_
      refine ev_x (i := .iload_n 0) (len := 1) (p' := 7) (s' := [.int x_0]) rfl rfl rfl ?_
      refine ev_x (i := .bipush 57) (len := 2) (p' := 9) (s' := [.int 57, .int x_0]) rfl rfl rfl ?_
      by_cases c_2 : 57 < x_0
      · refine ev_b2 (t := 16) (p' := 16) rfl rfl rfl (if_pos c_2) ?_
        refine ev_x (i := .iconst 0) (len := 1) (p' := 17) (s' := [.int 0]) rfl rfl rfl ?_
        exact ev_st (congrArg (fun z => Value.int z :: []) (by rw [if_neg c_1, if_pos c_2])) J
      · refine ev_b2 (t := 16) (p' := 12) rfl rfl rfl (if_neg c_2) ?_
        refine ev_x (i := .iconst 1) (len := 1) (p' := 13) (s' := [.int 1]) rfl rfl rfl ?_
        refine ev_x (i := .goto 4) (len := 3) (p' := 17) (s' := [.int 1]) rfl rfl rfl ?_
        exact ev_st (congrArg (fun z => Value.int z :: []) (by rw [if_neg c_1, if_neg c_2])) J
/-- GameTextModel.is(IILjava/lang/String;)Z, its loops -/
def L_144 (N : Nat) (x : Nat) : Nat → Int32 → Nat → Int32 → Int32 → st_S → Option (Int32 × st_S)
  | 0, _, _, _, _, _ => none
  | k + 1, l_1, l_3, l_4, l_5, σ =>
      if l_4 = 0 then
        if (l_4 = 0 ∨ l_4 = 1) then
        some (l_4, σ)
        else none
      else
        (tx_0 l_3).bind fun z_5 =>
        if z_5 ≤ l_5 then
          if (l_4 = 0 ∨ l_4 = 1) then
          some (l_4, σ)
          else none
        else
          (F_138 N x (l_1 + l_5) (σ)).bind fun p_8 =>
          (tx_1 l_3 l_5).bind fun z_9 =>
          L_144 N x k l_1 l_3 (if p_8.1 = z_9 then 1 else 0 : Int32) (l_5 + 1) (p_8.2)
set_option maxRecDepth 100000 in
theorem L_144_R {N : Nat} {x : Nat} : ∀ (k : Nat) (l_1 : Int32) (l_3 : Nat) (l_4 : Int32) (l_5 : Int32) (σ : st_S) (p : Int32 × st_S), L_144 N x k l_1 l_3 l_4 l_5 σ = some p → gR p.2 = gR σ := by
  intro k
  induction k with
  | zero => intro l_1 l_3 l_4 l_5 σ p H; unfold L_144 at H; cases H
  | succ k ih =>
    intro l_1 l_3 l_4 l_5 σ p H
    unfold L_144 at H
    refine F_if H (fun _ H => ?_) (fun _ H => ?_)
    · obtain ⟨_, H⟩ := F_gd H
      obtain rfl := Option.some.inj H
      exact rfl
    · obtain ⟨z_5, G_5, H⟩ := F_bd H
      refine F_if H (fun _ H => ?_) (fun _ H => ?_)
      · obtain ⟨_, H⟩ := F_gd H
        obtain rfl := Option.some.inj H
        exact rfl
      · obtain ⟨p_8, G_8, H⟩ := F_bd H
        obtain ⟨z_9, G_9, H⟩ := F_bd H
        exact (((ih _ _ _ _ _ _ H)).trans ((F_138_R G_8).trans rfl))
set_option maxHeartbeats 4000000 in
set_option maxRecDepth 100000 in
theorem L_144_ok {N d : Nat} {x : Nat} (hx : x = 67 ∨ x = 69) : ∀ k : Nat, ∀ (l_1 : Int32) (l_3 : Nat) (l_4 : Int32) (l_5 : Int32) (σ : st_S) (lv : vz_L) (p : Int32 × st_S), vz_g lv 0 = some (.ref 66) → vz_g lv 1 = some (.int l_1) → vz_g lv 3 = some (.ref (1000000 + l_3)) → vz_g lv 4 = some (.int l_4) → vz_g lv 5 = some (.int l_5) → vz_nbL (vz_gr P0) lv = true → gR σ 66 2 = x → L_144 N x k l_1 l_3 l_4 l_5 σ = some p → vz_ev P0 (d + 8) 144 20 lv [] (hp σ) (.inl (some (.int p.1)), hp p.2) := by
  intro k
  induction k with
  | zero => intro l_1 l_3 l_4 l_5 σ lv p g_0 g_1 g_3 g_4 g_5 hnb hr_66_2 H; unfold L_144 at H; cases H
  | succ k ih =>
    intro l_1 l_3 l_4 l_5 σ lv p g_0 g_1 g_3 g_4 g_5 hnb hr_66_2 H
    unfold L_144 at H
    refine ev_x (i := .iload 4) (len := 2) (p' := 22) (s' := [.int l_4]) rfl rfl (ld_i g_4) ?_
    refine F_if H (fun c_3 H => ?_) (fun c_3 H => ?_)
    · refine ev_b0 (t := 64) (p' := 64) rfl rfl rfl (if_pos c_3) ?_
      refine ev_x (i := .iload 4) (len := 2) (p' := 66) (s' := [.int l_4]) rfl rfl (ld_i g_4) ?_
      obtain ⟨b_4, H⟩ := F_gd H
      obtain rfl := Option.some.inj H
      exact ev_iret rfl rfl rfl (fit_b b_4)
    · refine ev_b0 (t := 64) (p' := 25) rfl rfl rfl (if_neg c_3) ?_
      refine ev_x (i := .iload 5) (len := 2) (p' := 27) (s' := [.int l_5]) rfl rfl (ld_i g_5) ?_
      refine ev_x (i := .aload_n 3) (len := 1) (p' := 28) (s' := [.ref (1000000 + l_3), .int l_5]) rfl rfl (ld_a g_3) ?_
      obtain ⟨z_5, G_5, H⟩ := F_bd H
      refine ev_text (As := []) (a := 1000000 + l_3) (rest := [.int l_5]) (x := z_5) rfl rfl rfl rfl rfl rfl (decide_eq_true (Nat.le_add_right _ _)) (tx_0_ok G_5) ?_
      refine ev_st (st' := [.int z_5, .int l_5]) rfl ?_
      refine ev_pc (pc' := 31) rfl ?_
      refine F_if H (fun c_6 H => ?_) (fun c_6 H => ?_)
      · refine ev_b2 (t := 64) (p' := 64) rfl rfl rfl (if_pos c_6) ?_
        refine ev_x (i := .iload 4) (len := 2) (p' := 66) (s' := [.int l_4]) rfl rfl (ld_i g_4) ?_
        obtain ⟨b_7, H⟩ := F_gd H
        obtain rfl := Option.some.inj H
        exact ev_iret rfl rfl rfl (fit_b b_7)
      · refine ev_b2 (t := 64) (p' := 34) rfl rfl rfl (if_neg c_6) ?_
        refine ev_x (i := .aload_n 0) (len := 1) (p' := 35) (s' := [.ref 66]) rfl rfl (ld_a g_0) ?_
        refine ev_x (i := .iload_n 1) (len := 1) (p' := 36) (s' := [.int l_1, .ref 66]) rfl rfl (ld_i g_1) ?_
        refine ev_x (i := .iload 5) (len := 2) (p' := 38) (s' := [.int l_5, .int l_1, .ref 66]) rfl rfl (ld_i g_5) ?_
        refine ev_x (i := .iadd) (len := 1) (p' := 39) (s' := [.int (l_1 + l_5), .ref 66]) rfl rfl rfl ?_
        obtain ⟨p_8, G_8, H⟩ := F_bd H
        refine ev_cv (d := d + 7) (As := [.int (l_1 + l_5)]) (a := 66) (p' := 42) rfl rfl rfl ly_66 rfl rfl rfl rfl rfl hnb rfl (F_138_ok (d := d + 5) (hx := hx) (hr_66_2 := hr_66_2) G_8) ?_
        refine ev_st (st' := [.int p_8.1]) rfl ?_
        have e_8 := F_138_R G_8
        refine ev_x (i := .aload_n 3) (len := 1) (p' := 43) (s' := [.ref (1000000 + l_3), .int p_8.1]) rfl rfl (ld_a g_3) ?_
        refine ev_x (i := .iload 5) (len := 2) (p' := 45) (s' := [.int l_5, .ref (1000000 + l_3), .int p_8.1]) rfl rfl (ld_i g_5) ?_
        obtain ⟨z_9, G_9, H⟩ := F_bd H
        refine ev_text (As := [.int l_5]) (a := 1000000 + l_3) (rest := [.int p_8.1]) (x := z_9) rfl rfl rfl rfl rfl rfl (decide_eq_true (Nat.le_add_right _ _)) (tx_1_ok G_9) ?_
        refine ev_st (st' := [.int z_9, .int p_8.1]) rfl ?_
        refine ev_pc (pc' := 48) rfl ?_
        refine F_jn (A := vz_ev P0 (d + 8) 144 56 (lv) [.int (if p_8.1 = z_9 then 1 else 0 : Int32)] (hp (p_8.2)) (.inl (some (.int p.1)), hp p.2)) ?_ (fun J => ?_)
        · refine ev_x (i := .istore 4) (len := 2) (p' := 58) (s' := []) (l' := vz_s1 (lv) 4 (.int (if p_8.1 = z_9 then 1 else 0 : Int32))) rfl rfl rfl ?_
          refine ev_x (i := .iinc 5 1) (len := 3) (p' := 61) (s' := []) (l' := vz_s1 (vz_s1 (lv) 4 (.int (if p_8.1 = z_9 then 1 else 0 : Int32))) 5 (.int (l_5 + 1))) rfl rfl (ld_inc (vg_o (i := 4) (v := .int (if p_8.1 = z_9 then 1 else 0 : Int32)) g_5 (by decide) (Or.inl rfl)) rfl) ?_
          refine ev_x (i := .goto (-41)) (len := 3) (p' := 20) (s' := []) rfl rfl rfl ?_
          exact ih _ _ _ _ _ _ _ (vg_o (i := 5) (v := .int (l_5 + 1)) (vg_o (i := 4) (v := .int (if p_8.1 = z_9 then 1 else 0 : Int32)) g_0 (by decide) (Or.inl rfl)) (by decide) (Or.inl rfl)) (vg_o (i := 5) (v := .int (l_5 + 1)) (vg_o (i := 4) (v := .int (if p_8.1 = z_9 then 1 else 0 : Int32)) g_1 (by decide) (Or.inl rfl)) (by decide) (Or.inl rfl)) (vg_o (i := 5) (v := .int (l_5 + 1)) (vg_o (i := 4) (v := .int (if p_8.1 = z_9 then 1 else 0 : Int32)) g_3 (by decide) (Or.inl rfl)) (by decide) (Or.inl rfl)) (vg_o (i := 5) (v := .int (l_5 + 1)) (vg_s (lv) 4 (.int (if p_8.1 = z_9 then 1 else 0 : Int32))) (by decide) (Or.inl rfl)) (vg_s (vz_s1 (lv) 4 (.int (if p_8.1 = z_9 then 1 else 0 : Int32))) 5 (.int (l_5 + 1))) (nb_s1 (nb_s1 hnb rfl) rfl) ((congrFun (congrFun e_8 66) 2).trans hr_66_2) H
        · by_cases c_10 : p_8.1 = z_9
          · refine ev_b2 (t := 55) (p' := 51) rfl rfl rfl (if_neg (fun q => q c_10)) ?_
            refine ev_x (i := .iconst 1) (len := 1) (p' := 52) (s' := [.int 1]) rfl rfl rfl ?_
            refine ev_x (i := .goto 4) (len := 3) (p' := 56) (s' := [.int 1]) rfl rfl rfl ?_
            exact ev_st (congrArg (fun z => Value.int z :: []) (by rw [if_pos c_10])) J
          · refine ev_b2 (t := 55) (p' := 55) rfl rfl rfl (if_pos c_10) ?_
            refine ev_x (i := .iconst 0) (len := 1) (p' := 56) (s' := [.int 0]) rfl rfl rfl ?_
            exact ev_st (congrArg (fun z => Value.int z :: []) (by rw [if_neg c_10])) J
/-- GameTextModel.is(IILjava/lang/String;)Z -/
def F_144 (N : Nat) (x : Nat) (x_1 : Int32) (x_2 : Int32) (x_3 : Nat) (σ : st_S) : Option (Int32 × st_S) :=
  (tx_0 x_3).bind fun z_1 =>
  L_144 N x N x_1 x_3 (if (x_2 - x_1) = z_1 then 1 else 0 : Int32) 0 (σ)
set_option maxRecDepth 100000 in
theorem F_144_R {N : Nat} {x : Nat} {x_1 : Int32} {x_2 : Int32} {x_3 : Nat} {σ : st_S} {p : Int32 × st_S} (H : F_144 N x x_1 x_2 x_3 σ = some p) : gR p.2 = gR σ := by
  unfold F_144 at H
  obtain ⟨z_1, G_1, H⟩ := F_bd H
  exact (((L_144_R _ _ _ _ _ _ _ H)).trans rfl)
set_option maxHeartbeats 4000000 in
set_option maxRecDepth 100000 in
theorem F_144_ok {N d : Nat} {x : Nat} (hx : x = 67 ∨ x = 69) {x_1 : Int32} {x_2 : Int32} {x_3 : Nat} {σ : st_S} {p : Int32 × st_S} (hr_66_2 : gR σ 66 2 = x) (H : F_144 N x x_1 x_2 x_3 σ = some p) : vz_ev P0 (d + 8) 144 0 (lv_args 0 [.ref 66, .int x_1, .int x_2, .ref (1000000 + x_3)]) [] (hp σ) (.inl (some (.int p.1)), hp p.2) := by
  unfold F_144 at H
  refine ev_x (i := .iload_n 2) (len := 1) (p' := 1) (s' := [.int x_2]) rfl rfl rfl ?_
  refine ev_x (i := .iload_n 1) (len := 1) (p' := 2) (s' := [.int x_1, .int x_2]) rfl rfl rfl ?_
  refine ev_x (i := .isub) (len := 1) (p' := 3) (s' := [.int (x_2 - x_1)]) rfl rfl rfl ?_
  refine ev_x (i := .aload_n 3) (len := 1) (p' := 4) (s' := [.ref (1000000 + x_3), .int (x_2 - x_1)]) rfl rfl rfl ?_
  obtain ⟨z_1, G_1, H⟩ := F_bd H
  refine ev_text (As := []) (a := 1000000 + x_3) (rest := [.int (x_2 - x_1)]) (x := z_1) rfl rfl rfl rfl rfl rfl (decide_eq_true (Nat.le_add_right _ _)) (tx_0_ok G_1) ?_
  refine ev_st (st' := [.int z_1, .int (x_2 - x_1)]) rfl ?_
  refine ev_pc (pc' := 7) rfl ?_
  refine F_jn (A := vz_ev P0 (d + 8) 144 15 [(0, .ref 66), (1, .int x_1), (2, .int x_2), (3, .ref (1000000 + x_3))] [.int (if (x_2 - x_1) = z_1 then 1 else 0 : Int32)] (hp (σ)) (.inl (some (.int p.1)), hp p.2)) ?_ (fun J => ?_)
  · refine ev_x (i := .istore 4) (len := 2) (p' := 17) (s' := []) (l' := [(4, .int (if (x_2 - x_1) = z_1 then 1 else 0 : Int32)), (0, .ref 66), (1, .int x_1), (2, .int x_2), (3, .ref (1000000 + x_3))]) rfl rfl rfl ?_
    refine ev_x (i := .iconst 0) (len := 1) (p' := 18) (s' := [.int 0]) rfl rfl rfl ?_
    refine ev_x (i := .istore 5) (len := 2) (p' := 20) (s' := []) (l' := [(5, .int 0), (4, .int (if (x_2 - x_1) = z_1 then 1 else 0 : Int32)), (0, .ref 66), (1, .int x_1), (2, .int x_2), (3, .ref (1000000 + x_3))]) rfl rfl rfl ?_
    exact (L_144_ok (d := d) hx N) _ _ _ _ _ _ _ rfl rfl rfl rfl rfl (nbL_c rfl (nbL_c rfl (nbL_c rfl (nbL_c rfl (nbL_c rfl (nbL_c (nb_tx _) rfl)))))) hr_66_2 H
  · by_cases c_2 : (x_2 - x_1) = z_1
    · refine ev_b2 (t := 14) (p' := 10) rfl rfl rfl (if_neg (fun q => q c_2)) ?_
      refine ev_x (i := .iconst 1) (len := 1) (p' := 11) (s' := [.int 1]) rfl rfl rfl ?_
      refine ev_x (i := .goto 4) (len := 3) (p' := 15) (s' := [.int 1]) rfl rfl rfl ?_
      exact ev_st (congrArg (fun z => Value.int z :: []) (by rw [if_pos c_2])) J
    · refine ev_b2 (t := 14) (p' := 14) rfl rfl rfl (if_pos c_2) ?_
      refine ev_x (i := .iconst 0) (len := 1) (p' := 15) (s' := [.int 0]) rfl rfl rfl ?_
      exact ev_st (congrArg (fun z => Value.int z :: []) (by rw [if_neg c_2])) J
/-- GameTextModel.wordKind(II)I -/
def F_143 (N : Nat) (x : Nat) (x_1 : Int32) (x_2 : Int32) (σ : st_S) : Option (Int32 × st_S) :=
  (F_138 N x x_1 (σ)).bind fun p_1 =>
  if p_1.1 = 98 then
    (F_144 N x x_1 x_2 4 (p_1.2)).bind fun p_3 =>
    some ((if p_3.1 = 0 then 1 else 5 : Int32), p_3.2)
  else
  if p_1.1 = 99 then
    (F_144 N x x_1 x_2 2 (p_1.2)).bind fun p_6 =>
    some ((if p_6.1 = 0 then 1 else 3 : Int32), p_6.2)
  else
  if p_1.1 = 102 then
    (F_144 N x x_1 x_2 5 (p_1.2)).bind fun p_9 =>
    if p_9.1 = 0 then
      (F_144 N x x_1 x_2 6 (p_9.2)).bind fun p_11 =>
      some ((if p_11.1 = 0 then 1 else 13 : Int32), p_11.2)
    else
      some (6, p_9.2)
  else
  if p_1.1 = 105 then
    (F_144 N x x_1 x_2 10 (p_1.2)).bind fun p_14 =>
    some ((if p_14.1 = 0 then 1 else 9 : Int32), p_14.2)
  else
  if p_1.1 = 108 then
    (F_144 N x x_1 x_2 14 (p_1.2)).bind fun p_17 =>
    some ((if p_17.1 = 0 then 1 else 14 : Int32), p_17.2)
  else
  if p_1.1 = 109 then
    (F_144 N x x_1 x_2 7 (p_1.2)).bind fun p_20 =>
    if p_20.1 = 0 then
      (F_144 N x x_1 x_2 8 (p_20.2)).bind fun p_22 =>
      if p_22.1 = 0 then
        (F_144 N x x_1 x_2 9 (p_22.2)).bind fun p_24 =>
        some ((if p_24.1 = 0 then 1 else 15 : Int32), p_24.2)
      else
        some (8, p_22.2)
    else
      some (7, p_20.2)
  else
  if p_1.1 = 115 then
    (F_144 N x x_1 x_2 11 (p_1.2)).bind fun p_27 =>
    some ((if p_27.1 = 0 then 1 else 10 : Int32), p_27.2)
  else
  if p_1.1 = 116 then
    (F_144 N x x_1 x_2 12 (p_1.2)).bind fun p_30 =>
    if p_30.1 = 0 then
      (F_144 N x x_1 x_2 13 (p_30.2)).bind fun p_32 =>
      some ((if p_32.1 = 0 then 1 else 12 : Int32), p_32.2)
    else
      some (11, p_30.2)
  else
  if p_1.1 = 118 then
    (F_144 N x x_1 x_2 3 (p_1.2)).bind fun p_35 =>
    some ((if p_35.1 = 0 then 1 else 4 : Int32), p_35.2)
  else
    some (1, p_1.2)
set_option maxRecDepth 100000 in
theorem F_143_R {N : Nat} {x : Nat} {x_1 : Int32} {x_2 : Int32} {σ : st_S} {p : Int32 × st_S} (H : F_143 N x x_1 x_2 σ = some p) : gR p.2 = gR σ := by
  unfold F_143 at H
  obtain ⟨p_1, G_1, H⟩ := F_bd H
  refine F_if H (fun _ H => ?_) (fun _ H => ?_)
  · obtain ⟨p_3, G_3, H⟩ := F_bd H
    obtain rfl := Option.some.inj H
    exact ((F_144_R G_3).trans ((F_138_R G_1).trans rfl))
  · refine F_if H (fun _ H => ?_) (fun _ H => ?_)
    · obtain ⟨p_6, G_6, H⟩ := F_bd H
      obtain rfl := Option.some.inj H
      exact ((F_144_R G_6).trans ((F_138_R G_1).trans rfl))
    · refine F_if H (fun _ H => ?_) (fun _ H => ?_)
      · obtain ⟨p_9, G_9, H⟩ := F_bd H
        refine F_if H (fun _ H => ?_) (fun _ H => ?_)
        · obtain ⟨p_11, G_11, H⟩ := F_bd H
          obtain rfl := Option.some.inj H
          exact ((F_144_R G_11).trans ((F_144_R G_9).trans ((F_138_R G_1).trans rfl)))
        · obtain rfl := Option.some.inj H
          exact ((F_144_R G_9).trans ((F_138_R G_1).trans rfl))
      · refine F_if H (fun _ H => ?_) (fun _ H => ?_)
        · obtain ⟨p_14, G_14, H⟩ := F_bd H
          obtain rfl := Option.some.inj H
          exact ((F_144_R G_14).trans ((F_138_R G_1).trans rfl))
        · refine F_if H (fun _ H => ?_) (fun _ H => ?_)
          · obtain ⟨p_17, G_17, H⟩ := F_bd H
            obtain rfl := Option.some.inj H
            exact ((F_144_R G_17).trans ((F_138_R G_1).trans rfl))
          · refine F_if H (fun _ H => ?_) (fun _ H => ?_)
            · obtain ⟨p_20, G_20, H⟩ := F_bd H
              refine F_if H (fun _ H => ?_) (fun _ H => ?_)
              · obtain ⟨p_22, G_22, H⟩ := F_bd H
                refine F_if H (fun _ H => ?_) (fun _ H => ?_)
                · obtain ⟨p_24, G_24, H⟩ := F_bd H
                  obtain rfl := Option.some.inj H
                  exact ((F_144_R G_24).trans ((F_144_R G_22).trans ((F_144_R G_20).trans ((F_138_R G_1).trans rfl))))
                · obtain rfl := Option.some.inj H
                  exact ((F_144_R G_22).trans ((F_144_R G_20).trans ((F_138_R G_1).trans rfl)))
              · obtain rfl := Option.some.inj H
                exact ((F_144_R G_20).trans ((F_138_R G_1).trans rfl))
            · refine F_if H (fun _ H => ?_) (fun _ H => ?_)
              · obtain ⟨p_27, G_27, H⟩ := F_bd H
                obtain rfl := Option.some.inj H
                exact ((F_144_R G_27).trans ((F_138_R G_1).trans rfl))
              · refine F_if H (fun _ H => ?_) (fun _ H => ?_)
                · obtain ⟨p_30, G_30, H⟩ := F_bd H
                  refine F_if H (fun _ H => ?_) (fun _ H => ?_)
                  · obtain ⟨p_32, G_32, H⟩ := F_bd H
                    obtain rfl := Option.some.inj H
                    exact ((F_144_R G_32).trans ((F_144_R G_30).trans ((F_138_R G_1).trans rfl)))
                  · obtain rfl := Option.some.inj H
                    exact ((F_144_R G_30).trans ((F_138_R G_1).trans rfl))
                · refine F_if H (fun _ H => ?_) (fun _ H => ?_)
                  · obtain ⟨p_35, G_35, H⟩ := F_bd H
                    obtain rfl := Option.some.inj H
                    exact ((F_144_R G_35).trans ((F_138_R G_1).trans rfl))
                  · obtain rfl := Option.some.inj H
                    exact ((F_138_R G_1).trans rfl)
set_option maxHeartbeats 4000000 in
set_option maxRecDepth 100000 in
theorem F_143_ok {N d : Nat} {x : Nat} (hx : x = 67 ∨ x = 69) {x_1 : Int32} {x_2 : Int32} {σ : st_S} {p : Int32 × st_S} (hr_66_2 : gR σ 66 2 = x) (H : F_143 N x x_1 x_2 σ = some p) : vz_ev P0 (d + 9) 143 0 (lv_args 0 [.ref 66, .int x_1, .int x_2]) [] (hp σ) (.inl (some (.int p.1)), hp p.2) := by
  unfold F_143 at H
  refine ev_x (i := .aload_n 0) (len := 1) (p' := 1) (s' := [.ref 66]) rfl rfl rfl ?_
  refine ev_x (i := .iload_n 1) (len := 1) (p' := 2) (s' := [.int x_1, .ref 66]) rfl rfl rfl ?_
  obtain ⟨p_1, G_1, H⟩ := F_bd H
  refine ev_cv (d := d + 8) (As := [.int x_1]) (a := 66) (p' := 5) rfl rfl rfl ly_66 rfl rfl rfl rfl rfl rfl rfl (F_138_ok (d := d + 6) (hx := hx) (hr_66_2 := hr_66_2) G_1) ?_
  refine ev_st (st' := [.int p_1.1]) rfl ?_
  have e_1 := F_138_R G_1
  refine F_if H (fun c_2 H => ?_) (fun c_2 H => ?_)
  · refine ev_st (st' := [.int 98]) (congrArg (fun z => Value.int z :: []) c_2) ?_
    refine ev_ts (off := 133) (t := 138) rfl rfl (by decide) rfl ?_
    refine ev_x (i := .aload_n 0) (len := 1) (p' := 139) (s' := [.ref 66]) rfl rfl rfl ?_
    refine ev_x (i := .iload_n 1) (len := 1) (p' := 140) (s' := [.int x_1, .ref 66]) rfl rfl rfl ?_
    refine ev_x (i := .iload_n 2) (len := 1) (p' := 141) (s' := [.int x_2, .int x_1, .ref 66]) rfl rfl rfl ?_
    refine ev_x (i := .ldc 171) (len := 2) (p' := 143) (s' := [.ref 1000004, .int x_2, .int x_1, .ref 66]) rfl rfl rfl ?_
    obtain ⟨p_3, G_3, H⟩ := F_bd H
    refine ev_cv (d := d + 8) (As := [.int x_1, .int x_2, .ref 1000004]) (a := 66) (p' := 146) rfl rfl rfl ly_66 rfl rfl rfl rfl rfl rfl rfl (F_144_ok (d := d + 0) (hx := hx) (hr_66_2 := ((congrFun (congrFun e_1 66) 2).trans hr_66_2)) G_3) ?_
    refine ev_st (st' := [.int p_3.1]) rfl ?_
    have e_3 := F_144_R G_3
    refine F_jn (A := vz_ev P0 (d + 9) 143 154 [(0, .ref 66), (1, .int x_1), (2, .int x_2)] [.int (if p_3.1 = 0 then 1 else 5 : Int32)] (hp (p_3.2)) (.inl (some (.int p.1)), hp p.2)) ?_ (fun J => ?_)
    · obtain rfl := Option.some.inj H
      exact ev_iret rfl rfl rfl rfl
    · by_cases c_4 : p_3.1 = 0
      · refine ev_b0 (t := 153) (p' := 153) rfl rfl rfl (if_pos c_4) ?_
        refine ev_x (i := .iconst 1) (len := 1) (p' := 154) (s' := [.int 1]) rfl rfl rfl ?_
        exact ev_st (congrArg (fun z => Value.int z :: []) (by rw [if_pos c_4])) J
      · refine ev_b0 (t := 153) (p' := 149) rfl rfl rfl (if_neg c_4) ?_
        refine ev_x (i := .iconst 5) (len := 1) (p' := 150) (s' := [.int 5]) rfl rfl rfl ?_
        refine ev_x (i := .goto 4) (len := 3) (p' := 154) (s' := [.int 5]) rfl rfl rfl ?_
        exact ev_st (congrArg (fun z => Value.int z :: []) (by rw [if_neg c_4])) J
  · refine F_if H (fun c_5 H => ?_) (fun c_5 H => ?_)
    · refine ev_st (st' := [.int 99]) (congrArg (fun z => Value.int z :: []) c_5) ?_
      refine ev_ts (off := 99) (t := 104) rfl rfl (by decide) rfl ?_
      refine ev_x (i := .aload_n 0) (len := 1) (p' := 105) (s' := [.ref 66]) rfl rfl rfl ?_
      refine ev_x (i := .iload_n 1) (len := 1) (p' := 106) (s' := [.int x_1, .ref 66]) rfl rfl rfl ?_
      refine ev_x (i := .iload_n 2) (len := 1) (p' := 107) (s' := [.int x_2, .int x_1, .ref 66]) rfl rfl rfl ?_
      refine ev_x (i := .ldc 163) (len := 2) (p' := 109) (s' := [.ref 1000002, .int x_2, .int x_1, .ref 66]) rfl rfl rfl ?_
      obtain ⟨p_6, G_6, H⟩ := F_bd H
      refine ev_cv (d := d + 8) (As := [.int x_1, .int x_2, .ref 1000002]) (a := 66) (p' := 112) rfl rfl rfl ly_66 rfl rfl rfl rfl rfl rfl rfl (F_144_ok (d := d + 0) (hx := hx) (hr_66_2 := ((congrFun (congrFun e_1 66) 2).trans hr_66_2)) G_6) ?_
      refine ev_st (st' := [.int p_6.1]) rfl ?_
      have e_6 := F_144_R G_6
      refine F_jn (A := vz_ev P0 (d + 9) 143 120 [(0, .ref 66), (1, .int x_1), (2, .int x_2)] [.int (if p_6.1 = 0 then 1 else 3 : Int32)] (hp (p_6.2)) (.inl (some (.int p.1)), hp p.2)) ?_ (fun J => ?_)
      · obtain rfl := Option.some.inj H
        exact ev_iret rfl rfl rfl rfl
      · by_cases c_7 : p_6.1 = 0
        · refine ev_b0 (t := 119) (p' := 119) rfl rfl rfl (if_pos c_7) ?_
          refine ev_x (i := .iconst 1) (len := 1) (p' := 120) (s' := [.int 1]) rfl rfl rfl ?_
          exact ev_st (congrArg (fun z => Value.int z :: []) (by rw [if_pos c_7])) J
        · refine ev_b0 (t := 119) (p' := 115) rfl rfl rfl (if_neg c_7) ?_
          refine ev_x (i := .iconst 3) (len := 1) (p' := 116) (s' := [.int 3]) rfl rfl rfl ?_
          refine ev_x (i := .goto 4) (len := 3) (p' := 120) (s' := [.int 3]) rfl rfl rfl ?_
          exact ev_st (congrArg (fun z => Value.int z :: []) (by rw [if_neg c_7])) J
    · refine F_if H (fun c_8 H => ?_) (fun c_8 H => ?_)
      · refine ev_st (st' := [.int 102]) (congrArg (fun z => Value.int z :: []) c_8) ?_
        refine ev_ts (off := 150) (t := 155) rfl rfl (by decide) rfl ?_
        refine ev_x (i := .aload_n 0) (len := 1) (p' := 156) (s' := [.ref 66]) rfl rfl rfl ?_
        refine ev_x (i := .iload_n 1) (len := 1) (p' := 157) (s' := [.int x_1, .ref 66]) rfl rfl rfl ?_
        refine ev_x (i := .iload_n 2) (len := 1) (p' := 158) (s' := [.int x_2, .int x_1, .ref 66]) rfl rfl rfl ?_
        refine ev_x (i := .ldc 173) (len := 2) (p' := 160) (s' := [.ref 1000005, .int x_2, .int x_1, .ref 66]) rfl rfl rfl ?_
        obtain ⟨p_9, G_9, H⟩ := F_bd H
        refine ev_cv (d := d + 8) (As := [.int x_1, .int x_2, .ref 1000005]) (a := 66) (p' := 163) rfl rfl rfl ly_66 rfl rfl rfl rfl rfl rfl rfl (F_144_ok (d := d + 0) (hx := hx) (hr_66_2 := ((congrFun (congrFun e_1 66) 2).trans hr_66_2)) G_9) ?_
        refine ev_st (st' := [.int p_9.1]) rfl ?_
        have e_9 := F_144_R G_9
        refine F_if H (fun c_10 H => ?_) (fun c_10 H => ?_)
        · refine ev_b0 (t := 171) (p' := 171) rfl rfl rfl (if_pos c_10) ?_
          refine ev_x (i := .aload_n 0) (len := 1) (p' := 172) (s' := [.ref 66]) rfl rfl rfl ?_
          refine ev_x (i := .iload_n 1) (len := 1) (p' := 173) (s' := [.int x_1, .ref 66]) rfl rfl rfl ?_
          refine ev_x (i := .iload_n 2) (len := 1) (p' := 174) (s' := [.int x_2, .int x_1, .ref 66]) rfl rfl rfl ?_
          refine ev_x (i := .ldc 175) (len := 2) (p' := 176) (s' := [.ref 1000006, .int x_2, .int x_1, .ref 66]) rfl rfl rfl ?_
          obtain ⟨p_11, G_11, H⟩ := F_bd H
          refine ev_cv (d := d + 8) (As := [.int x_1, .int x_2, .ref 1000006]) (a := 66) (p' := 179) rfl rfl rfl ly_66 rfl rfl rfl rfl rfl rfl rfl (F_144_ok (d := d + 0) (hx := hx) (hr_66_2 := ((congrFun (congrFun e_9 66) 2).trans ((congrFun (congrFun e_1 66) 2).trans hr_66_2))) G_11) ?_
          refine ev_st (st' := [.int p_11.1]) rfl ?_
          have e_11 := F_144_R G_11
          refine F_jn (A := vz_ev P0 (d + 9) 143 188 [(0, .ref 66), (1, .int x_1), (2, .int x_2)] [.int (if p_11.1 = 0 then 1 else 13 : Int32)] (hp (p_11.2)) (.inl (some (.int p.1)), hp p.2)) ?_ (fun J => ?_)
          · obtain rfl := Option.some.inj H
            exact ev_iret rfl rfl rfl rfl
          · by_cases c_12 : p_11.1 = 0
            · refine ev_b0 (t := 187) (p' := 187) rfl rfl rfl (if_pos c_12) ?_
              refine ev_x (i := .iconst 1) (len := 1) (p' := 188) (s' := [.int 1]) rfl rfl rfl ?_
              exact ev_st (congrArg (fun z => Value.int z :: []) (by rw [if_pos c_12])) J
            · refine ev_b0 (t := 187) (p' := 182) rfl rfl rfl (if_neg c_12) ?_
              refine ev_x (i := .bipush 13) (len := 2) (p' := 184) (s' := [.int 13]) rfl rfl rfl ?_
              refine ev_x (i := .goto 4) (len := 3) (p' := 188) (s' := [.int 13]) rfl rfl rfl ?_
              exact ev_st (congrArg (fun z => Value.int z :: []) (by rw [if_neg c_12])) J
        · refine ev_b0 (t := 171) (p' := 166) rfl rfl rfl (if_neg c_10) ?_
          refine ev_x (i := .bipush 6) (len := 2) (p' := 168) (s' := [.int 6]) rfl rfl rfl ?_
          refine ev_x (i := .goto 20) (len := 3) (p' := 188) (s' := [.int 6]) rfl rfl rfl ?_
          obtain rfl := Option.some.inj H
          exact ev_iret rfl rfl rfl rfl
      · refine F_if H (fun c_13 H => ?_) (fun c_13 H => ?_)
        · refine ev_st (st' := [.int 105]) (congrArg (fun z => Value.int z :: []) c_13) ?_
          refine ev_ts (off := 234) (t := 239) rfl rfl (by decide) rfl ?_
          refine ev_x (i := .aload_n 0) (len := 1) (p' := 240) (s' := [.ref 66]) rfl rfl rfl ?_
          refine ev_x (i := .iload_n 1) (len := 1) (p' := 241) (s' := [.int x_1, .ref 66]) rfl rfl rfl ?_
          refine ev_x (i := .iload_n 2) (len := 1) (p' := 242) (s' := [.int x_2, .int x_1, .ref 66]) rfl rfl rfl ?_
          refine ev_x (i := .ldc 183) (len := 2) (p' := 244) (s' := [.ref 1000010, .int x_2, .int x_1, .ref 66]) rfl rfl rfl ?_
          obtain ⟨p_14, G_14, H⟩ := F_bd H
          refine ev_cv (d := d + 8) (As := [.int x_1, .int x_2, .ref 1000010]) (a := 66) (p' := 247) rfl rfl rfl ly_66 rfl rfl rfl rfl rfl rfl rfl (F_144_ok (d := d + 0) (hx := hx) (hr_66_2 := ((congrFun (congrFun e_1 66) 2).trans hr_66_2)) G_14) ?_
          refine ev_st (st' := [.int p_14.1]) rfl ?_
          have e_14 := F_144_R G_14
          refine F_jn (A := vz_ev P0 (d + 9) 143 256 [(0, .ref 66), (1, .int x_1), (2, .int x_2)] [.int (if p_14.1 = 0 then 1 else 9 : Int32)] (hp (p_14.2)) (.inl (some (.int p.1)), hp p.2)) ?_ (fun J => ?_)
          · obtain rfl := Option.some.inj H
            exact ev_iret rfl rfl rfl rfl
          · by_cases c_15 : p_14.1 = 0
            · refine ev_b0 (t := 255) (p' := 255) rfl rfl rfl (if_pos c_15) ?_
              refine ev_x (i := .iconst 1) (len := 1) (p' := 256) (s' := [.int 1]) rfl rfl rfl ?_
              exact ev_st (congrArg (fun z => Value.int z :: []) (by rw [if_pos c_15])) J
            · refine ev_b0 (t := 255) (p' := 250) rfl rfl rfl (if_neg c_15) ?_
              refine ev_x (i := .bipush 9) (len := 2) (p' := 252) (s' := [.int 9]) rfl rfl rfl ?_
              refine ev_x (i := .goto 4) (len := 3) (p' := 256) (s' := [.int 9]) rfl rfl rfl ?_
              exact ev_st (congrArg (fun z => Value.int z :: []) (by rw [if_neg c_15])) J
        · refine F_if H (fun c_16 H => ?_) (fun c_16 H => ?_)
          · refine ev_st (st' := [.int 108]) (congrArg (fun z => Value.int z :: []) c_16) ?_
            refine ev_ts (off := 304) (t := 309) rfl rfl (by decide) rfl ?_
            refine ev_x (i := .aload_n 0) (len := 1) (p' := 310) (s' := [.ref 66]) rfl rfl rfl ?_
            refine ev_x (i := .iload_n 1) (len := 1) (p' := 311) (s' := [.int x_1, .ref 66]) rfl rfl rfl ?_
            refine ev_x (i := .iload_n 2) (len := 1) (p' := 312) (s' := [.int x_2, .int x_1, .ref 66]) rfl rfl rfl ?_
            refine ev_x (i := .ldc 191) (len := 2) (p' := 314) (s' := [.ref 1000014, .int x_2, .int x_1, .ref 66]) rfl rfl rfl ?_
            obtain ⟨p_17, G_17, H⟩ := F_bd H
            refine ev_cv (d := d + 8) (As := [.int x_1, .int x_2, .ref 1000014]) (a := 66) (p' := 317) rfl rfl rfl ly_66 rfl rfl rfl rfl rfl rfl rfl (F_144_ok (d := d + 0) (hx := hx) (hr_66_2 := ((congrFun (congrFun e_1 66) 2).trans hr_66_2)) G_17) ?_
            refine ev_st (st' := [.int p_17.1]) rfl ?_
            have e_17 := F_144_R G_17
            refine F_jn (A := vz_ev P0 (d + 9) 143 326 [(0, .ref 66), (1, .int x_1), (2, .int x_2)] [.int (if p_17.1 = 0 then 1 else 14 : Int32)] (hp (p_17.2)) (.inl (some (.int p.1)), hp p.2)) ?_ (fun J => ?_)
            · obtain rfl := Option.some.inj H
              exact ev_iret rfl rfl rfl rfl
            · by_cases c_18 : p_17.1 = 0
              · refine ev_b0 (t := 325) (p' := 325) rfl rfl rfl (if_pos c_18) ?_
                refine ev_x (i := .iconst 1) (len := 1) (p' := 326) (s' := [.int 1]) rfl rfl rfl ?_
                exact ev_st (congrArg (fun z => Value.int z :: []) (by rw [if_pos c_18])) J
              · refine ev_b0 (t := 325) (p' := 320) rfl rfl rfl (if_neg c_18) ?_
                refine ev_x (i := .bipush 14) (len := 2) (p' := 322) (s' := [.int 14]) rfl rfl rfl ?_
                refine ev_x (i := .goto 4) (len := 3) (p' := 326) (s' := [.int 14]) rfl rfl rfl ?_
                exact ev_st (congrArg (fun z => Value.int z :: []) (by rw [if_neg c_18])) J
          · refine F_if H (fun c_19 H => ?_) (fun c_19 H => ?_)
            · refine ev_st (st' := [.int 109]) (congrArg (fun z => Value.int z :: []) c_19) ?_
              refine ev_ts (off := 184) (t := 189) rfl rfl (by decide) rfl ?_
              refine ev_x (i := .aload_n 0) (len := 1) (p' := 190) (s' := [.ref 66]) rfl rfl rfl ?_
              refine ev_x (i := .iload_n 1) (len := 1) (p' := 191) (s' := [.int x_1, .ref 66]) rfl rfl rfl ?_
              refine ev_x (i := .iload_n 2) (len := 1) (p' := 192) (s' := [.int x_2, .int x_1, .ref 66]) rfl rfl rfl ?_
              refine ev_x (i := .ldc 177) (len := 2) (p' := 194) (s' := [.ref 1000007, .int x_2, .int x_1, .ref 66]) rfl rfl rfl ?_
              obtain ⟨p_20, G_20, H⟩ := F_bd H
              refine ev_cv (d := d + 8) (As := [.int x_1, .int x_2, .ref 1000007]) (a := 66) (p' := 197) rfl rfl rfl ly_66 rfl rfl rfl rfl rfl rfl rfl (F_144_ok (d := d + 0) (hx := hx) (hr_66_2 := ((congrFun (congrFun e_1 66) 2).trans hr_66_2)) G_20) ?_
              refine ev_st (st' := [.int p_20.1]) rfl ?_
              have e_20 := F_144_R G_20
              refine F_if H (fun c_21 H => ?_) (fun c_21 H => ?_)
              · refine ev_b0 (t := 205) (p' := 205) rfl rfl rfl (if_pos c_21) ?_
                refine ev_x (i := .aload_n 0) (len := 1) (p' := 206) (s' := [.ref 66]) rfl rfl rfl ?_
                refine ev_x (i := .iload_n 1) (len := 1) (p' := 207) (s' := [.int x_1, .ref 66]) rfl rfl rfl ?_
                refine ev_x (i := .iload_n 2) (len := 1) (p' := 208) (s' := [.int x_2, .int x_1, .ref 66]) rfl rfl rfl ?_
                refine ev_x (i := .ldc 179) (len := 2) (p' := 210) (s' := [.ref 1000008, .int x_2, .int x_1, .ref 66]) rfl rfl rfl ?_
                obtain ⟨p_22, G_22, H⟩ := F_bd H
                refine ev_cv (d := d + 8) (As := [.int x_1, .int x_2, .ref 1000008]) (a := 66) (p' := 213) rfl rfl rfl ly_66 rfl rfl rfl rfl rfl rfl rfl (F_144_ok (d := d + 0) (hx := hx) (hr_66_2 := ((congrFun (congrFun e_20 66) 2).trans ((congrFun (congrFun e_1 66) 2).trans hr_66_2))) G_22) ?_
                refine ev_st (st' := [.int p_22.1]) rfl ?_
                have e_22 := F_144_R G_22
                refine F_if H (fun c_23 H => ?_) (fun c_23 H => ?_)
                · refine ev_b0 (t := 221) (p' := 221) rfl rfl rfl (if_pos c_23) ?_
                  refine ev_x (i := .aload_n 0) (len := 1) (p' := 222) (s' := [.ref 66]) rfl rfl rfl ?_
                  refine ev_x (i := .iload_n 1) (len := 1) (p' := 223) (s' := [.int x_1, .ref 66]) rfl rfl rfl ?_
                  refine ev_x (i := .iload_n 2) (len := 1) (p' := 224) (s' := [.int x_2, .int x_1, .ref 66]) rfl rfl rfl ?_
                  refine ev_x (i := .ldc 181) (len := 2) (p' := 226) (s' := [.ref 1000009, .int x_2, .int x_1, .ref 66]) rfl rfl rfl ?_
                  obtain ⟨p_24, G_24, H⟩ := F_bd H
                  refine ev_cv (d := d + 8) (As := [.int x_1, .int x_2, .ref 1000009]) (a := 66) (p' := 229) rfl rfl rfl ly_66 rfl rfl rfl rfl rfl rfl rfl (F_144_ok (d := d + 0) (hx := hx) (hr_66_2 := ((congrFun (congrFun e_22 66) 2).trans ((congrFun (congrFun e_20 66) 2).trans ((congrFun (congrFun e_1 66) 2).trans hr_66_2)))) G_24) ?_
                  refine ev_st (st' := [.int p_24.1]) rfl ?_
                  have e_24 := F_144_R G_24
                  refine F_jn (A := vz_ev P0 (d + 9) 143 238 [(0, .ref 66), (1, .int x_1), (2, .int x_2)] [.int (if p_24.1 = 0 then 1 else 15 : Int32)] (hp (p_24.2)) (.inl (some (.int p.1)), hp p.2)) ?_ (fun J => ?_)
                  · obtain rfl := Option.some.inj H
                    exact ev_iret rfl rfl rfl rfl
                  · by_cases c_25 : p_24.1 = 0
                    · refine ev_b0 (t := 237) (p' := 237) rfl rfl rfl (if_pos c_25) ?_
                      refine ev_x (i := .iconst 1) (len := 1) (p' := 238) (s' := [.int 1]) rfl rfl rfl ?_
                      exact ev_st (congrArg (fun z => Value.int z :: []) (by rw [if_pos c_25])) J
                    · refine ev_b0 (t := 237) (p' := 232) rfl rfl rfl (if_neg c_25) ?_
                      refine ev_x (i := .bipush 15) (len := 2) (p' := 234) (s' := [.int 15]) rfl rfl rfl ?_
                      refine ev_x (i := .goto 4) (len := 3) (p' := 238) (s' := [.int 15]) rfl rfl rfl ?_
                      exact ev_st (congrArg (fun z => Value.int z :: []) (by rw [if_neg c_25])) J
                · refine ev_b0 (t := 221) (p' := 216) rfl rfl rfl (if_neg c_23) ?_
                  refine ev_x (i := .bipush 8) (len := 2) (p' := 218) (s' := [.int 8]) rfl rfl rfl ?_
                  refine ev_x (i := .goto 20) (len := 3) (p' := 238) (s' := [.int 8]) rfl rfl rfl ?_
                  obtain rfl := Option.some.inj H
                  exact ev_iret rfl rfl rfl rfl
              · refine ev_b0 (t := 205) (p' := 200) rfl rfl rfl (if_neg c_21) ?_
                refine ev_x (i := .bipush 7) (len := 2) (p' := 202) (s' := [.int 7]) rfl rfl rfl ?_
                refine ev_x (i := .goto 36) (len := 3) (p' := 238) (s' := [.int 7]) rfl rfl rfl ?_
                obtain rfl := Option.some.inj H
                exact ev_iret rfl rfl rfl rfl
            · refine F_if H (fun c_26 H => ?_) (fun c_26 H => ?_)
              · refine ev_st (st' := [.int 115]) (congrArg (fun z => Value.int z :: []) c_26) ?_
                refine ev_ts (off := 252) (t := 257) rfl rfl (by decide) rfl ?_
                refine ev_x (i := .aload_n 0) (len := 1) (p' := 258) (s' := [.ref 66]) rfl rfl rfl ?_
                refine ev_x (i := .iload_n 1) (len := 1) (p' := 259) (s' := [.int x_1, .ref 66]) rfl rfl rfl ?_
                refine ev_x (i := .iload_n 2) (len := 1) (p' := 260) (s' := [.int x_2, .int x_1, .ref 66]) rfl rfl rfl ?_
                refine ev_x (i := .ldc 185) (len := 2) (p' := 262) (s' := [.ref 1000011, .int x_2, .int x_1, .ref 66]) rfl rfl rfl ?_
                obtain ⟨p_27, G_27, H⟩ := F_bd H
                refine ev_cv (d := d + 8) (As := [.int x_1, .int x_2, .ref 1000011]) (a := 66) (p' := 265) rfl rfl rfl ly_66 rfl rfl rfl rfl rfl rfl rfl (F_144_ok (d := d + 0) (hx := hx) (hr_66_2 := ((congrFun (congrFun e_1 66) 2).trans hr_66_2)) G_27) ?_
                refine ev_st (st' := [.int p_27.1]) rfl ?_
                have e_27 := F_144_R G_27
                refine F_jn (A := vz_ev P0 (d + 9) 143 274 [(0, .ref 66), (1, .int x_1), (2, .int x_2)] [.int (if p_27.1 = 0 then 1 else 10 : Int32)] (hp (p_27.2)) (.inl (some (.int p.1)), hp p.2)) ?_ (fun J => ?_)
                · obtain rfl := Option.some.inj H
                  exact ev_iret rfl rfl rfl rfl
                · by_cases c_28 : p_27.1 = 0
                  · refine ev_b0 (t := 273) (p' := 273) rfl rfl rfl (if_pos c_28) ?_
                    refine ev_x (i := .iconst 1) (len := 1) (p' := 274) (s' := [.int 1]) rfl rfl rfl ?_
                    exact ev_st (congrArg (fun z => Value.int z :: []) (by rw [if_pos c_28])) J
                  · refine ev_b0 (t := 273) (p' := 268) rfl rfl rfl (if_neg c_28) ?_
                    refine ev_x (i := .bipush 10) (len := 2) (p' := 270) (s' := [.int 10]) rfl rfl rfl ?_
                    refine ev_x (i := .goto 4) (len := 3) (p' := 274) (s' := [.int 10]) rfl rfl rfl ?_
                    exact ev_st (congrArg (fun z => Value.int z :: []) (by rw [if_neg c_28])) J
              · refine F_if H (fun c_29 H => ?_) (fun c_29 H => ?_)
                · refine ev_st (st' := [.int 116]) (congrArg (fun z => Value.int z :: []) c_29) ?_
                  refine ev_ts (off := 270) (t := 275) rfl rfl (by decide) rfl ?_
                  refine ev_x (i := .aload_n 0) (len := 1) (p' := 276) (s' := [.ref 66]) rfl rfl rfl ?_
                  refine ev_x (i := .iload_n 1) (len := 1) (p' := 277) (s' := [.int x_1, .ref 66]) rfl rfl rfl ?_
                  refine ev_x (i := .iload_n 2) (len := 1) (p' := 278) (s' := [.int x_2, .int x_1, .ref 66]) rfl rfl rfl ?_
                  refine ev_x (i := .ldc 187) (len := 2) (p' := 280) (s' := [.ref 1000012, .int x_2, .int x_1, .ref 66]) rfl rfl rfl ?_
                  obtain ⟨p_30, G_30, H⟩ := F_bd H
                  refine ev_cv (d := d + 8) (As := [.int x_1, .int x_2, .ref 1000012]) (a := 66) (p' := 283) rfl rfl rfl ly_66 rfl rfl rfl rfl rfl rfl rfl (F_144_ok (d := d + 0) (hx := hx) (hr_66_2 := ((congrFun (congrFun e_1 66) 2).trans hr_66_2)) G_30) ?_
                  refine ev_st (st' := [.int p_30.1]) rfl ?_
                  have e_30 := F_144_R G_30
                  refine F_if H (fun c_31 H => ?_) (fun c_31 H => ?_)
                  · refine ev_b0 (t := 291) (p' := 291) rfl rfl rfl (if_pos c_31) ?_
                    refine ev_x (i := .aload_n 0) (len := 1) (p' := 292) (s' := [.ref 66]) rfl rfl rfl ?_
                    refine ev_x (i := .iload_n 1) (len := 1) (p' := 293) (s' := [.int x_1, .ref 66]) rfl rfl rfl ?_
                    refine ev_x (i := .iload_n 2) (len := 1) (p' := 294) (s' := [.int x_2, .int x_1, .ref 66]) rfl rfl rfl ?_
                    refine ev_x (i := .ldc 189) (len := 2) (p' := 296) (s' := [.ref 1000013, .int x_2, .int x_1, .ref 66]) rfl rfl rfl ?_
                    obtain ⟨p_32, G_32, H⟩ := F_bd H
                    refine ev_cv (d := d + 8) (As := [.int x_1, .int x_2, .ref 1000013]) (a := 66) (p' := 299) rfl rfl rfl ly_66 rfl rfl rfl rfl rfl rfl rfl (F_144_ok (d := d + 0) (hx := hx) (hr_66_2 := ((congrFun (congrFun e_30 66) 2).trans ((congrFun (congrFun e_1 66) 2).trans hr_66_2))) G_32) ?_
                    refine ev_st (st' := [.int p_32.1]) rfl ?_
                    have e_32 := F_144_R G_32
                    refine F_jn (A := vz_ev P0 (d + 9) 143 308 [(0, .ref 66), (1, .int x_1), (2, .int x_2)] [.int (if p_32.1 = 0 then 1 else 12 : Int32)] (hp (p_32.2)) (.inl (some (.int p.1)), hp p.2)) ?_ (fun J => ?_)
                    · obtain rfl := Option.some.inj H
                      exact ev_iret rfl rfl rfl rfl
                    · by_cases c_33 : p_32.1 = 0
                      · refine ev_b0 (t := 307) (p' := 307) rfl rfl rfl (if_pos c_33) ?_
                        refine ev_x (i := .iconst 1) (len := 1) (p' := 308) (s' := [.int 1]) rfl rfl rfl ?_
                        exact ev_st (congrArg (fun z => Value.int z :: []) (by rw [if_pos c_33])) J
                      · refine ev_b0 (t := 307) (p' := 302) rfl rfl rfl (if_neg c_33) ?_
                        refine ev_x (i := .bipush 12) (len := 2) (p' := 304) (s' := [.int 12]) rfl rfl rfl ?_
                        refine ev_x (i := .goto 4) (len := 3) (p' := 308) (s' := [.int 12]) rfl rfl rfl ?_
                        exact ev_st (congrArg (fun z => Value.int z :: []) (by rw [if_neg c_33])) J
                  · refine ev_b0 (t := 291) (p' := 286) rfl rfl rfl (if_neg c_31) ?_
                    refine ev_x (i := .bipush 11) (len := 2) (p' := 288) (s' := [.int 11]) rfl rfl rfl ?_
                    refine ev_x (i := .goto 20) (len := 3) (p' := 308) (s' := [.int 11]) rfl rfl rfl ?_
                    obtain rfl := Option.some.inj H
                    exact ev_iret rfl rfl rfl rfl
                · refine F_if H (fun c_34 H => ?_) (fun c_34 H => ?_)
                  · refine ev_st (st' := [.int 118]) (congrArg (fun z => Value.int z :: []) c_34) ?_
                    refine ev_ts (off := 116) (t := 121) rfl rfl (by decide) rfl ?_
                    refine ev_x (i := .aload_n 0) (len := 1) (p' := 122) (s' := [.ref 66]) rfl rfl rfl ?_
                    refine ev_x (i := .iload_n 1) (len := 1) (p' := 123) (s' := [.int x_1, .ref 66]) rfl rfl rfl ?_
                    refine ev_x (i := .iload_n 2) (len := 1) (p' := 124) (s' := [.int x_2, .int x_1, .ref 66]) rfl rfl rfl ?_
                    refine ev_x (i := .ldc 169) (len := 2) (p' := 126) (s' := [.ref 1000003, .int x_2, .int x_1, .ref 66]) rfl rfl rfl ?_
                    obtain ⟨p_35, G_35, H⟩ := F_bd H
                    refine ev_cv (d := d + 8) (As := [.int x_1, .int x_2, .ref 1000003]) (a := 66) (p' := 129) rfl rfl rfl ly_66 rfl rfl rfl rfl rfl rfl rfl (F_144_ok (d := d + 0) (hx := hx) (hr_66_2 := ((congrFun (congrFun e_1 66) 2).trans hr_66_2)) G_35) ?_
                    refine ev_st (st' := [.int p_35.1]) rfl ?_
                    have e_35 := F_144_R G_35
                    refine F_jn (A := vz_ev P0 (d + 9) 143 137 [(0, .ref 66), (1, .int x_1), (2, .int x_2)] [.int (if p_35.1 = 0 then 1 else 4 : Int32)] (hp (p_35.2)) (.inl (some (.int p.1)), hp p.2)) ?_ (fun J => ?_)
                    · obtain rfl := Option.some.inj H
                      exact ev_iret rfl rfl rfl rfl
                    · by_cases c_36 : p_35.1 = 0
                      · refine ev_b0 (t := 136) (p' := 136) rfl rfl rfl (if_pos c_36) ?_
                        refine ev_x (i := .iconst 1) (len := 1) (p' := 137) (s' := [.int 1]) rfl rfl rfl ?_
                        exact ev_st (congrArg (fun z => Value.int z :: []) (by rw [if_pos c_36])) J
                      · refine ev_b0 (t := 136) (p' := 132) rfl rfl rfl (if_neg c_36) ?_
                        refine ev_x (i := .iconst 4) (len := 1) (p' := 133) (s' := [.int 4]) rfl rfl rfl ?_
                        refine ev_x (i := .goto 4) (len := 3) (p' := 137) (s' := [.int 4]) rfl rfl rfl ?_
                        exact ev_st (congrArg (fun z => Value.int z :: []) (by rw [if_neg c_36])) J
                  · have n_98 : (98 : Int) ≠ (p_1.1 : Int32).toInt := i32_ne (k := 98) (by decide) c_2
                    have n_99 : (99 : Int) ≠ (p_1.1 : Int32).toInt := i32_ne (k := 99) (by decide) c_5
                    have n_102 : (102 : Int) ≠ (p_1.1 : Int32).toInt := i32_ne (k := 102) (by decide) c_8
                    have n_105 : (105 : Int) ≠ (p_1.1 : Int32).toInt := i32_ne (k := 105) (by decide) c_13
                    have n_108 : (108 : Int) ≠ (p_1.1 : Int32).toInt := i32_ne (k := 108) (by decide) c_16
                    have n_109 : (109 : Int) ≠ (p_1.1 : Int32).toInt := i32_ne (k := 109) (by decide) c_19
                    have n_115 : (115 : Int) ≠ (p_1.1 : Int32).toInt := i32_ne (k := 115) (by decide) c_26
                    have n_116 : (116 : Int) ≠ (p_1.1 : Int32).toInt := i32_ne (k := 116) (by decide) c_29
                    have n_118 : (118 : Int) ≠ (p_1.1 : Int32).toInt := i32_ne (k := 118) (by decide) c_34
                    refine ev_ts (off := 322) (t := 327) rfl rfl ?hsw rfl ?_
                    case hsw =>
                      by_cases hq : (p_1.1 : Int32).toInt < 98 ∨ 118 < (p_1.1 : Int32).toInt
                      · exact if_pos hq
                      · rw [if_neg hq]
                        have hw : (p_1.1 : Int32).toInt = 100 ∨ (p_1.1 : Int32).toInt = 101 ∨ (p_1.1 : Int32).toInt = 103 ∨ (p_1.1 : Int32).toInt = 104 ∨ (p_1.1 : Int32).toInt = 106 ∨ (p_1.1 : Int32).toInt = 107 ∨ (p_1.1 : Int32).toInt = 110 ∨ (p_1.1 : Int32).toInt = 111 ∨ (p_1.1 : Int32).toInt = 112 ∨ (p_1.1 : Int32).toInt = 113 ∨ (p_1.1 : Int32).toInt = 114 ∨ (p_1.1 : Int32).toInt = 117 := by omega
                        rcases hw with hw | hw | hw | hw | hw | hw | hw | hw | hw | hw | hw | hw <;> rw [hw] <;> rfl
                    refine ev_x (i := .iconst 1) (len := 1) (p' := 328) (s' := [.int 1]) rfl rfl rfl ?_
                    obtain rfl := Option.some.inj H
                    exact ev_iret rfl rfl rfl rfl
/-- GameTextModel.signKind(I)I -/
def F_145 (N : Nat) (x : Nat) (x_1 : Int32) (σ : st_S) : Option (Int32 × st_S) :=
  (F_138 N x (x_1 + 1) (σ)).bind fun p_1 =>
  (F_138 N x x_1 (p_1.2)).bind fun p_2 =>
  if p_2.1 = 33 then
    some ((if p_1.1 = 61 then 18 else 31 : Int32), p_2.2)
  else
  if p_2.1 = 37 then
    some (28, p_2.2)
  else
  if p_2.1 = 38 then
    some (29, p_2.2)
  else
  if p_2.1 = 39 then
    some (38, p_2.2)
  else
  if p_2.1 = 40 then
    some (36, p_2.2)
  else
  if p_2.1 = 41 then
    some (37, p_2.2)
  else
  if p_2.1 = 42 then
    some (26, p_2.2)
  else
  if p_2.1 = 43 then
    some (24, p_2.2)
  else
  if p_2.1 = 44 then
    some (35, p_2.2)
  else
  if p_2.1 = 45 then
    some ((if p_1.1 = 62 then 17 else 25 : Int32), p_2.2)
  else
  if p_2.1 = 46 then
    some ((if p_1.1 = 46 then 16 else 39 : Int32), p_2.2)
  else
  if p_2.1 = 47 then
    some (27, p_2.2)
  else
  if p_2.1 = 58 then
    some (33, p_2.2)
  else
  if p_2.1 = 59 then
    some (34, p_2.2)
  else
  if p_2.1 = 60 then
    some ((if p_1.1 = 61 then 19 else 21 : Int32), p_2.2)
  else
  if p_2.1 = 61 then
    some (23, p_2.2)
  else
  if p_2.1 = 62 then
    some ((if p_1.1 = 61 then 20 else 22 : Int32), p_2.2)
  else
  if p_2.1 = 63 then
    some (32, p_2.2)
  else
  if p_2.1 = 124 then
    some (30, p_2.2)
  else
    some (39, p_2.2)
set_option maxRecDepth 100000 in
theorem F_145_R {N : Nat} {x : Nat} {x_1 : Int32} {σ : st_S} {p : Int32 × st_S} (H : F_145 N x x_1 σ = some p) : gR p.2 = gR σ := by
  unfold F_145 at H
  obtain ⟨p_1, G_1, H⟩ := F_bd H
  obtain ⟨p_2, G_2, H⟩ := F_bd H
  refine F_if H (fun _ H => ?_) (fun _ H => ?_)
  · obtain rfl := Option.some.inj H
    exact ((F_138_R G_2).trans ((F_138_R G_1).trans rfl))
  · refine F_if H (fun _ H => ?_) (fun _ H => ?_)
    · obtain rfl := Option.some.inj H
      exact ((F_138_R G_2).trans ((F_138_R G_1).trans rfl))
    · refine F_if H (fun _ H => ?_) (fun _ H => ?_)
      · obtain rfl := Option.some.inj H
        exact ((F_138_R G_2).trans ((F_138_R G_1).trans rfl))
      · refine F_if H (fun _ H => ?_) (fun _ H => ?_)
        · obtain rfl := Option.some.inj H
          exact ((F_138_R G_2).trans ((F_138_R G_1).trans rfl))
        · refine F_if H (fun _ H => ?_) (fun _ H => ?_)
          · obtain rfl := Option.some.inj H
            exact ((F_138_R G_2).trans ((F_138_R G_1).trans rfl))
          · refine F_if H (fun _ H => ?_) (fun _ H => ?_)
            · obtain rfl := Option.some.inj H
              exact ((F_138_R G_2).trans ((F_138_R G_1).trans rfl))
            · refine F_if H (fun _ H => ?_) (fun _ H => ?_)
              · obtain rfl := Option.some.inj H
                exact ((F_138_R G_2).trans ((F_138_R G_1).trans rfl))
              · refine F_if H (fun _ H => ?_) (fun _ H => ?_)
                · obtain rfl := Option.some.inj H
                  exact ((F_138_R G_2).trans ((F_138_R G_1).trans rfl))
                · refine F_if H (fun _ H => ?_) (fun _ H => ?_)
                  · obtain rfl := Option.some.inj H
                    exact ((F_138_R G_2).trans ((F_138_R G_1).trans rfl))
                  · refine F_if H (fun _ H => ?_) (fun _ H => ?_)
                    · obtain rfl := Option.some.inj H
                      exact ((F_138_R G_2).trans ((F_138_R G_1).trans rfl))
                    · refine F_if H (fun _ H => ?_) (fun _ H => ?_)
                      · obtain rfl := Option.some.inj H
                        exact ((F_138_R G_2).trans ((F_138_R G_1).trans rfl))
                      · refine F_if H (fun _ H => ?_) (fun _ H => ?_)
                        · obtain rfl := Option.some.inj H
                          exact ((F_138_R G_2).trans ((F_138_R G_1).trans rfl))
                        · refine F_if H (fun _ H => ?_) (fun _ H => ?_)
                          · obtain rfl := Option.some.inj H
                            exact ((F_138_R G_2).trans ((F_138_R G_1).trans rfl))
                          · refine F_if H (fun _ H => ?_) (fun _ H => ?_)
                            · obtain rfl := Option.some.inj H
                              exact ((F_138_R G_2).trans ((F_138_R G_1).trans rfl))
                            · refine F_if H (fun _ H => ?_) (fun _ H => ?_)
                              · obtain rfl := Option.some.inj H
                                exact ((F_138_R G_2).trans ((F_138_R G_1).trans rfl))
                              · refine F_if H (fun _ H => ?_) (fun _ H => ?_)
                                · obtain rfl := Option.some.inj H
                                  exact ((F_138_R G_2).trans ((F_138_R G_1).trans rfl))
                                · refine F_if H (fun _ H => ?_) (fun _ H => ?_)
                                  · obtain rfl := Option.some.inj H
                                    exact ((F_138_R G_2).trans ((F_138_R G_1).trans rfl))
                                  · refine F_if H (fun _ H => ?_) (fun _ H => ?_)
                                    · obtain rfl := Option.some.inj H
                                      exact ((F_138_R G_2).trans ((F_138_R G_1).trans rfl))
                                    · refine F_if H (fun _ H => ?_) (fun _ H => ?_)
                                      · obtain rfl := Option.some.inj H
                                        exact ((F_138_R G_2).trans ((F_138_R G_1).trans rfl))
                                      · obtain rfl := Option.some.inj H
                                        exact ((F_138_R G_2).trans ((F_138_R G_1).trans rfl))
set_option maxHeartbeats 4000000 in
set_option maxRecDepth 100000 in
theorem F_145_ok {N d : Nat} {x : Nat} (hx : x = 67 ∨ x = 69) {x_1 : Int32} {σ : st_S} {p : Int32 × st_S} (hr_66_2 : gR σ 66 2 = x) (H : F_145 N x x_1 σ = some p) : vz_ev P0 (d + 3) 145 0 (lv_args 0 [.ref 66, .int x_1]) [] (hp σ) (.inl (some (.int p.1)), hp p.2) := by
  unfold F_145 at H
  refine ev_x (i := .aload_n 0) (len := 1) (p' := 1) (s' := [.ref 66]) rfl rfl rfl ?_
  refine ev_x (i := .iload_n 1) (len := 1) (p' := 2) (s' := [.int x_1, .ref 66]) rfl rfl rfl ?_
  refine ev_x (i := .iconst 1) (len := 1) (p' := 3) (s' := [.int 1, .int x_1, .ref 66]) rfl rfl rfl ?_
  refine ev_x (i := .iadd) (len := 1) (p' := 4) (s' := [.int (x_1 + 1), .ref 66]) rfl rfl rfl ?_
  obtain ⟨p_1, G_1, H⟩ := F_bd H
  refine ev_cv (d := d + 2) (As := [.int (x_1 + 1)]) (a := 66) (p' := 7) rfl rfl rfl ly_66 rfl rfl rfl rfl rfl rfl rfl (F_138_ok (d := d + 0) (hx := hx) (hr_66_2 := hr_66_2) G_1) ?_
  refine ev_st (st' := [.int p_1.1]) rfl ?_
  have e_1 := F_138_R G_1
  refine ev_x (i := .istore_n 2) (len := 1) (p' := 8) (s' := []) (l' := [(2, .int p_1.1), (0, .ref 66), (1, .int x_1)]) rfl rfl rfl ?_
  refine ev_x (i := .aload_n 0) (len := 1) (p' := 9) (s' := [.ref 66]) rfl rfl rfl ?_
  refine ev_x (i := .iload_n 1) (len := 1) (p' := 10) (s' := [.int x_1, .ref 66]) rfl rfl rfl ?_
  obtain ⟨p_2, G_2, H⟩ := F_bd H
  refine ev_cv (d := d + 2) (As := [.int x_1]) (a := 66) (p' := 13) rfl rfl rfl ly_66 rfl rfl rfl rfl rfl rfl rfl (F_138_ok (d := d + 0) (hx := hx) (hr_66_2 := ((congrFun (congrFun e_1 66) 2).trans hr_66_2)) G_2) ?_
  refine ev_st (st' := [.int p_2.1]) rfl ?_
  have e_2 := F_138_R G_2
  refine F_if H (fun c_3 H => ?_) (fun c_3 H => ?_)
  · refine ev_st (st' := [.int 33]) (congrArg (fun z => Value.int z :: []) c_3) ?_
    refine ev_ls (t := 204) rfl rfl rfl (by decide) ?_
    refine ev_x (i := .iload_n 2) (len := 1) (p' := 205) (s' := [.int p_1.1]) rfl rfl rfl ?_
    refine ev_x (i := .bipush 61) (len := 2) (p' := 207) (s' := [.int 61, .int p_1.1]) rfl rfl rfl ?_
    refine F_jn (A := vz_ev P0 (d + 3) 145 217 [(2, .int p_1.1), (0, .ref 66), (1, .int x_1)] [.int (if p_1.1 = 61 then 18 else 31 : Int32)] (hp (p_2.2)) (.inl (some (.int p.1)), hp p.2)) ?_ (fun J => ?_)
    · obtain rfl := Option.some.inj H
      exact ev_iret rfl rfl rfl rfl
    · by_cases c_4 : p_1.1 = 61
      · refine ev_b2 (t := 215) (p' := 210) rfl rfl rfl (if_neg (fun q => q c_4)) ?_
        refine ev_x (i := .bipush 18) (len := 2) (p' := 212) (s' := [.int 18]) rfl rfl rfl ?_
        refine ev_x (i := .goto 5) (len := 3) (p' := 217) (s' := [.int 18]) rfl rfl rfl ?_
        exact ev_st (congrArg (fun z => Value.int z :: []) (by rw [if_pos c_4])) J
      · refine ev_b2 (t := 215) (p' := 215) rfl rfl rfl (if_pos c_4) ?_
        refine ev_x (i := .bipush 31) (len := 2) (p' := 217) (s' := [.int 31]) rfl rfl rfl ?_
        exact ev_st (congrArg (fun z => Value.int z :: []) (by rw [if_neg c_4])) J
  · refine F_if H (fun c_5 H => ?_) (fun c_5 H => ?_)
    · refine ev_st (st' := [.int 37]) (congrArg (fun z => Value.int z :: []) c_5) ?_
      refine ev_ls (t := 258) rfl rfl rfl (by decide) ?_
      refine ev_x (i := .bipush 28) (len := 2) (p' := 260) (s' := [.int 28]) rfl rfl rfl ?_
      obtain rfl := Option.some.inj H
      exact ev_iret rfl rfl rfl rfl
    · refine F_if H (fun c_6 H => ?_) (fun c_6 H => ?_)
      · refine ev_st (st' := [.int 38]) (congrArg (fun z => Value.int z :: []) c_6) ?_
        refine ev_ls (t := 261) rfl rfl rfl (by decide) ?_
        refine ev_x (i := .bipush 29) (len := 2) (p' := 263) (s' := [.int 29]) rfl rfl rfl ?_
        obtain rfl := Option.some.inj H
        exact ev_iret rfl rfl rfl rfl
      · refine F_if H (fun c_7 H => ?_) (fun c_7 H => ?_)
        · refine ev_st (st' := [.int 39]) (congrArg (fun z => Value.int z :: []) c_7) ?_
          refine ev_ls (t := 285) rfl rfl rfl (by decide) ?_
          refine ev_x (i := .bipush 38) (len := 2) (p' := 287) (s' := [.int 38]) rfl rfl rfl ?_
          obtain rfl := Option.some.inj H
          exact ev_iret rfl rfl rfl rfl
        · refine F_if H (fun c_8 H => ?_) (fun c_8 H => ?_)
          · refine ev_st (st' := [.int 40]) (congrArg (fun z => Value.int z :: []) c_8) ?_
            refine ev_ls (t := 279) rfl rfl rfl (by decide) ?_
            refine ev_x (i := .bipush 36) (len := 2) (p' := 281) (s' := [.int 36]) rfl rfl rfl ?_
            obtain rfl := Option.some.inj H
            exact ev_iret rfl rfl rfl rfl
          · refine F_if H (fun c_9 H => ?_) (fun c_9 H => ?_)
            · refine ev_st (st' := [.int 41]) (congrArg (fun z => Value.int z :: []) c_9) ?_
              refine ev_ls (t := 282) rfl rfl rfl (by decide) ?_
              refine ev_x (i := .bipush 37) (len := 2) (p' := 284) (s' := [.int 37]) rfl rfl rfl ?_
              obtain rfl := Option.some.inj H
              exact ev_iret rfl rfl rfl rfl
            · refine F_if H (fun c_10 H => ?_) (fun c_10 H => ?_)
              · refine ev_st (st' := [.int 42]) (congrArg (fun z => Value.int z :: []) c_10) ?_
                refine ev_ls (t := 252) rfl rfl rfl (by decide) ?_
                refine ev_x (i := .bipush 26) (len := 2) (p' := 254) (s' := [.int 26]) rfl rfl rfl ?_
                obtain rfl := Option.some.inj H
                exact ev_iret rfl rfl rfl rfl
              · refine F_if H (fun c_11 H => ?_) (fun c_11 H => ?_)
                · refine ev_st (st' := [.int 43]) (congrArg (fun z => Value.int z :: []) c_11) ?_
                  refine ev_ls (t := 249) rfl rfl rfl (by decide) ?_
                  refine ev_x (i := .bipush 24) (len := 2) (p' := 251) (s' := [.int 24]) rfl rfl rfl ?_
                  obtain rfl := Option.some.inj H
                  exact ev_iret rfl rfl rfl rfl
                · refine F_if H (fun c_12 H => ?_) (fun c_12 H => ?_)
                  · refine ev_st (st' := [.int 44]) (congrArg (fun z => Value.int z :: []) c_12) ?_
                    refine ev_ls (t := 276) rfl rfl rfl (by decide) ?_
                    refine ev_x (i := .bipush 35) (len := 2) (p' := 278) (s' := [.int 35]) rfl rfl rfl ?_
                    obtain rfl := Option.some.inj H
                    exact ev_iret rfl rfl rfl rfl
                  · refine F_if H (fun c_13 H => ?_) (fun c_13 H => ?_)
                    · refine ev_st (st' := [.int 45]) (congrArg (fun z => Value.int z :: []) c_13) ?_
                      refine ev_ls (t := 190) rfl rfl rfl (by decide) ?_
                      refine ev_x (i := .iload_n 2) (len := 1) (p' := 191) (s' := [.int p_1.1]) rfl rfl rfl ?_
                      refine ev_x (i := .bipush 62) (len := 2) (p' := 193) (s' := [.int 62, .int p_1.1]) rfl rfl rfl ?_
                      refine F_jn (A := vz_ev P0 (d + 3) 145 203 [(2, .int p_1.1), (0, .ref 66), (1, .int x_1)] [.int (if p_1.1 = 62 then 17 else 25 : Int32)] (hp (p_2.2)) (.inl (some (.int p.1)), hp p.2)) ?_ (fun J => ?_)
                      · obtain rfl := Option.some.inj H
                        exact ev_iret rfl rfl rfl rfl
                      · by_cases c_14 : p_1.1 = 62
                        · refine ev_b2 (t := 201) (p' := 196) rfl rfl rfl (if_neg (fun q => q c_14)) ?_
                          refine ev_x (i := .bipush 17) (len := 2) (p' := 198) (s' := [.int 17]) rfl rfl rfl ?_
                          refine ev_x (i := .goto 5) (len := 3) (p' := 203) (s' := [.int 17]) rfl rfl rfl ?_
                          exact ev_st (congrArg (fun z => Value.int z :: []) (by rw [if_pos c_14])) J
                        · refine ev_b2 (t := 201) (p' := 201) rfl rfl rfl (if_pos c_14) ?_
                          refine ev_x (i := .bipush 25) (len := 2) (p' := 203) (s' := [.int 25]) rfl rfl rfl ?_
                          exact ev_st (congrArg (fun z => Value.int z :: []) (by rw [if_neg c_14])) J
                    · refine F_if H (fun c_15 H => ?_) (fun c_15 H => ?_)
                      · refine ev_st (st' := [.int 46]) (congrArg (fun z => Value.int z :: []) c_15) ?_
                        refine ev_ls (t := 176) rfl rfl rfl (by decide) ?_
                        refine ev_x (i := .iload_n 2) (len := 1) (p' := 177) (s' := [.int p_1.1]) rfl rfl rfl ?_
                        refine ev_x (i := .bipush 46) (len := 2) (p' := 179) (s' := [.int 46, .int p_1.1]) rfl rfl rfl ?_
                        refine F_jn (A := vz_ev P0 (d + 3) 145 189 [(2, .int p_1.1), (0, .ref 66), (1, .int x_1)] [.int (if p_1.1 = 46 then 16 else 39 : Int32)] (hp (p_2.2)) (.inl (some (.int p.1)), hp p.2)) ?_ (fun J => ?_)
                        · obtain rfl := Option.some.inj H
                          exact ev_iret rfl rfl rfl rfl
                        · by_cases c_16 : p_1.1 = 46
                          · refine ev_b2 (t := 187) (p' := 182) rfl rfl rfl (if_neg (fun q => q c_16)) ?_
                            refine ev_x (i := .bipush 16) (len := 2) (p' := 184) (s' := [.int 16]) rfl rfl rfl ?_
                            refine ev_x (i := .goto 5) (len := 3) (p' := 189) (s' := [.int 16]) rfl rfl rfl ?_
                            exact ev_st (congrArg (fun z => Value.int z :: []) (by rw [if_pos c_16])) J
                          · refine ev_b2 (t := 187) (p' := 187) rfl rfl rfl (if_pos c_16) ?_
                            refine ev_x (i := .bipush 39) (len := 2) (p' := 189) (s' := [.int 39]) rfl rfl rfl ?_
                            exact ev_st (congrArg (fun z => Value.int z :: []) (by rw [if_neg c_16])) J
                      · refine F_if H (fun c_17 H => ?_) (fun c_17 H => ?_)
                        · refine ev_st (st' := [.int 47]) (congrArg (fun z => Value.int z :: []) c_17) ?_
                          refine ev_ls (t := 255) rfl rfl rfl (by decide) ?_
                          refine ev_x (i := .bipush 27) (len := 2) (p' := 257) (s' := [.int 27]) rfl rfl rfl ?_
                          obtain rfl := Option.some.inj H
                          exact ev_iret rfl rfl rfl rfl
                        · refine F_if H (fun c_18 H => ?_) (fun c_18 H => ?_)
                          · refine ev_st (st' := [.int 58]) (congrArg (fun z => Value.int z :: []) c_18) ?_
                            refine ev_ls (t := 270) rfl rfl rfl (by decide) ?_
                            refine ev_x (i := .bipush 33) (len := 2) (p' := 272) (s' := [.int 33]) rfl rfl rfl ?_
                            obtain rfl := Option.some.inj H
                            exact ev_iret rfl rfl rfl rfl
                          · refine F_if H (fun c_19 H => ?_) (fun c_19 H => ?_)
                            · refine ev_st (st' := [.int 59]) (congrArg (fun z => Value.int z :: []) c_19) ?_
                              refine ev_ls (t := 273) rfl rfl rfl (by decide) ?_
                              refine ev_x (i := .bipush 34) (len := 2) (p' := 275) (s' := [.int 34]) rfl rfl rfl ?_
                              obtain rfl := Option.some.inj H
                              exact ev_iret rfl rfl rfl rfl
                            · refine F_if H (fun c_20 H => ?_) (fun c_20 H => ?_)
                              · refine ev_st (st' := [.int 60]) (congrArg (fun z => Value.int z :: []) c_20) ?_
                                refine ev_ls (t := 218) rfl rfl rfl (by decide) ?_
                                refine ev_x (i := .iload_n 2) (len := 1) (p' := 219) (s' := [.int p_1.1]) rfl rfl rfl ?_
                                refine ev_x (i := .bipush 61) (len := 2) (p' := 221) (s' := [.int 61, .int p_1.1]) rfl rfl rfl ?_
                                refine F_jn (A := vz_ev P0 (d + 3) 145 231 [(2, .int p_1.1), (0, .ref 66), (1, .int x_1)] [.int (if p_1.1 = 61 then 19 else 21 : Int32)] (hp (p_2.2)) (.inl (some (.int p.1)), hp p.2)) ?_ (fun J => ?_)
                                · obtain rfl := Option.some.inj H
                                  exact ev_iret rfl rfl rfl rfl
                                · by_cases c_21 : p_1.1 = 61
                                  · refine ev_b2 (t := 229) (p' := 224) rfl rfl rfl (if_neg (fun q => q c_21)) ?_
                                    refine ev_x (i := .bipush 19) (len := 2) (p' := 226) (s' := [.int 19]) rfl rfl rfl ?_
                                    refine ev_x (i := .goto 5) (len := 3) (p' := 231) (s' := [.int 19]) rfl rfl rfl ?_
                                    exact ev_st (congrArg (fun z => Value.int z :: []) (by rw [if_pos c_21])) J
                                  · refine ev_b2 (t := 229) (p' := 229) rfl rfl rfl (if_pos c_21) ?_
                                    refine ev_x (i := .bipush 21) (len := 2) (p' := 231) (s' := [.int 21]) rfl rfl rfl ?_
                                    exact ev_st (congrArg (fun z => Value.int z :: []) (by rw [if_neg c_21])) J
                              · refine F_if H (fun c_22 H => ?_) (fun c_22 H => ?_)
                                · refine ev_st (st' := [.int 61]) (congrArg (fun z => Value.int z :: []) c_22) ?_
                                  refine ev_ls (t := 246) rfl rfl rfl (by decide) ?_
                                  refine ev_x (i := .bipush 23) (len := 2) (p' := 248) (s' := [.int 23]) rfl rfl rfl ?_
                                  obtain rfl := Option.some.inj H
                                  exact ev_iret rfl rfl rfl rfl
                                · refine F_if H (fun c_23 H => ?_) (fun c_23 H => ?_)
                                  · refine ev_st (st' := [.int 62]) (congrArg (fun z => Value.int z :: []) c_23) ?_
                                    refine ev_ls (t := 232) rfl rfl rfl (by decide) ?_
                                    refine ev_x (i := .iload_n 2) (len := 1) (p' := 233) (s' := [.int p_1.1]) rfl rfl rfl ?_
                                    refine ev_x (i := .bipush 61) (len := 2) (p' := 235) (s' := [.int 61, .int p_1.1]) rfl rfl rfl ?_
                                    refine F_jn (A := vz_ev P0 (d + 3) 145 245 [(2, .int p_1.1), (0, .ref 66), (1, .int x_1)] [.int (if p_1.1 = 61 then 20 else 22 : Int32)] (hp (p_2.2)) (.inl (some (.int p.1)), hp p.2)) ?_ (fun J => ?_)
                                    · obtain rfl := Option.some.inj H
                                      exact ev_iret rfl rfl rfl rfl
                                    · by_cases c_24 : p_1.1 = 61
                                      · refine ev_b2 (t := 243) (p' := 238) rfl rfl rfl (if_neg (fun q => q c_24)) ?_
                                        refine ev_x (i := .bipush 20) (len := 2) (p' := 240) (s' := [.int 20]) rfl rfl rfl ?_
                                        refine ev_x (i := .goto 5) (len := 3) (p' := 245) (s' := [.int 20]) rfl rfl rfl ?_
                                        exact ev_st (congrArg (fun z => Value.int z :: []) (by rw [if_pos c_24])) J
                                      · refine ev_b2 (t := 243) (p' := 243) rfl rfl rfl (if_pos c_24) ?_
                                        refine ev_x (i := .bipush 22) (len := 2) (p' := 245) (s' := [.int 22]) rfl rfl rfl ?_
                                        exact ev_st (congrArg (fun z => Value.int z :: []) (by rw [if_neg c_24])) J
                                  · refine F_if H (fun c_25 H => ?_) (fun c_25 H => ?_)
                                    · refine ev_st (st' := [.int 63]) (congrArg (fun z => Value.int z :: []) c_25) ?_
                                      refine ev_ls (t := 267) rfl rfl rfl (by decide) ?_
                                      refine ev_x (i := .bipush 32) (len := 2) (p' := 269) (s' := [.int 32]) rfl rfl rfl ?_
                                      obtain rfl := Option.some.inj H
                                      exact ev_iret rfl rfl rfl rfl
                                    · refine F_if H (fun c_26 H => ?_) (fun c_26 H => ?_)
                                      · refine ev_st (st' := [.int 124]) (congrArg (fun z => Value.int z :: []) c_26) ?_
                                        refine ev_ls (t := 264) rfl rfl rfl (by decide) ?_
                                        refine ev_x (i := .bipush 30) (len := 2) (p' := 266) (s' := [.int 30]) rfl rfl rfl ?_
                                        obtain rfl := Option.some.inj H
                                        exact ev_iret rfl rfl rfl rfl
                                      · refine ev_ls (t := 288) rfl rfl rfl (ls_go ((ls_ne (i32_ne (k := 33) (by decide) c_3)).trans ((ls_ne (i32_ne (k := 37) (by decide) c_5)).trans ((ls_ne (i32_ne (k := 38) (by decide) c_6)).trans ((ls_ne (i32_ne (k := 39) (by decide) c_7)).trans ((ls_ne (i32_ne (k := 40) (by decide) c_8)).trans ((ls_ne (i32_ne (k := 41) (by decide) c_9)).trans ((ls_ne (i32_ne (k := 42) (by decide) c_10)).trans ((ls_ne (i32_ne (k := 43) (by decide) c_11)).trans ((ls_ne (i32_ne (k := 44) (by decide) c_12)).trans ((ls_ne (i32_ne (k := 45) (by decide) c_13)).trans ((ls_ne (i32_ne (k := 46) (by decide) c_15)).trans ((ls_ne (i32_ne (k := 47) (by decide) c_17)).trans ((ls_ne (i32_ne (k := 58) (by decide) c_18)).trans ((ls_ne (i32_ne (k := 59) (by decide) c_19)).trans ((ls_ne (i32_ne (k := 60) (by decide) c_20)).trans ((ls_ne (i32_ne (k := 61) (by decide) c_22)).trans ((ls_ne (i32_ne (k := 62) (by decide) c_23)).trans ((ls_ne (i32_ne (k := 63) (by decide) c_25)).trans ((ls_ne (i32_ne (k := 124) (by decide) c_26)).trans rfl))))))))))))))))))) rfl) ?_
                                        refine ev_x (i := .bipush 39) (len := 2) (p' := 290) (s' := [.int 39]) rfl rfl rfl ?_
                                        obtain rfl := Option.some.inj H
                                        exact ev_iret rfl rfl rfl rfl
/-- GameTextModel.word(III)V -/
def F_146 (N : Nat) (x_1 : Int32) (x_2 : Int32) (x_3 : Int32) (σ : st_S) : Option (st_S) :=
  (N_133 N 71 x_1 (σ)).bind fun p_1 =>
  (N_133 N 73 x_2 (p_1)).bind fun p_2 =>
  (N_133 N 75 x_3 (p_2)).bind fun p_3 =>
  some (p_3)
set_option maxRecDepth 100000 in
theorem F_146_R {N : Nat} {x_1 : Int32} {x_2 : Int32} {x_3 : Int32} {σ : st_S} {p : st_S} (H : F_146 N x_1 x_2 x_3 σ = some p) : gR p = gR σ := by
  unfold F_146 at H
  obtain ⟨p_1, G_1, H⟩ := F_bd H
  obtain ⟨p_2, G_2, H⟩ := F_bd H
  obtain ⟨p_3, G_3, H⟩ := F_bd H
  obtain rfl := Option.some.inj H
  exact ((N_133_R G_3).trans ((N_133_R G_2).trans ((N_133_R G_1).trans rfl)))
set_option maxHeartbeats 4000000 in
set_option maxRecDepth 100000 in
theorem F_146_ok {N d : Nat} {x_1 : Int32} {x_2 : Int32} {x_3 : Int32} {σ : st_S} {p : st_S}  (H : F_146 N x_1 x_2 x_3 σ = some p) : vz_ev P0 (d + 2) 146 0 (lv_args 0 [.ref 66, .int x_1, .int x_2, .int x_3]) [] (hp σ) (.inl none, hp p) := by
  unfold F_146 at H
  refine ev_x (i := .aload_n 0) (len := 1) (p' := 1) (s' := [.ref 66]) rfl rfl rfl ?_
  refine ev_gc (p' := 4) (v := 71) rfl rfl rfl ly_66 rfl rfl ?_
  refine ev_x (i := .iload_n 1) (len := 1) (p' := 5) (s' := [.int x_1, .ref 71]) rfl rfl rfl ?_
  obtain ⟨p_1, G_1, H⟩ := F_bd H
  refine ev_cv (d := d + 1) (As := [.int x_1]) (a := 71) (p' := 8) rfl rfl rfl ly_71 rfl rfl rfl rfl rfl rfl rfl (N_133_ok (d := d + 0) nm_71 G_1) ?_
  refine ev_st (st' := []) rfl ?_
  have e_1 := N_133_R G_1
  refine ev_x (i := .aload_n 0) (len := 1) (p' := 9) (s' := [.ref 66]) rfl rfl rfl ?_
  refine ev_gc (p' := 12) (v := 73) rfl rfl rfl ly_66 rfl rfl ?_
  refine ev_x (i := .iload_n 2) (len := 1) (p' := 13) (s' := [.int x_2, .ref 73]) rfl rfl rfl ?_
  obtain ⟨p_2, G_2, H⟩ := F_bd H
  refine ev_cv (d := d + 1) (As := [.int x_2]) (a := 73) (p' := 16) rfl rfl rfl ly_73 rfl rfl rfl rfl rfl rfl rfl (N_133_ok (d := d + 0) nm_73 G_2) ?_
  refine ev_st (st' := []) rfl ?_
  have e_2 := N_133_R G_2
  refine ev_x (i := .aload_n 0) (len := 1) (p' := 17) (s' := [.ref 66]) rfl rfl rfl ?_
  refine ev_gc (p' := 20) (v := 75) rfl rfl rfl ly_66 rfl rfl ?_
  refine ev_x (i := .iload_n 3) (len := 1) (p' := 21) (s' := [.int x_3, .ref 75]) rfl rfl rfl ?_
  obtain ⟨p_3, G_3, H⟩ := F_bd H
  refine ev_cv (d := d + 1) (As := [.int x_3]) (a := 75) (p' := 24) rfl rfl rfl ly_75 rfl rfl rfl rfl rfl rfl rfl (N_133_ok (d := d + 0) nm_75 G_3) ?_
  refine ev_st (st' := []) rfl ?_
  have e_3 := N_133_R G_3
  obtain rfl := Option.some.inj H
  exact ev_vret rfl rfl rfl
/-- GameTextModel.cut()V, from 240 -/
def J_136_240 (N : Nat) (x : Nat) (l_2 : Int32) (σ : st_S) : Option (st_S) :=
  if l_2 = 0 then
    some (σ)
  else
    (F_146 N 0 (gI σ x 1) (gI σ x 1) (σ)).bind fun p_40 =>
    some (p_40)
set_option maxRecDepth 100000 in
theorem J_136_240_R {N : Nat} {x : Nat} {l_2 : Int32} {σ : st_S} {p : st_S} (H : J_136_240 N x l_2 σ = some p) : gR p = gR σ := by
  unfold J_136_240 at H
  refine F_if H (fun _ H => ?_) (fun _ H => ?_)
  · obtain rfl := Option.some.inj H
    exact rfl
  · obtain ⟨p_40, G_40, H⟩ := F_bd H
    obtain rfl := Option.some.inj H
    exact ((F_146_R G_40).trans rfl)
set_option maxHeartbeats 4000000 in
set_option maxRecDepth 100000 in
theorem J_136_240_ok {N d : Nat} {x : Nat} (hx : x = 67 ∨ x = 69) {l_2 : Int32} {σ : st_S} {lv : vz_L} {p : st_S} (g_0 : vz_g lv 0 = some (.ref 66)) (g_2 : vz_g lv 2 = some (.int l_2)) (hnb : vz_nbL (vz_gr P0) lv = true) (hr_66_2 : gR σ 66 2 = x) (H : J_136_240 N x l_2 σ = some p) : vz_ev P0 (d + 10) 136 240 lv [] (hp σ) (.inl none, hp p) := by
  unfold J_136_240 at H
  rcases hx with rfl | rfl
  · refine ev_x (i := .iload_n 2) (len := 1) (p' := 241) (s' := [.int l_2]) rfl rfl (ld_i g_2) ?_
    refine F_if H (fun c_39 H => ?_) (fun c_39 H => ?_)
    · refine ev_b0 (t := 263) (p' := 263) rfl rfl rfl (if_pos c_39) ?_
      obtain rfl := Option.some.inj H
      exact ev_vret rfl rfl rfl
    · refine ev_b0 (t := 263) (p' := 244) rfl rfl rfl (if_neg c_39) ?_
      refine ev_x (i := .aload_n 0) (len := 1) (p' := 245) (s' := [.ref 66]) rfl rfl (ld_a g_0) ?_
      refine ev_x (i := .iconst 0) (len := 1) (p' := 246) (s' := [.int 0, .ref 66]) rfl rfl rfl ?_
      refine ev_x (i := .aload_n 0) (len := 1) (p' := 247) (s' := [.ref 66, .int 0, .ref 66]) rfl rfl (ld_a g_0) ?_
      refine ev_gr (p' := 250) (v := 67) rfl rfl rfl ly_66 rfl rfl hr_66_2 ?_
      refine ev_gi (p' := 253) (v := (gI σ 67 1)) rfl rfl rfl ly_67 rfl rfl rfl ?_
      refine ev_x (i := .aload_n 0) (len := 1) (p' := 254) (s' := [.ref 66, .int (gI σ 67 1), .int 0, .ref 66]) rfl rfl (ld_a g_0) ?_
      refine ev_gr (p' := 257) (v := 67) rfl rfl rfl ly_66 rfl rfl hr_66_2 ?_
      refine ev_gi (p' := 260) (v := (gI σ 67 1)) rfl rfl rfl ly_67 rfl rfl rfl ?_
      obtain ⟨p_40, G_40, H⟩ := F_bd H
      refine ev_cv (d := d + 9) (As := [.int 0, .int (gI σ 67 1), .int (gI σ 67 1)]) (a := 66) (p' := 263) rfl rfl rfl ly_66 rfl rfl rfl rfl rfl hnb rfl (F_146_ok (d := d + 7)   G_40) ?_
      refine ev_st (st' := []) rfl ?_
      have e_40 := F_146_R G_40
      obtain rfl := Option.some.inj H
      exact ev_vret rfl rfl rfl
  · refine ev_x (i := .iload_n 2) (len := 1) (p' := 241) (s' := [.int l_2]) rfl rfl (ld_i g_2) ?_
    refine F_if H (fun c_39 H => ?_) (fun c_39 H => ?_)
    · refine ev_b0 (t := 263) (p' := 263) rfl rfl rfl (if_pos c_39) ?_
      obtain rfl := Option.some.inj H
      exact ev_vret rfl rfl rfl
    · refine ev_b0 (t := 263) (p' := 244) rfl rfl rfl (if_neg c_39) ?_
      refine ev_x (i := .aload_n 0) (len := 1) (p' := 245) (s' := [.ref 66]) rfl rfl (ld_a g_0) ?_
      refine ev_x (i := .iconst 0) (len := 1) (p' := 246) (s' := [.int 0, .ref 66]) rfl rfl rfl ?_
      refine ev_x (i := .aload_n 0) (len := 1) (p' := 247) (s' := [.ref 66, .int 0, .ref 66]) rfl rfl (ld_a g_0) ?_
      refine ev_gr (p' := 250) (v := 69) rfl rfl rfl ly_66 rfl rfl hr_66_2 ?_
      refine ev_gi (p' := 253) (v := (gI σ 69 1)) rfl rfl rfl ly_69 rfl rfl rfl ?_
      refine ev_x (i := .aload_n 0) (len := 1) (p' := 254) (s' := [.ref 66, .int (gI σ 69 1), .int 0, .ref 66]) rfl rfl (ld_a g_0) ?_
      refine ev_gr (p' := 257) (v := 69) rfl rfl rfl ly_66 rfl rfl hr_66_2 ?_
      refine ev_gi (p' := 260) (v := (gI σ 69 1)) rfl rfl rfl ly_69 rfl rfl rfl ?_
      obtain ⟨p_40, G_40, H⟩ := F_bd H
      refine ev_cv (d := d + 9) (As := [.int 0, .int (gI σ 69 1), .int (gI σ 69 1)]) (a := 66) (p' := 263) rfl rfl rfl ly_66 rfl rfl rfl rfl rfl hnb rfl (F_146_ok (d := d + 7)   G_40) ?_
      refine ev_st (st' := []) rfl ?_
      have e_40 := F_146_R G_40
      obtain rfl := Option.some.inj H
      exact ev_vret rfl rfl rfl
/-- GameTextModel.cut()V, its loops -/
def L_136 (N : Nat) (x : Nat) : Nat → Nat → Int32 → Int32 → Int32 → st_S → Option (st_S)
  | 0, _, _, _, _, _ => none
  | k + 1, w, l_1, l_2, l_3, σ =>
    if w = 32 then
      if l_2 = 0 then
        J_136_240 N x l_2 (σ)
      else
        if (gI σ x 1) ≤ l_1 then
          J_136_240 N x l_2 (σ)
        else
          (F_138 N x l_1 (σ)).bind fun p_4 =>
          (F_141 N p_4.1 (p_4.2)).bind fun p_5 =>
          if p_5.1 = 0 then
            (F_138 N x l_1 (p_5.2)).bind fun p_7 =>
            (F_142 N p_7.1 (p_7.2)).bind fun p_8 =>
            if p_8.1 = 0 then
              (F_145 N x l_1 (p_8.2)).bind fun p_10 =>
              (F_146 N p_10.1 l_1 (l_1 + (if (if p_10.1 < 16 then 0 else (if 20 < p_10.1 then 0 else 1) : Int32) = 0 then 1 else 2 : Int32)) (p_10.2)).bind fun p_14 =>
              (F_137 N x (l_1 + (if (if p_10.1 < 16 then 0 else (if 20 < p_10.1 then 0 else 1) : Int32) = 0 then 1 else 2 : Int32)) (p_14)).bind fun p_16 =>
              L_136 N x k 32 p_16.1 (if p_10.1 = 39 then 0 else 1 : Int32) 0 (p_16.2)
            else
              L_136 N x k 133 l_1 0 l_1 (p_8.2)
          else
            L_136 N x k 60 l_1 0 l_1 (p_5.2)
    else
    if w = 60 then
      (F_138 N x l_3 (σ)).bind fun p_17 =>
      (F_141 N p_17.1 (p_17.2)).bind fun p_18 =>
      if p_18.1 = 0 then
        (F_138 N x l_3 (p_18.2)).bind fun p_20 =>
        (F_142 N p_20.1 (p_20.2)).bind fun p_21 =>
        if p_21.1 = 0 then
          (F_138 N x l_3 (p_21.2)).bind fun p_23 =>
          if p_23.1 = 95 then
            L_136 N x k 60 l_1 0 (l_3 + 1) (p_23.2)
          else
            if (l_3 - l_1) ≤ 40 then
              (F_143 N x l_1 l_3 (p_23.2)).bind fun p_26 =>
              (F_146 N p_26.1 l_1 l_3 (p_26.2)).bind fun p_27 =>
              (F_137 N x l_3 (p_27)).bind fun p_29 =>
              L_136 N x k 32 p_29.1 (if p_26.1 = 39 then 0 else 1 : Int32) 0 (p_29.2)
            else
              (F_146 N 39 l_1 l_3 (p_23.2)).bind fun p_30 =>
              (F_137 N x l_3 (p_30)).bind fun p_31 =>
              L_136 N x k 32 p_31.1 0 0 (p_31.2)
        else
          L_136 N x k 60 l_1 0 (l_3 + 1) (p_21.2)
      else
        L_136 N x k 60 l_1 0 (l_3 + 1) (p_18.2)
    else
      (F_138 N x l_3 (σ)).bind fun p_32 =>
      (F_142 N p_32.1 (p_32.2)).bind fun p_33 =>
      if p_33.1 = 0 then
        (F_146 N (if (l_3 - l_1) ≤ 9 then 2 else 39 : Int32) l_1 l_3 (p_33.2)).bind fun p_36 =>
        (F_137 N x l_3 (p_36)).bind fun p_38 =>
        L_136 N x k 32 p_38.1 (if (if (l_3 - l_1) ≤ 9 then 2 else 39 : Int32) = 39 then 0 else 1 : Int32) 0 (p_38.2)
      else
        L_136 N x k 133 l_1 0 (l_3 + 1) (p_33.2)
set_option maxRecDepth 100000 in
theorem L_136_R {N : Nat} {x : Nat} : ∀ (k : Nat) (w : Nat) (l_1 : Int32) (l_2 : Int32) (l_3 : Int32) (σ : st_S) (p : st_S), L_136 N x k w l_1 l_2 l_3 σ = some p → gR p = gR σ := by
  intro k
  induction k with
  | zero => intro w l_1 l_2 l_3 σ p H; unfold L_136 at H; cases H
  | succ k ih =>
    intro w l_1 l_2 l_3 σ p H
    unfold L_136 at H
    refine F_if H (fun _ H => ?_) (fun _ H => ?_)
    · refine F_if H (fun _ H => ?_) (fun _ H => ?_)
      · exact (((J_136_240_R H)).trans rfl)
      · refine F_if H (fun _ H => ?_) (fun _ H => ?_)
        · exact (((J_136_240_R H)).trans rfl)
        · obtain ⟨p_4, G_4, H⟩ := F_bd H
          obtain ⟨p_5, G_5, H⟩ := F_bd H
          refine F_if H (fun _ H => ?_) (fun _ H => ?_)
          · obtain ⟨p_7, G_7, H⟩ := F_bd H
            obtain ⟨p_8, G_8, H⟩ := F_bd H
            refine F_if H (fun _ H => ?_) (fun _ H => ?_)
            · obtain ⟨p_10, G_10, H⟩ := F_bd H
              obtain ⟨p_14, G_14, H⟩ := F_bd H
              obtain ⟨p_16, G_16, H⟩ := F_bd H
              exact (((ih _ _ _ _ _ _ H)).trans ((F_137_R G_16).trans ((F_146_R G_14).trans ((F_145_R G_10).trans ((F_142_R G_8).trans ((F_138_R G_7).trans ((F_141_R G_5).trans ((F_138_R G_4).trans rfl))))))))
            · exact (((ih _ _ _ _ _ _ H)).trans ((F_142_R G_8).trans ((F_138_R G_7).trans ((F_141_R G_5).trans ((F_138_R G_4).trans rfl)))))
          · exact (((ih _ _ _ _ _ _ H)).trans ((F_141_R G_5).trans ((F_138_R G_4).trans rfl)))
    · skip
      refine F_if H (fun _ H => ?_) (fun _ H => ?_)
      · obtain ⟨p_17, G_17, H⟩ := F_bd H
        obtain ⟨p_18, G_18, H⟩ := F_bd H
        refine F_if H (fun _ H => ?_) (fun _ H => ?_)
        · obtain ⟨p_20, G_20, H⟩ := F_bd H
          obtain ⟨p_21, G_21, H⟩ := F_bd H
          refine F_if H (fun _ H => ?_) (fun _ H => ?_)
          · obtain ⟨p_23, G_23, H⟩ := F_bd H
            refine F_if H (fun _ H => ?_) (fun _ H => ?_)
            · exact (((ih _ _ _ _ _ _ H)).trans ((F_138_R G_23).trans ((F_142_R G_21).trans ((F_138_R G_20).trans ((F_141_R G_18).trans ((F_138_R G_17).trans rfl))))))
            · refine F_if H (fun _ H => ?_) (fun _ H => ?_)
              · obtain ⟨p_26, G_26, H⟩ := F_bd H
                obtain ⟨p_27, G_27, H⟩ := F_bd H
                obtain ⟨p_29, G_29, H⟩ := F_bd H
                exact (((ih _ _ _ _ _ _ H)).trans ((F_137_R G_29).trans ((F_146_R G_27).trans ((F_143_R G_26).trans ((F_138_R G_23).trans ((F_142_R G_21).trans ((F_138_R G_20).trans ((F_141_R G_18).trans ((F_138_R G_17).trans rfl)))))))))
              · obtain ⟨p_30, G_30, H⟩ := F_bd H
                obtain ⟨p_31, G_31, H⟩ := F_bd H
                exact (((ih _ _ _ _ _ _ H)).trans ((F_137_R G_31).trans ((F_146_R G_30).trans ((F_138_R G_23).trans ((F_142_R G_21).trans ((F_138_R G_20).trans ((F_141_R G_18).trans ((F_138_R G_17).trans rfl))))))))
          · exact (((ih _ _ _ _ _ _ H)).trans ((F_142_R G_21).trans ((F_138_R G_20).trans ((F_141_R G_18).trans ((F_138_R G_17).trans rfl)))))
        · exact (((ih _ _ _ _ _ _ H)).trans ((F_141_R G_18).trans ((F_138_R G_17).trans rfl)))
      · skip
        obtain ⟨p_32, G_32, H⟩ := F_bd H
        obtain ⟨p_33, G_33, H⟩ := F_bd H
        refine F_if H (fun _ H => ?_) (fun _ H => ?_)
        · obtain ⟨p_36, G_36, H⟩ := F_bd H
          obtain ⟨p_38, G_38, H⟩ := F_bd H
          exact (((ih _ _ _ _ _ _ H)).trans ((F_137_R G_38).trans ((F_146_R G_36).trans ((F_142_R G_33).trans ((F_138_R G_32).trans rfl)))))
        · exact (((ih _ _ _ _ _ _ H)).trans ((F_142_R G_33).trans ((F_138_R G_32).trans rfl)))
set_option maxHeartbeats 4000000 in
set_option maxRecDepth 100000 in
theorem L_136_ok {N d : Nat} {x : Nat} (hx : x = 67 ∨ x = 69) : ∀ k : Nat, (∀ (l_1 : Int32) (l_2 : Int32) (l_3 : Int32) (σ : st_S) (lv : vz_L) (p : st_S), vz_g lv 0 = some (.ref 66) → vz_g lv 1 = some (.int l_1) → vz_g lv 2 = some (.int l_2) → vz_nbL (vz_gr P0) lv = true → gR σ 66 2 = x → L_136 N x k 32 l_1 l_2 l_3 σ = some p → vz_ev P0 (d + 10) 136 32 lv [] (hp σ) (.inl none, hp p)) ∧ (∀ (l_1 : Int32) (l_2 : Int32) (l_3 : Int32) (σ : st_S) (lv : vz_L) (p : st_S), vz_g lv 0 = some (.ref 66) → vz_g lv 1 = some (.int l_1) → vz_g lv 3 = some (.int l_3) → vz_nbL (vz_gr P0) lv = true → gR σ 66 2 = x → L_136 N x k 60 l_1 l_2 l_3 σ = some p → vz_ev P0 (d + 10) 136 60 lv [] (hp σ) (.inl none, hp p)) ∧ (∀ (l_1 : Int32) (l_2 : Int32) (l_3 : Int32) (σ : st_S) (lv : vz_L) (p : st_S), vz_g lv 0 = some (.ref 66) → vz_g lv 1 = some (.int l_1) → vz_g lv 3 = some (.int l_3) → vz_nbL (vz_gr P0) lv = true → gR σ 66 2 = x → L_136 N x k 133 l_1 l_2 l_3 σ = some p → vz_ev P0 (d + 10) 136 133 lv [] (hp σ) (.inl none, hp p)) := by
  rcases hx with rfl | rfl
  · intro k
    induction k with
    | zero => exact ⟨(by intro l_1 l_2 l_3 σ lv p g_0 g_1 g_2 hnb hr_66_2 H; unfold L_136 at H; cases H), (by intro l_1 l_2 l_3 σ lv p g_0 g_1 g_3 hnb hr_66_2 H; unfold L_136 at H; cases H), (by intro l_1 l_2 l_3 σ lv p g_0 g_1 g_3 hnb hr_66_2 H; unfold L_136 at H; cases H)⟩
    | succ k ih =>
      refine ⟨?_, ?_, ?_⟩
      · intro l_1 l_2 l_3 σ lv p g_0 g_1 g_2 hnb hr_66_2 H
        unfold L_136 at H
        rw [if_pos rfl] at H
        refine ev_x (i := .iload_n 2) (len := 1) (p' := 33) (s' := [.int l_2]) rfl rfl (ld_i g_2) ?_
        refine F_if H (fun c_2 H => ?_) (fun c_2 H => ?_)
        · refine ev_b0 (t := 240) (p' := 240) rfl rfl rfl (if_pos c_2) ?_
          exact J_136_240_ok (d := d) (Or.inl rfl) g_0 g_2 hnb hr_66_2 H
        · refine ev_b0 (t := 240) (p' := 36) rfl rfl rfl (if_neg c_2) ?_
          refine ev_x (i := .iload_n 1) (len := 1) (p' := 37) (s' := [.int l_1]) rfl rfl (ld_i g_1) ?_
          refine ev_x (i := .aload_n 0) (len := 1) (p' := 38) (s' := [.ref 66, .int l_1]) rfl rfl (ld_a g_0) ?_
          refine ev_gr (p' := 41) (v := 67) rfl rfl rfl ly_66 rfl rfl hr_66_2 ?_
          refine ev_gi (p' := 44) (v := (gI σ 67 1)) rfl rfl rfl ly_67 rfl rfl rfl ?_
          refine F_if H (fun c_3 H => ?_) (fun c_3 H => ?_)
          · refine ev_b2 (t := 240) (p' := 240) rfl rfl rfl (if_pos c_3) ?_
            exact J_136_240_ok (d := d) (Or.inl rfl) g_0 g_2 hnb hr_66_2 H
          · refine ev_b2 (t := 240) (p' := 47) rfl rfl rfl (if_neg c_3) ?_
            refine ev_x (i := .iload_n 1) (len := 1) (p' := 48) (s' := [.int l_1]) rfl rfl (ld_i g_1) ?_
            refine ev_x (i := .istore_n 3) (len := 1) (p' := 49) (s' := []) (l' := vz_s1 (lv) 3 (.int l_1)) rfl rfl rfl ?_
            refine ev_x (i := .aload_n 0) (len := 1) (p' := 50) (s' := [.ref 66]) rfl rfl (ld_a (vg_o (i := 3) (v := .int l_1) g_0 (by decide) (Or.inl rfl))) ?_
            refine ev_x (i := .iload_n 1) (len := 1) (p' := 51) (s' := [.int l_1, .ref 66]) rfl rfl (ld_i (vg_o (i := 3) (v := .int l_1) g_1 (by decide) (Or.inl rfl))) ?_
            obtain ⟨p_4, G_4, H⟩ := F_bd H
            refine ev_cv (d := d + 9) (As := [.int l_1]) (a := 66) (p' := 54) rfl rfl rfl ly_66 rfl rfl rfl rfl rfl (nb_s1 hnb rfl) rfl (F_138_ok (d := d + 7) (hx := (Or.inl rfl)) (hr_66_2 := hr_66_2) G_4) ?_
            refine ev_st (st' := [.int p_4.1]) rfl ?_
            have e_4 := F_138_R G_4
            obtain ⟨p_5, G_5, H⟩ := F_bd H
            refine ev_callS (d := d + 9) (As := [.int p_4.1]) rfl rfl rfl (by decide) rfl rfl rfl rfl (nb_s1 hnb rfl) (F_141_ok (d := d + 8)   G_5) ?_
            refine ev_st (st' := [.int p_5.1]) rfl ?_
            refine ev_pc (pc' := 57) rfl ?_
            have e_5 := F_141_R G_5
            refine F_if H (fun c_6 H => ?_) (fun c_6 H => ?_)
            · refine ev_b0 (t := 122) (p' := 122) rfl rfl rfl (if_pos c_6) ?_
              refine ev_x (i := .aload_n 0) (len := 1) (p' := 123) (s' := [.ref 66]) rfl rfl (ld_a (vg_o (i := 3) (v := .int l_1) g_0 (by decide) (Or.inl rfl))) ?_
              refine ev_x (i := .iload_n 1) (len := 1) (p' := 124) (s' := [.int l_1, .ref 66]) rfl rfl (ld_i (vg_o (i := 3) (v := .int l_1) g_1 (by decide) (Or.inl rfl))) ?_
              obtain ⟨p_7, G_7, H⟩ := F_bd H
              refine ev_cv (d := d + 9) (As := [.int l_1]) (a := 66) (p' := 127) rfl rfl rfl ly_66 rfl rfl rfl rfl rfl (nb_s1 hnb rfl) rfl (F_138_ok (d := d + 7) (hx := (Or.inl rfl)) (hr_66_2 := ((congrFun (congrFun e_5 66) 2).trans ((congrFun (congrFun e_4 66) 2).trans hr_66_2))) G_7) ?_
              refine ev_st (st' := [.int p_7.1]) rfl ?_
              have e_7 := F_138_R G_7
              obtain ⟨p_8, G_8, H⟩ := F_bd H
              refine ev_callS (d := d + 9) (As := [.int p_7.1]) rfl rfl rfl (by decide) rfl rfl rfl rfl (nb_s1 hnb rfl) (F_142_ok (d := d + 8)   G_8) ?_
              refine ev_st (st' := [.int p_8.1]) rfl ?_
              refine ev_pc (pc' := 130) rfl ?_
              have e_8 := F_142_R G_8
              refine F_if H (fun c_9 H => ?_) (fun c_9 H => ?_)
              · refine ev_b0 (t := 169) (p' := 169) rfl rfl rfl (if_pos c_9) ?_
                refine ev_x (i := .aload_n 0) (len := 1) (p' := 170) (s' := [.ref 66]) rfl rfl (ld_a (vg_o (i := 3) (v := .int l_1) g_0 (by decide) (Or.inl rfl))) ?_
                refine ev_x (i := .iload_n 1) (len := 1) (p' := 171) (s' := [.int l_1, .ref 66]) rfl rfl (ld_i (vg_o (i := 3) (v := .int l_1) g_1 (by decide) (Or.inl rfl))) ?_
                obtain ⟨p_10, G_10, H⟩ := F_bd H
                refine ev_cv (d := d + 9) (As := [.int l_1]) (a := 66) (p' := 174) rfl rfl rfl ly_66 rfl rfl rfl rfl rfl (nb_s1 hnb rfl) rfl (F_145_ok (d := d + 6) (hx := (Or.inl rfl)) (hr_66_2 := ((congrFun (congrFun e_8 66) 2).trans ((congrFun (congrFun e_7 66) 2).trans ((congrFun (congrFun e_5 66) 2).trans ((congrFun (congrFun e_4 66) 2).trans hr_66_2))))) G_10) ?_
                refine ev_st (st' := [.int p_10.1]) rfl ?_
                have e_10 := F_145_R G_10
                refine ev_x (i := .istore 4) (len := 2) (p' := 176) (s' := []) (l' := vz_s1 (vz_s1 (lv) 3 (.int l_1)) 4 (.int p_10.1)) rfl rfl rfl ?_
                refine ev_x (i := .iload 4) (len := 2) (p' := 178) (s' := [.int p_10.1]) rfl rfl (ld_i (vg_s (vz_s1 (lv) 3 (.int l_1)) 4 (.int p_10.1))) ?_
                refine ev_x (i := .bipush 16) (len := 2) (p' := 180) (s' := [.int 16, .int p_10.1]) rfl rfl rfl ?_
                refine F_jn (A := vz_ev P0 (d + 10) 136 195 (vz_s1 (vz_s1 (lv) 3 (.int l_1)) 4 (.int p_10.1)) [.int (if p_10.1 < 16 then 0 else (if 20 < p_10.1 then 0 else 1) : Int32)] (hp (p_10.2)) (.inl none, hp p)) ?_ (fun J => ?_)
                · refine ev_x (i := .istore 5) (len := 2) (p' := 197) (s' := []) (l' := vz_s1 (vz_s1 (vz_s1 (lv) 3 (.int l_1)) 4 (.int p_10.1)) 5 (.int (if p_10.1 < 16 then 0 else (if 20 < p_10.1 then 0 else 1) : Int32))) rfl rfl rfl ?_
                  refine ev_x (i := .iload_n 1) (len := 1) (p' := 198) (s' := [.int l_1]) rfl rfl (ld_i (vg_o (i := 5) (v := .int (if p_10.1 < 16 then 0 else (if 20 < p_10.1 then 0 else 1) : Int32)) (vg_o (i := 4) (v := .int p_10.1) (vg_o (i := 3) (v := .int l_1) g_1 (by decide) (Or.inl rfl)) (by decide) (Or.inl rfl)) (by decide) (Or.inl rfl))) ?_
                  refine ev_x (i := .iload 5) (len := 2) (p' := 200) (s' := [.int (if p_10.1 < 16 then 0 else (if 20 < p_10.1 then 0 else 1) : Int32), .int l_1]) rfl rfl (ld_i (vg_s (vz_s1 (vz_s1 (lv) 3 (.int l_1)) 4 (.int p_10.1)) 5 (.int (if p_10.1 < 16 then 0 else (if 20 < p_10.1 then 0 else 1) : Int32)))) ?_
                  refine F_jn (A := vz_ev P0 (d + 10) 136 208 (vz_s1 (vz_s1 (vz_s1 (lv) 3 (.int l_1)) 4 (.int p_10.1)) 5 (.int (if p_10.1 < 16 then 0 else (if 20 < p_10.1 then 0 else 1) : Int32))) [.int (if (if p_10.1 < 16 then 0 else (if 20 < p_10.1 then 0 else 1) : Int32) = 0 then 1 else 2 : Int32), .int l_1] (hp (p_10.2)) (.inl none, hp p)) ?_ (fun J => ?_)
                  · refine ev_x (i := .iadd) (len := 1) (p' := 209) (s' := [.int (l_1 + (if (if p_10.1 < 16 then 0 else (if 20 < p_10.1 then 0 else 1) : Int32) = 0 then 1 else 2 : Int32))]) rfl rfl rfl ?_
                    refine ev_x (i := .istore_n 3) (len := 1) (p' := 210) (s' := []) (l' := vz_s1 (vz_s1 (vz_s1 (vz_s1 (lv) 3 (.int l_1)) 4 (.int p_10.1)) 5 (.int (if p_10.1 < 16 then 0 else (if 20 < p_10.1 then 0 else 1) : Int32))) 3 (.int (l_1 + (if (if p_10.1 < 16 then 0 else (if 20 < p_10.1 then 0 else 1) : Int32) = 0 then 1 else 2 : Int32)))) rfl rfl rfl ?_
                    refine ev_x (i := .aload_n 0) (len := 1) (p' := 211) (s' := [.ref 66]) rfl rfl (ld_a (vg_o (i := 3) (v := .int (l_1 + (if (if p_10.1 < 16 then 0 else (if 20 < p_10.1 then 0 else 1) : Int32) = 0 then 1 else 2 : Int32))) (vg_o (i := 5) (v := .int (if p_10.1 < 16 then 0 else (if 20 < p_10.1 then 0 else 1) : Int32)) (vg_o (i := 4) (v := .int p_10.1) (vg_o (i := 3) (v := .int l_1) g_0 (by decide) (Or.inl rfl)) (by decide) (Or.inl rfl)) (by decide) (Or.inl rfl)) (by decide) (Or.inl rfl))) ?_
                    refine ev_x (i := .iload 4) (len := 2) (p' := 213) (s' := [.int p_10.1, .ref 66]) rfl rfl (ld_i (vg_o (i := 3) (v := .int (l_1 + (if (if p_10.1 < 16 then 0 else (if 20 < p_10.1 then 0 else 1) : Int32) = 0 then 1 else 2 : Int32))) (vg_o (i := 5) (v := .int (if p_10.1 < 16 then 0 else (if 20 < p_10.1 then 0 else 1) : Int32)) (vg_s (vz_s1 (lv) 3 (.int l_1)) 4 (.int p_10.1)) (by decide) (Or.inl rfl)) (by decide) (Or.inl rfl))) ?_
                    refine ev_x (i := .iload_n 1) (len := 1) (p' := 214) (s' := [.int l_1, .int p_10.1, .ref 66]) rfl rfl (ld_i (vg_o (i := 3) (v := .int (l_1 + (if (if p_10.1 < 16 then 0 else (if 20 < p_10.1 then 0 else 1) : Int32) = 0 then 1 else 2 : Int32))) (vg_o (i := 5) (v := .int (if p_10.1 < 16 then 0 else (if 20 < p_10.1 then 0 else 1) : Int32)) (vg_o (i := 4) (v := .int p_10.1) (vg_o (i := 3) (v := .int l_1) g_1 (by decide) (Or.inl rfl)) (by decide) (Or.inl rfl)) (by decide) (Or.inl rfl)) (by decide) (Or.inl rfl))) ?_
                    refine ev_x (i := .iload_n 3) (len := 1) (p' := 215) (s' := [.int (l_1 + (if (if p_10.1 < 16 then 0 else (if 20 < p_10.1 then 0 else 1) : Int32) = 0 then 1 else 2 : Int32)), .int l_1, .int p_10.1, .ref 66]) rfl rfl (ld_i (vg_s (vz_s1 (vz_s1 (vz_s1 (lv) 3 (.int l_1)) 4 (.int p_10.1)) 5 (.int (if p_10.1 < 16 then 0 else (if 20 < p_10.1 then 0 else 1) : Int32))) 3 (.int (l_1 + (if (if p_10.1 < 16 then 0 else (if 20 < p_10.1 then 0 else 1) : Int32) = 0 then 1 else 2 : Int32))))) ?_
                    obtain ⟨p_14, G_14, H⟩ := F_bd H
                    refine ev_cv (d := d + 9) (As := [.int p_10.1, .int l_1, .int (l_1 + (if (if p_10.1 < 16 then 0 else (if 20 < p_10.1 then 0 else 1) : Int32) = 0 then 1 else 2 : Int32))]) (a := 66) (p' := 218) rfl rfl rfl ly_66 rfl rfl rfl rfl rfl (nb_s1 (nb_s1 (nb_s1 (nb_s1 hnb rfl) rfl) rfl) rfl) rfl (F_146_ok (d := d + 7)   G_14) ?_
                    refine ev_st (st' := []) rfl ?_
                    have e_14 := F_146_R G_14
                    refine ev_x (i := .iload 4) (len := 2) (p' := 220) (s' := [.int p_10.1]) rfl rfl (ld_i (vg_o (i := 3) (v := .int (l_1 + (if (if p_10.1 < 16 then 0 else (if 20 < p_10.1 then 0 else 1) : Int32) = 0 then 1 else 2 : Int32))) (vg_o (i := 5) (v := .int (if p_10.1 < 16 then 0 else (if 20 < p_10.1 then 0 else 1) : Int32)) (vg_s (vz_s1 (lv) 3 (.int l_1)) 4 (.int p_10.1)) (by decide) (Or.inl rfl)) (by decide) (Or.inl rfl))) ?_
                    refine ev_x (i := .bipush 39) (len := 2) (p' := 222) (s' := [.int 39, .int p_10.1]) rfl rfl rfl ?_
                    refine F_jn (A := vz_ev P0 (d + 10) 136 230 (vz_s1 (vz_s1 (vz_s1 (vz_s1 (lv) 3 (.int l_1)) 4 (.int p_10.1)) 5 (.int (if p_10.1 < 16 then 0 else (if 20 < p_10.1 then 0 else 1) : Int32))) 3 (.int (l_1 + (if (if p_10.1 < 16 then 0 else (if 20 < p_10.1 then 0 else 1) : Int32) = 0 then 1 else 2 : Int32)))) [.int (if p_10.1 = 39 then 0 else 1 : Int32)] (hp (p_14)) (.inl none, hp p)) ?_ (fun J => ?_)
                    · refine ev_x (i := .istore_n 2) (len := 1) (p' := 231) (s' := []) (l' := vz_s1 (vz_s1 (vz_s1 (vz_s1 (vz_s1 (lv) 3 (.int l_1)) 4 (.int p_10.1)) 5 (.int (if p_10.1 < 16 then 0 else (if 20 < p_10.1 then 0 else 1) : Int32))) 3 (.int (l_1 + (if (if p_10.1 < 16 then 0 else (if 20 < p_10.1 then 0 else 1) : Int32) = 0 then 1 else 2 : Int32)))) 2 (.int (if p_10.1 = 39 then 0 else 1 : Int32))) rfl rfl rfl ?_
                      refine ev_x (i := .aload_n 0) (len := 1) (p' := 232) (s' := [.ref 66]) rfl rfl (ld_a (vg_o (i := 2) (v := .int (if p_10.1 = 39 then 0 else 1 : Int32)) (vg_o (i := 3) (v := .int (l_1 + (if (if p_10.1 < 16 then 0 else (if 20 < p_10.1 then 0 else 1) : Int32) = 0 then 1 else 2 : Int32))) (vg_o (i := 5) (v := .int (if p_10.1 < 16 then 0 else (if 20 < p_10.1 then 0 else 1) : Int32)) (vg_o (i := 4) (v := .int p_10.1) (vg_o (i := 3) (v := .int l_1) g_0 (by decide) (Or.inl rfl)) (by decide) (Or.inl rfl)) (by decide) (Or.inl rfl)) (by decide) (Or.inl rfl)) (by decide) (Or.inl rfl))) ?_
                      refine ev_x (i := .iload_n 3) (len := 1) (p' := 233) (s' := [.int (l_1 + (if (if p_10.1 < 16 then 0 else (if 20 < p_10.1 then 0 else 1) : Int32) = 0 then 1 else 2 : Int32)), .ref 66]) rfl rfl (ld_i (vg_o (i := 2) (v := .int (if p_10.1 = 39 then 0 else 1 : Int32)) (vg_s (vz_s1 (vz_s1 (vz_s1 (lv) 3 (.int l_1)) 4 (.int p_10.1)) 5 (.int (if p_10.1 < 16 then 0 else (if 20 < p_10.1 then 0 else 1) : Int32))) 3 (.int (l_1 + (if (if p_10.1 < 16 then 0 else (if 20 < p_10.1 then 0 else 1) : Int32) = 0 then 1 else 2 : Int32)))) (by decide) (Or.inl rfl))) ?_
                      obtain ⟨p_16, G_16, H⟩ := F_bd H
                      refine ev_cv (d := d + 9) (As := [.int (l_1 + (if (if p_10.1 < 16 then 0 else (if 20 < p_10.1 then 0 else 1) : Int32) = 0 then 1 else 2 : Int32))]) (a := 66) (p' := 236) rfl rfl rfl ly_66 rfl rfl rfl rfl rfl (nb_s1 (nb_s1 (nb_s1 (nb_s1 (nb_s1 hnb rfl) rfl) rfl) rfl) rfl) rfl (F_137_ok (d := d + 6) (hx := (Or.inl rfl)) (hr_66_2 := ((congrFun (congrFun e_14 66) 2).trans ((congrFun (congrFun e_10 66) 2).trans ((congrFun (congrFun e_8 66) 2).trans ((congrFun (congrFun e_7 66) 2).trans ((congrFun (congrFun e_5 66) 2).trans ((congrFun (congrFun e_4 66) 2).trans hr_66_2))))))) G_16) ?_
                      refine ev_st (st' := [.int p_16.1]) rfl ?_
                      have e_16 := F_137_R G_16
                      refine ev_x (i := .istore_n 1) (len := 1) (p' := 237) (s' := []) (l' := vz_s1 (vz_s1 (vz_s1 (vz_s1 (vz_s1 (vz_s1 (lv) 3 (.int l_1)) 4 (.int p_10.1)) 5 (.int (if p_10.1 < 16 then 0 else (if 20 < p_10.1 then 0 else 1) : Int32))) 3 (.int (l_1 + (if (if p_10.1 < 16 then 0 else (if 20 < p_10.1 then 0 else 1) : Int32) = 0 then 1 else 2 : Int32)))) 2 (.int (if p_10.1 = 39 then 0 else 1 : Int32))) 1 (.int p_16.1)) rfl rfl rfl ?_
                      refine ev_x (i := .goto (-205)) (len := 3) (p' := 32) (s' := []) rfl rfl rfl ?_
                      exact ih.1 _ _ _ _ _ _ (vg_o (i := 1) (v := .int p_16.1) (vg_o (i := 2) (v := .int (if p_10.1 = 39 then 0 else 1 : Int32)) (vg_o (i := 3) (v := .int (l_1 + (if (if p_10.1 < 16 then 0 else (if 20 < p_10.1 then 0 else 1) : Int32) = 0 then 1 else 2 : Int32))) (vg_o (i := 5) (v := .int (if p_10.1 < 16 then 0 else (if 20 < p_10.1 then 0 else 1) : Int32)) (vg_o (i := 4) (v := .int p_10.1) (vg_o (i := 3) (v := .int l_1) g_0 (by decide) (Or.inl rfl)) (by decide) (Or.inl rfl)) (by decide) (Or.inl rfl)) (by decide) (Or.inl rfl)) (by decide) (Or.inl rfl)) (by decide) (Or.inl rfl)) (vg_s (vz_s1 (vz_s1 (vz_s1 (vz_s1 (vz_s1 (lv) 3 (.int l_1)) 4 (.int p_10.1)) 5 (.int (if p_10.1 < 16 then 0 else (if 20 < p_10.1 then 0 else 1) : Int32))) 3 (.int (l_1 + (if (if p_10.1 < 16 then 0 else (if 20 < p_10.1 then 0 else 1) : Int32) = 0 then 1 else 2 : Int32)))) 2 (.int (if p_10.1 = 39 then 0 else 1 : Int32))) 1 (.int p_16.1)) (vg_o (i := 1) (v := .int p_16.1) (vg_s (vz_s1 (vz_s1 (vz_s1 (vz_s1 (lv) 3 (.int l_1)) 4 (.int p_10.1)) 5 (.int (if p_10.1 < 16 then 0 else (if 20 < p_10.1 then 0 else 1) : Int32))) 3 (.int (l_1 + (if (if p_10.1 < 16 then 0 else (if 20 < p_10.1 then 0 else 1) : Int32) = 0 then 1 else 2 : Int32)))) 2 (.int (if p_10.1 = 39 then 0 else 1 : Int32))) (by decide) (Or.inl rfl)) (nb_s1 (nb_s1 (nb_s1 (nb_s1 (nb_s1 (nb_s1 hnb rfl) rfl) rfl) rfl) rfl) rfl) ((congrFun (congrFun e_16 66) 2).trans ((congrFun (congrFun e_14 66) 2).trans ((congrFun (congrFun e_10 66) 2).trans ((congrFun (congrFun e_8 66) 2).trans ((congrFun (congrFun e_7 66) 2).trans ((congrFun (congrFun e_5 66) 2).trans ((congrFun (congrFun e_4 66) 2).trans hr_66_2))))))) H
                    · by_cases c_15 : p_10.1 = 39
                      · refine ev_b2 (t := 229) (p' := 229) rfl rfl rfl (if_pos c_15) ?_
                        refine ev_x (i := .iconst 0) (len := 1) (p' := 230) (s' := [.int 0]) rfl rfl rfl ?_
                        exact ev_st (congrArg (fun z => Value.int z :: []) (by rw [if_pos c_15])) J
                      · refine ev_b2 (t := 229) (p' := 225) rfl rfl rfl (if_neg c_15) ?_
                        refine ev_x (i := .iconst 1) (len := 1) (p' := 226) (s' := [.int 1]) rfl rfl rfl ?_
                        refine ev_x (i := .goto 4) (len := 3) (p' := 230) (s' := [.int 1]) rfl rfl rfl ?_
                        exact ev_st (congrArg (fun z => Value.int z :: []) (by rw [if_neg c_15])) J
                  · by_cases c_13 : (if p_10.1 < 16 then 0 else (if 20 < p_10.1 then 0 else 1) : Int32) = 0
                    · refine ev_b0 (t := 207) (p' := 207) rfl rfl rfl (if_pos c_13) ?_
                      refine ev_x (i := .iconst 1) (len := 1) (p' := 208) (s' := [.int 1, .int l_1]) rfl rfl rfl ?_
                      exact ev_st (congrArg (fun z => Value.int z :: [.int l_1]) (by rw [if_pos c_13])) J
                    · refine ev_b0 (t := 207) (p' := 203) rfl rfl rfl (if_neg c_13) ?_
                      refine ev_x (i := .iconst 2) (len := 1) (p' := 204) (s' := [.int 2, .int l_1]) rfl rfl rfl ?_
                      refine ev_x (i := .goto 4) (len := 3) (p' := 208) (s' := [.int 2, .int l_1]) rfl rfl rfl ?_
                      exact ev_st (congrArg (fun z => Value.int z :: [.int l_1]) (by rw [if_neg c_13])) J
                · by_cases c_11 : p_10.1 < 16
                  · refine ev_b2 (t := 194) (p' := 194) rfl rfl rfl (if_pos c_11) ?_
                    refine ev_x (i := .iconst 0) (len := 1) (p' := 195) (s' := [.int 0]) rfl rfl rfl ?_
                    exact ev_st (congrArg (fun z => Value.int z :: []) (by rw [if_pos c_11])) J
                  · refine ev_b2 (t := 194) (p' := 183) rfl rfl rfl (if_neg c_11) ?_
                    refine ev_x (i := .iload 4) (len := 2) (p' := 185) (s' := [.int p_10.1]) rfl rfl (ld_i (vg_s (vz_s1 (lv) 3 (.int l_1)) 4 (.int p_10.1))) ?_
                    refine ev_x (i := .bipush 20) (len := 2) (p' := 187) (s' := [.int 20, .int p_10.1]) rfl rfl rfl ?_
                    by_cases c_12 : 20 < p_10.1
                    · refine ev_b2 (t := 194) (p' := 194) rfl rfl rfl (if_pos c_12) ?_
                      refine ev_x (i := .iconst 0) (len := 1) (p' := 195) (s' := [.int 0]) rfl rfl rfl ?_
                      exact ev_st (congrArg (fun z => Value.int z :: []) (by rw [if_neg c_11, if_pos c_12])) J
                    · refine ev_b2 (t := 194) (p' := 190) rfl rfl rfl (if_neg c_12) ?_
                      refine ev_x (i := .iconst 1) (len := 1) (p' := 191) (s' := [.int 1]) rfl rfl rfl ?_
                      refine ev_x (i := .goto 4) (len := 3) (p' := 195) (s' := [.int 1]) rfl rfl rfl ?_
                      exact ev_st (congrArg (fun z => Value.int z :: []) (by rw [if_neg c_11, if_neg c_12])) J
              · refine ev_b0 (t := 169) (p' := 133) rfl rfl rfl (if_neg c_9) ?_
                exact ih.2.2 _ _ _ _ _ _ (vg_o (i := 3) (v := .int l_1) g_0 (by decide) (Or.inl rfl)) (vg_o (i := 3) (v := .int l_1) g_1 (by decide) (Or.inl rfl)) (vg_s (lv) 3 (.int l_1)) (nb_s1 hnb rfl) ((congrFun (congrFun e_8 66) 2).trans ((congrFun (congrFun e_7 66) 2).trans ((congrFun (congrFun e_5 66) 2).trans ((congrFun (congrFun e_4 66) 2).trans hr_66_2)))) H
            · refine ev_b0 (t := 122) (p' := 60) rfl rfl rfl (if_neg c_6) ?_
              exact ih.2.1 _ _ _ _ _ _ (vg_o (i := 3) (v := .int l_1) g_0 (by decide) (Or.inl rfl)) (vg_o (i := 3) (v := .int l_1) g_1 (by decide) (Or.inl rfl)) (vg_s (lv) 3 (.int l_1)) (nb_s1 hnb rfl) ((congrFun (congrFun e_5 66) 2).trans ((congrFun (congrFun e_4 66) 2).trans hr_66_2)) H
      · intro l_1 l_2 l_3 σ lv p g_0 g_1 g_3 hnb hr_66_2 H
        unfold L_136 at H
        rw [if_neg (by decide)] at H
        rw [if_pos rfl] at H
        refine ev_x (i := .aload_n 0) (len := 1) (p' := 61) (s' := [.ref 66]) rfl rfl (ld_a g_0) ?_
        refine ev_x (i := .iload_n 3) (len := 1) (p' := 62) (s' := [.int l_3, .ref 66]) rfl rfl (ld_i g_3) ?_
        obtain ⟨p_17, G_17, H⟩ := F_bd H
        refine ev_cv (d := d + 9) (As := [.int l_3]) (a := 66) (p' := 65) rfl rfl rfl ly_66 rfl rfl rfl rfl rfl hnb rfl (F_138_ok (d := d + 7) (hx := (Or.inl rfl)) (hr_66_2 := hr_66_2) G_17) ?_
        refine ev_st (st' := [.int p_17.1]) rfl ?_
        have e_17 := F_138_R G_17
        obtain ⟨p_18, G_18, H⟩ := F_bd H
        refine ev_callS (d := d + 9) (As := [.int p_17.1]) rfl rfl rfl (by decide) rfl rfl rfl rfl hnb (F_141_ok (d := d + 8)   G_18) ?_
        refine ev_st (st' := [.int p_18.1]) rfl ?_
        refine ev_pc (pc' := 68) rfl ?_
        have e_18 := F_141_R G_18
        refine F_if H (fun c_19 H => ?_) (fun c_19 H => ?_)
        · refine ev_b0 (t := 92) (p' := 71) rfl rfl rfl (if_neg (fun q => q c_19)) ?_
          refine ev_x (i := .aload_n 0) (len := 1) (p' := 72) (s' := [.ref 66]) rfl rfl (ld_a g_0) ?_
          refine ev_x (i := .iload_n 3) (len := 1) (p' := 73) (s' := [.int l_3, .ref 66]) rfl rfl (ld_i g_3) ?_
          obtain ⟨p_20, G_20, H⟩ := F_bd H
          refine ev_cv (d := d + 9) (As := [.int l_3]) (a := 66) (p' := 76) rfl rfl rfl ly_66 rfl rfl rfl rfl rfl hnb rfl (F_138_ok (d := d + 7) (hx := (Or.inl rfl)) (hr_66_2 := ((congrFun (congrFun e_18 66) 2).trans ((congrFun (congrFun e_17 66) 2).trans hr_66_2))) G_20) ?_
          refine ev_st (st' := [.int p_20.1]) rfl ?_
          have e_20 := F_138_R G_20
          obtain ⟨p_21, G_21, H⟩ := F_bd H
          refine ev_callS (d := d + 9) (As := [.int p_20.1]) rfl rfl rfl (by decide) rfl rfl rfl rfl hnb (F_142_ok (d := d + 8)   G_21) ?_
          refine ev_st (st' := [.int p_21.1]) rfl ?_
          refine ev_pc (pc' := 79) rfl ?_
          have e_21 := F_142_R G_21
          refine F_if H (fun c_22 H => ?_) (fun c_22 H => ?_)
          · refine ev_b0 (t := 92) (p' := 82) rfl rfl rfl (if_neg (fun q => q c_22)) ?_
            refine ev_x (i := .aload_n 0) (len := 1) (p' := 83) (s' := [.ref 66]) rfl rfl (ld_a g_0) ?_
            refine ev_x (i := .iload_n 3) (len := 1) (p' := 84) (s' := [.int l_3, .ref 66]) rfl rfl (ld_i g_3) ?_
            obtain ⟨p_23, G_23, H⟩ := F_bd H
            refine ev_cv (d := d + 9) (As := [.int l_3]) (a := 66) (p' := 87) rfl rfl rfl ly_66 rfl rfl rfl rfl rfl hnb rfl (F_138_ok (d := d + 7) (hx := (Or.inl rfl)) (hr_66_2 := ((congrFun (congrFun e_21 66) 2).trans ((congrFun (congrFun e_20 66) 2).trans ((congrFun (congrFun e_18 66) 2).trans ((congrFun (congrFun e_17 66) 2).trans hr_66_2))))) G_23) ?_
            refine ev_st (st' := [.int p_23.1]) rfl ?_
            have e_23 := F_138_R G_23
            refine ev_x (i := .bipush 95) (len := 2) (p' := 89) (s' := [.int 95, .int p_23.1]) rfl rfl rfl ?_
            refine F_if H (fun c_24 H => ?_) (fun c_24 H => ?_)
            · refine ev_b2 (t := 98) (p' := 92) rfl rfl rfl (if_neg (fun q => q c_24)) ?_
              refine ev_x (i := .iinc 3 1) (len := 3) (p' := 95) (s' := []) (l' := vz_s1 (lv) 3 (.int (l_3 + 1))) rfl rfl (ld_inc g_3 rfl) ?_
              refine ev_x (i := .goto (-35)) (len := 3) (p' := 60) (s' := []) rfl rfl rfl ?_
              exact ih.2.1 _ _ _ _ _ _ (vg_o (i := 3) (v := .int (l_3 + 1)) g_0 (by decide) (Or.inl rfl)) (vg_o (i := 3) (v := .int (l_3 + 1)) g_1 (by decide) (Or.inl rfl)) (vg_s (lv) 3 (.int (l_3 + 1))) (nb_s1 hnb rfl) ((congrFun (congrFun e_23 66) 2).trans ((congrFun (congrFun e_21 66) 2).trans ((congrFun (congrFun e_20 66) 2).trans ((congrFun (congrFun e_18 66) 2).trans ((congrFun (congrFun e_17 66) 2).trans hr_66_2))))) H
            · refine ev_b2 (t := 98) (p' := 98) rfl rfl rfl (if_pos c_24) ?_
              refine ev_x (i := .iload_n 3) (len := 1) (p' := 99) (s' := [.int l_3]) rfl rfl (ld_i g_3) ?_
              refine ev_x (i := .iload_n 1) (len := 1) (p' := 100) (s' := [.int l_1, .int l_3]) rfl rfl (ld_i g_1) ?_
              refine ev_x (i := .isub) (len := 1) (p' := 101) (s' := [.int (l_3 - l_1)]) rfl rfl rfl ?_
              refine ev_x (i := .bipush 40) (len := 2) (p' := 103) (s' := [.int 40, .int (l_3 - l_1)]) rfl rfl rfl ?_
              refine F_if H (fun c_25 H => ?_) (fun c_25 H => ?_)
              · refine ev_b2 (t := 111) (p' := 111) rfl rfl rfl (if_pos c_25) ?_
                refine ev_x (i := .aload_n 0) (len := 1) (p' := 112) (s' := [.ref 66]) rfl rfl (ld_a g_0) ?_
                refine ev_x (i := .iload_n 1) (len := 1) (p' := 113) (s' := [.int l_1, .ref 66]) rfl rfl (ld_i g_1) ?_
                refine ev_x (i := .iload_n 3) (len := 1) (p' := 114) (s' := [.int l_3, .int l_1, .ref 66]) rfl rfl (ld_i g_3) ?_
                obtain ⟨p_26, G_26, H⟩ := F_bd H
                refine ev_cv (d := d + 9) (As := [.int l_1, .int l_3]) (a := 66) (p' := 117) rfl rfl rfl ly_66 rfl rfl rfl rfl rfl hnb rfl (F_143_ok (d := d + 0) (hx := (Or.inl rfl)) (hr_66_2 := ((congrFun (congrFun e_23 66) 2).trans ((congrFun (congrFun e_21 66) 2).trans ((congrFun (congrFun e_20 66) 2).trans ((congrFun (congrFun e_18 66) 2).trans ((congrFun (congrFun e_17 66) 2).trans hr_66_2)))))) G_26) ?_
                refine ev_st (st' := [.int p_26.1]) rfl ?_
                have e_26 := F_143_R G_26
                refine ev_x (i := .istore 4) (len := 2) (p' := 119) (s' := []) (l' := vz_s1 (lv) 4 (.int p_26.1)) rfl rfl rfl ?_
                refine ev_x (i := .goto 91) (len := 3) (p' := 210) (s' := []) rfl rfl rfl ?_
                refine ev_x (i := .aload_n 0) (len := 1) (p' := 211) (s' := [.ref 66]) rfl rfl (ld_a (vg_o (i := 4) (v := .int p_26.1) g_0 (by decide) (Or.inl rfl))) ?_
                refine ev_x (i := .iload 4) (len := 2) (p' := 213) (s' := [.int p_26.1, .ref 66]) rfl rfl (ld_i (vg_s (lv) 4 (.int p_26.1))) ?_
                refine ev_x (i := .iload_n 1) (len := 1) (p' := 214) (s' := [.int l_1, .int p_26.1, .ref 66]) rfl rfl (ld_i (vg_o (i := 4) (v := .int p_26.1) g_1 (by decide) (Or.inl rfl))) ?_
                refine ev_x (i := .iload_n 3) (len := 1) (p' := 215) (s' := [.int l_3, .int l_1, .int p_26.1, .ref 66]) rfl rfl (ld_i (vg_o (i := 4) (v := .int p_26.1) g_3 (by decide) (Or.inl rfl))) ?_
                obtain ⟨p_27, G_27, H⟩ := F_bd H
                refine ev_cv (d := d + 9) (As := [.int p_26.1, .int l_1, .int l_3]) (a := 66) (p' := 218) rfl rfl rfl ly_66 rfl rfl rfl rfl rfl (nb_s1 hnb rfl) rfl (F_146_ok (d := d + 7)   G_27) ?_
                refine ev_st (st' := []) rfl ?_
                have e_27 := F_146_R G_27
                refine ev_x (i := .iload 4) (len := 2) (p' := 220) (s' := [.int p_26.1]) rfl rfl (ld_i (vg_s (lv) 4 (.int p_26.1))) ?_
                refine ev_x (i := .bipush 39) (len := 2) (p' := 222) (s' := [.int 39, .int p_26.1]) rfl rfl rfl ?_
                refine F_jn (A := vz_ev P0 (d + 10) 136 230 (vz_s1 (lv) 4 (.int p_26.1)) [.int (if p_26.1 = 39 then 0 else 1 : Int32)] (hp (p_27)) (.inl none, hp p)) ?_ (fun J => ?_)
                · refine ev_x (i := .istore_n 2) (len := 1) (p' := 231) (s' := []) (l' := vz_s1 (vz_s1 (lv) 4 (.int p_26.1)) 2 (.int (if p_26.1 = 39 then 0 else 1 : Int32))) rfl rfl rfl ?_
                  refine ev_x (i := .aload_n 0) (len := 1) (p' := 232) (s' := [.ref 66]) rfl rfl (ld_a (vg_o (i := 2) (v := .int (if p_26.1 = 39 then 0 else 1 : Int32)) (vg_o (i := 4) (v := .int p_26.1) g_0 (by decide) (Or.inl rfl)) (by decide) (Or.inl rfl))) ?_
                  refine ev_x (i := .iload_n 3) (len := 1) (p' := 233) (s' := [.int l_3, .ref 66]) rfl rfl (ld_i (vg_o (i := 2) (v := .int (if p_26.1 = 39 then 0 else 1 : Int32)) (vg_o (i := 4) (v := .int p_26.1) g_3 (by decide) (Or.inl rfl)) (by decide) (Or.inl rfl))) ?_
                  obtain ⟨p_29, G_29, H⟩ := F_bd H
                  refine ev_cv (d := d + 9) (As := [.int l_3]) (a := 66) (p' := 236) rfl rfl rfl ly_66 rfl rfl rfl rfl rfl (nb_s1 (nb_s1 hnb rfl) rfl) rfl (F_137_ok (d := d + 6) (hx := (Or.inl rfl)) (hr_66_2 := ((congrFun (congrFun e_27 66) 2).trans ((congrFun (congrFun e_26 66) 2).trans ((congrFun (congrFun e_23 66) 2).trans ((congrFun (congrFun e_21 66) 2).trans ((congrFun (congrFun e_20 66) 2).trans ((congrFun (congrFun e_18 66) 2).trans ((congrFun (congrFun e_17 66) 2).trans hr_66_2)))))))) G_29) ?_
                  refine ev_st (st' := [.int p_29.1]) rfl ?_
                  have e_29 := F_137_R G_29
                  refine ev_x (i := .istore_n 1) (len := 1) (p' := 237) (s' := []) (l' := vz_s1 (vz_s1 (vz_s1 (lv) 4 (.int p_26.1)) 2 (.int (if p_26.1 = 39 then 0 else 1 : Int32))) 1 (.int p_29.1)) rfl rfl rfl ?_
                  refine ev_x (i := .goto (-205)) (len := 3) (p' := 32) (s' := []) rfl rfl rfl ?_
                  exact ih.1 _ _ _ _ _ _ (vg_o (i := 1) (v := .int p_29.1) (vg_o (i := 2) (v := .int (if p_26.1 = 39 then 0 else 1 : Int32)) (vg_o (i := 4) (v := .int p_26.1) g_0 (by decide) (Or.inl rfl)) (by decide) (Or.inl rfl)) (by decide) (Or.inl rfl)) (vg_s (vz_s1 (vz_s1 (lv) 4 (.int p_26.1)) 2 (.int (if p_26.1 = 39 then 0 else 1 : Int32))) 1 (.int p_29.1)) (vg_o (i := 1) (v := .int p_29.1) (vg_s (vz_s1 (lv) 4 (.int p_26.1)) 2 (.int (if p_26.1 = 39 then 0 else 1 : Int32))) (by decide) (Or.inl rfl)) (nb_s1 (nb_s1 (nb_s1 hnb rfl) rfl) rfl) ((congrFun (congrFun e_29 66) 2).trans ((congrFun (congrFun e_27 66) 2).trans ((congrFun (congrFun e_26 66) 2).trans ((congrFun (congrFun e_23 66) 2).trans ((congrFun (congrFun e_21 66) 2).trans ((congrFun (congrFun e_20 66) 2).trans ((congrFun (congrFun e_18 66) 2).trans ((congrFun (congrFun e_17 66) 2).trans hr_66_2)))))))) H
                · by_cases c_28 : p_26.1 = 39
                  · refine ev_b2 (t := 229) (p' := 229) rfl rfl rfl (if_pos c_28) ?_
                    refine ev_x (i := .iconst 0) (len := 1) (p' := 230) (s' := [.int 0]) rfl rfl rfl ?_
                    exact ev_st (congrArg (fun z => Value.int z :: []) (by rw [if_pos c_28])) J
                  · refine ev_b2 (t := 229) (p' := 225) rfl rfl rfl (if_neg c_28) ?_
                    refine ev_x (i := .iconst 1) (len := 1) (p' := 226) (s' := [.int 1]) rfl rfl rfl ?_
                    refine ev_x (i := .goto 4) (len := 3) (p' := 230) (s' := [.int 1]) rfl rfl rfl ?_
                    exact ev_st (congrArg (fun z => Value.int z :: []) (by rw [if_neg c_28])) J
              · refine ev_b2 (t := 111) (p' := 106) rfl rfl rfl (if_neg c_25) ?_
                refine ev_x (i := .bipush 39) (len := 2) (p' := 108) (s' := [.int 39]) rfl rfl rfl ?_
                refine ev_x (i := .goto 9) (len := 3) (p' := 117) (s' := [.int 39]) rfl rfl rfl ?_
                refine ev_x (i := .istore 4) (len := 2) (p' := 119) (s' := []) (l' := vz_s1 (lv) 4 (.int 39)) rfl rfl rfl ?_
                refine ev_x (i := .goto 91) (len := 3) (p' := 210) (s' := []) rfl rfl rfl ?_
                refine ev_x (i := .aload_n 0) (len := 1) (p' := 211) (s' := [.ref 66]) rfl rfl (ld_a (vg_o (i := 4) (v := .int 39) g_0 (by decide) (Or.inl rfl))) ?_
                refine ev_x (i := .iload 4) (len := 2) (p' := 213) (s' := [.int 39, .ref 66]) rfl rfl (ld_i (vg_s (lv) 4 (.int 39))) ?_
                refine ev_x (i := .iload_n 1) (len := 1) (p' := 214) (s' := [.int l_1, .int 39, .ref 66]) rfl rfl (ld_i (vg_o (i := 4) (v := .int 39) g_1 (by decide) (Or.inl rfl))) ?_
                refine ev_x (i := .iload_n 3) (len := 1) (p' := 215) (s' := [.int l_3, .int l_1, .int 39, .ref 66]) rfl rfl (ld_i (vg_o (i := 4) (v := .int 39) g_3 (by decide) (Or.inl rfl))) ?_
                obtain ⟨p_30, G_30, H⟩ := F_bd H
                refine ev_cv (d := d + 9) (As := [.int 39, .int l_1, .int l_3]) (a := 66) (p' := 218) rfl rfl rfl ly_66 rfl rfl rfl rfl rfl (nb_s1 hnb rfl) rfl (F_146_ok (d := d + 7)   G_30) ?_
                refine ev_st (st' := []) rfl ?_
                have e_30 := F_146_R G_30
                refine ev_x (i := .iload 4) (len := 2) (p' := 220) (s' := [.int 39]) rfl rfl (ld_i (vg_s (lv) 4 (.int 39))) ?_
                refine ev_x (i := .bipush 39) (len := 2) (p' := 222) (s' := [.int 39, .int 39]) rfl rfl rfl ?_
                refine ev_b2 (t := 229) (p' := 229) rfl rfl rfl (by decide) ?_
                refine ev_x (i := .iconst 0) (len := 1) (p' := 230) (s' := [.int 0]) rfl rfl rfl ?_
                refine ev_x (i := .istore_n 2) (len := 1) (p' := 231) (s' := []) (l' := vz_s1 (vz_s1 (lv) 4 (.int 39)) 2 (.int 0)) rfl rfl rfl ?_
                refine ev_x (i := .aload_n 0) (len := 1) (p' := 232) (s' := [.ref 66]) rfl rfl (ld_a (vg_o (i := 2) (v := .int 0) (vg_o (i := 4) (v := .int 39) g_0 (by decide) (Or.inl rfl)) (by decide) (Or.inl rfl))) ?_
                refine ev_x (i := .iload_n 3) (len := 1) (p' := 233) (s' := [.int l_3, .ref 66]) rfl rfl (ld_i (vg_o (i := 2) (v := .int 0) (vg_o (i := 4) (v := .int 39) g_3 (by decide) (Or.inl rfl)) (by decide) (Or.inl rfl))) ?_
                obtain ⟨p_31, G_31, H⟩ := F_bd H
                refine ev_cv (d := d + 9) (As := [.int l_3]) (a := 66) (p' := 236) rfl rfl rfl ly_66 rfl rfl rfl rfl rfl (nb_s1 (nb_s1 hnb rfl) rfl) rfl (F_137_ok (d := d + 6) (hx := (Or.inl rfl)) (hr_66_2 := ((congrFun (congrFun e_30 66) 2).trans ((congrFun (congrFun e_23 66) 2).trans ((congrFun (congrFun e_21 66) 2).trans ((congrFun (congrFun e_20 66) 2).trans ((congrFun (congrFun e_18 66) 2).trans ((congrFun (congrFun e_17 66) 2).trans hr_66_2))))))) G_31) ?_
                refine ev_st (st' := [.int p_31.1]) rfl ?_
                have e_31 := F_137_R G_31
                refine ev_x (i := .istore_n 1) (len := 1) (p' := 237) (s' := []) (l' := vz_s1 (vz_s1 (vz_s1 (lv) 4 (.int 39)) 2 (.int 0)) 1 (.int p_31.1)) rfl rfl rfl ?_
                refine ev_x (i := .goto (-205)) (len := 3) (p' := 32) (s' := []) rfl rfl rfl ?_
                exact ih.1 _ _ _ _ _ _ (vg_o (i := 1) (v := .int p_31.1) (vg_o (i := 2) (v := .int 0) (vg_o (i := 4) (v := .int 39) g_0 (by decide) (Or.inl rfl)) (by decide) (Or.inl rfl)) (by decide) (Or.inl rfl)) (vg_s (vz_s1 (vz_s1 (lv) 4 (.int 39)) 2 (.int 0)) 1 (.int p_31.1)) (vg_o (i := 1) (v := .int p_31.1) (vg_s (vz_s1 (lv) 4 (.int 39)) 2 (.int 0)) (by decide) (Or.inl rfl)) (nb_s1 (nb_s1 (nb_s1 hnb rfl) rfl) rfl) ((congrFun (congrFun e_31 66) 2).trans ((congrFun (congrFun e_30 66) 2).trans ((congrFun (congrFun e_23 66) 2).trans ((congrFun (congrFun e_21 66) 2).trans ((congrFun (congrFun e_20 66) 2).trans ((congrFun (congrFun e_18 66) 2).trans ((congrFun (congrFun e_17 66) 2).trans hr_66_2))))))) H
          · refine ev_b0 (t := 92) (p' := 92) rfl rfl rfl (if_pos c_22) ?_
            refine ev_x (i := .iinc 3 1) (len := 3) (p' := 95) (s' := []) (l' := vz_s1 (lv) 3 (.int (l_3 + 1))) rfl rfl (ld_inc g_3 rfl) ?_
            refine ev_x (i := .goto (-35)) (len := 3) (p' := 60) (s' := []) rfl rfl rfl ?_
            exact ih.2.1 _ _ _ _ _ _ (vg_o (i := 3) (v := .int (l_3 + 1)) g_0 (by decide) (Or.inl rfl)) (vg_o (i := 3) (v := .int (l_3 + 1)) g_1 (by decide) (Or.inl rfl)) (vg_s (lv) 3 (.int (l_3 + 1))) (nb_s1 hnb rfl) ((congrFun (congrFun e_21 66) 2).trans ((congrFun (congrFun e_20 66) 2).trans ((congrFun (congrFun e_18 66) 2).trans ((congrFun (congrFun e_17 66) 2).trans hr_66_2)))) H
        · refine ev_b0 (t := 92) (p' := 92) rfl rfl rfl (if_pos c_19) ?_
          refine ev_x (i := .iinc 3 1) (len := 3) (p' := 95) (s' := []) (l' := vz_s1 (lv) 3 (.int (l_3 + 1))) rfl rfl (ld_inc g_3 rfl) ?_
          refine ev_x (i := .goto (-35)) (len := 3) (p' := 60) (s' := []) rfl rfl rfl ?_
          exact ih.2.1 _ _ _ _ _ _ (vg_o (i := 3) (v := .int (l_3 + 1)) g_0 (by decide) (Or.inl rfl)) (vg_o (i := 3) (v := .int (l_3 + 1)) g_1 (by decide) (Or.inl rfl)) (vg_s (lv) 3 (.int (l_3 + 1))) (nb_s1 hnb rfl) ((congrFun (congrFun e_18 66) 2).trans ((congrFun (congrFun e_17 66) 2).trans hr_66_2)) H
      · intro l_1 l_2 l_3 σ lv p g_0 g_1 g_3 hnb hr_66_2 H
        unfold L_136 at H
        rw [if_neg (by decide)] at H
        rw [if_neg (by decide)] at H
        refine ev_x (i := .aload_n 0) (len := 1) (p' := 134) (s' := [.ref 66]) rfl rfl (ld_a g_0) ?_
        refine ev_x (i := .iload_n 3) (len := 1) (p' := 135) (s' := [.int l_3, .ref 66]) rfl rfl (ld_i g_3) ?_
        obtain ⟨p_32, G_32, H⟩ := F_bd H
        refine ev_cv (d := d + 9) (As := [.int l_3]) (a := 66) (p' := 138) rfl rfl rfl ly_66 rfl rfl rfl rfl rfl hnb rfl (F_138_ok (d := d + 7) (hx := (Or.inl rfl)) (hr_66_2 := hr_66_2) G_32) ?_
        refine ev_st (st' := [.int p_32.1]) rfl ?_
        have e_32 := F_138_R G_32
        obtain ⟨p_33, G_33, H⟩ := F_bd H
        refine ev_callS (d := d + 9) (As := [.int p_32.1]) rfl rfl rfl (by decide) rfl rfl rfl rfl hnb (F_142_ok (d := d + 8)   G_33) ?_
        refine ev_st (st' := [.int p_33.1]) rfl ?_
        refine ev_pc (pc' := 141) rfl ?_
        have e_33 := F_142_R G_33
        refine F_if H (fun c_34 H => ?_) (fun c_34 H => ?_)
        · refine ev_b0 (t := 150) (p' := 150) rfl rfl rfl (if_pos c_34) ?_
          refine ev_x (i := .iload_n 3) (len := 1) (p' := 151) (s' := [.int l_3]) rfl rfl (ld_i g_3) ?_
          refine ev_x (i := .iload_n 1) (len := 1) (p' := 152) (s' := [.int l_1, .int l_3]) rfl rfl (ld_i g_1) ?_
          refine ev_x (i := .isub) (len := 1) (p' := 153) (s' := [.int (l_3 - l_1)]) rfl rfl rfl ?_
          refine ev_x (i := .bipush 9) (len := 2) (p' := 155) (s' := [.int 9, .int (l_3 - l_1)]) rfl rfl rfl ?_
          refine F_jn (A := vz_ev P0 (d + 10) 136 164 (lv) [.int (if (l_3 - l_1) ≤ 9 then 2 else 39 : Int32)] (hp (p_33.2)) (.inl none, hp p)) ?_ (fun J => ?_)
          · refine ev_x (i := .istore 4) (len := 2) (p' := 166) (s' := []) (l' := vz_s1 (lv) 4 (.int (if (l_3 - l_1) ≤ 9 then 2 else 39 : Int32))) rfl rfl rfl ?_
            refine ev_x (i := .goto 44) (len := 3) (p' := 210) (s' := []) rfl rfl rfl ?_
            refine ev_x (i := .aload_n 0) (len := 1) (p' := 211) (s' := [.ref 66]) rfl rfl (ld_a (vg_o (i := 4) (v := .int (if (l_3 - l_1) ≤ 9 then 2 else 39 : Int32)) g_0 (by decide) (Or.inl rfl))) ?_
            refine ev_x (i := .iload 4) (len := 2) (p' := 213) (s' := [.int (if (l_3 - l_1) ≤ 9 then 2 else 39 : Int32), .ref 66]) rfl rfl (ld_i (vg_s (lv) 4 (.int (if (l_3 - l_1) ≤ 9 then 2 else 39 : Int32)))) ?_
            refine ev_x (i := .iload_n 1) (len := 1) (p' := 214) (s' := [.int l_1, .int (if (l_3 - l_1) ≤ 9 then 2 else 39 : Int32), .ref 66]) rfl rfl (ld_i (vg_o (i := 4) (v := .int (if (l_3 - l_1) ≤ 9 then 2 else 39 : Int32)) g_1 (by decide) (Or.inl rfl))) ?_
            refine ev_x (i := .iload_n 3) (len := 1) (p' := 215) (s' := [.int l_3, .int l_1, .int (if (l_3 - l_1) ≤ 9 then 2 else 39 : Int32), .ref 66]) rfl rfl (ld_i (vg_o (i := 4) (v := .int (if (l_3 - l_1) ≤ 9 then 2 else 39 : Int32)) g_3 (by decide) (Or.inl rfl))) ?_
            obtain ⟨p_36, G_36, H⟩ := F_bd H
            refine ev_cv (d := d + 9) (As := [.int (if (l_3 - l_1) ≤ 9 then 2 else 39 : Int32), .int l_1, .int l_3]) (a := 66) (p' := 218) rfl rfl rfl ly_66 rfl rfl rfl rfl rfl (nb_s1 hnb rfl) rfl (F_146_ok (d := d + 7)   G_36) ?_
            refine ev_st (st' := []) rfl ?_
            have e_36 := F_146_R G_36
            refine ev_x (i := .iload 4) (len := 2) (p' := 220) (s' := [.int (if (l_3 - l_1) ≤ 9 then 2 else 39 : Int32)]) rfl rfl (ld_i (vg_s (lv) 4 (.int (if (l_3 - l_1) ≤ 9 then 2 else 39 : Int32)))) ?_
            refine ev_x (i := .bipush 39) (len := 2) (p' := 222) (s' := [.int 39, .int (if (l_3 - l_1) ≤ 9 then 2 else 39 : Int32)]) rfl rfl rfl ?_
            refine F_jn (A := vz_ev P0 (d + 10) 136 230 (vz_s1 (lv) 4 (.int (if (l_3 - l_1) ≤ 9 then 2 else 39 : Int32))) [.int (if (if (l_3 - l_1) ≤ 9 then 2 else 39 : Int32) = 39 then 0 else 1 : Int32)] (hp (p_36)) (.inl none, hp p)) ?_ (fun J => ?_)
            · refine ev_x (i := .istore_n 2) (len := 1) (p' := 231) (s' := []) (l' := vz_s1 (vz_s1 (lv) 4 (.int (if (l_3 - l_1) ≤ 9 then 2 else 39 : Int32))) 2 (.int (if (if (l_3 - l_1) ≤ 9 then 2 else 39 : Int32) = 39 then 0 else 1 : Int32))) rfl rfl rfl ?_
              refine ev_x (i := .aload_n 0) (len := 1) (p' := 232) (s' := [.ref 66]) rfl rfl (ld_a (vg_o (i := 2) (v := .int (if (if (l_3 - l_1) ≤ 9 then 2 else 39 : Int32) = 39 then 0 else 1 : Int32)) (vg_o (i := 4) (v := .int (if (l_3 - l_1) ≤ 9 then 2 else 39 : Int32)) g_0 (by decide) (Or.inl rfl)) (by decide) (Or.inl rfl))) ?_
              refine ev_x (i := .iload_n 3) (len := 1) (p' := 233) (s' := [.int l_3, .ref 66]) rfl rfl (ld_i (vg_o (i := 2) (v := .int (if (if (l_3 - l_1) ≤ 9 then 2 else 39 : Int32) = 39 then 0 else 1 : Int32)) (vg_o (i := 4) (v := .int (if (l_3 - l_1) ≤ 9 then 2 else 39 : Int32)) g_3 (by decide) (Or.inl rfl)) (by decide) (Or.inl rfl))) ?_
              obtain ⟨p_38, G_38, H⟩ := F_bd H
              refine ev_cv (d := d + 9) (As := [.int l_3]) (a := 66) (p' := 236) rfl rfl rfl ly_66 rfl rfl rfl rfl rfl (nb_s1 (nb_s1 hnb rfl) rfl) rfl (F_137_ok (d := d + 6) (hx := (Or.inl rfl)) (hr_66_2 := ((congrFun (congrFun e_36 66) 2).trans ((congrFun (congrFun e_33 66) 2).trans ((congrFun (congrFun e_32 66) 2).trans hr_66_2)))) G_38) ?_
              refine ev_st (st' := [.int p_38.1]) rfl ?_
              have e_38 := F_137_R G_38
              refine ev_x (i := .istore_n 1) (len := 1) (p' := 237) (s' := []) (l' := vz_s1 (vz_s1 (vz_s1 (lv) 4 (.int (if (l_3 - l_1) ≤ 9 then 2 else 39 : Int32))) 2 (.int (if (if (l_3 - l_1) ≤ 9 then 2 else 39 : Int32) = 39 then 0 else 1 : Int32))) 1 (.int p_38.1)) rfl rfl rfl ?_
              refine ev_x (i := .goto (-205)) (len := 3) (p' := 32) (s' := []) rfl rfl rfl ?_
              exact ih.1 _ _ _ _ _ _ (vg_o (i := 1) (v := .int p_38.1) (vg_o (i := 2) (v := .int (if (if (l_3 - l_1) ≤ 9 then 2 else 39 : Int32) = 39 then 0 else 1 : Int32)) (vg_o (i := 4) (v := .int (if (l_3 - l_1) ≤ 9 then 2 else 39 : Int32)) g_0 (by decide) (Or.inl rfl)) (by decide) (Or.inl rfl)) (by decide) (Or.inl rfl)) (vg_s (vz_s1 (vz_s1 (lv) 4 (.int (if (l_3 - l_1) ≤ 9 then 2 else 39 : Int32))) 2 (.int (if (if (l_3 - l_1) ≤ 9 then 2 else 39 : Int32) = 39 then 0 else 1 : Int32))) 1 (.int p_38.1)) (vg_o (i := 1) (v := .int p_38.1) (vg_s (vz_s1 (lv) 4 (.int (if (l_3 - l_1) ≤ 9 then 2 else 39 : Int32))) 2 (.int (if (if (l_3 - l_1) ≤ 9 then 2 else 39 : Int32) = 39 then 0 else 1 : Int32))) (by decide) (Or.inl rfl)) (nb_s1 (nb_s1 (nb_s1 hnb rfl) rfl) rfl) ((congrFun (congrFun e_38 66) 2).trans ((congrFun (congrFun e_36 66) 2).trans ((congrFun (congrFun e_33 66) 2).trans ((congrFun (congrFun e_32 66) 2).trans hr_66_2)))) H
            · by_cases c_37 : (if (l_3 - l_1) ≤ 9 then 2 else 39 : Int32) = 39
              · refine ev_b2 (t := 229) (p' := 229) rfl rfl rfl (if_pos c_37) ?_
                refine ev_x (i := .iconst 0) (len := 1) (p' := 230) (s' := [.int 0]) rfl rfl rfl ?_
                exact ev_st (congrArg (fun z => Value.int z :: []) (by rw [if_pos c_37])) J
              · refine ev_b2 (t := 229) (p' := 225) rfl rfl rfl (if_neg c_37) ?_
                refine ev_x (i := .iconst 1) (len := 1) (p' := 226) (s' := [.int 1]) rfl rfl rfl ?_
                refine ev_x (i := .goto 4) (len := 3) (p' := 230) (s' := [.int 1]) rfl rfl rfl ?_
                exact ev_st (congrArg (fun z => Value.int z :: []) (by rw [if_neg c_37])) J
          · by_cases c_35 : (l_3 - l_1) ≤ 9
            · refine ev_b2 (t := 163) (p' := 163) rfl rfl rfl (if_pos c_35) ?_
              refine ev_x (i := .iconst 2) (len := 1) (p' := 164) (s' := [.int 2]) rfl rfl rfl ?_
              exact ev_st (congrArg (fun z => Value.int z :: []) (by rw [if_pos c_35])) J
            · refine ev_b2 (t := 163) (p' := 158) rfl rfl rfl (if_neg c_35) ?_
              refine ev_x (i := .bipush 39) (len := 2) (p' := 160) (s' := [.int 39]) rfl rfl rfl ?_
              refine ev_x (i := .goto 4) (len := 3) (p' := 164) (s' := [.int 39]) rfl rfl rfl ?_
              exact ev_st (congrArg (fun z => Value.int z :: []) (by rw [if_neg c_35])) J
        · refine ev_b0 (t := 150) (p' := 144) rfl rfl rfl (if_neg c_34) ?_
          refine ev_x (i := .iinc 3 1) (len := 3) (p' := 147) (s' := []) (l' := vz_s1 (lv) 3 (.int (l_3 + 1))) rfl rfl (ld_inc g_3 rfl) ?_
          refine ev_x (i := .goto (-14)) (len := 3) (p' := 133) (s' := []) rfl rfl rfl ?_
          exact ih.2.2 _ _ _ _ _ _ (vg_o (i := 3) (v := .int (l_3 + 1)) g_0 (by decide) (Or.inl rfl)) (vg_o (i := 3) (v := .int (l_3 + 1)) g_1 (by decide) (Or.inl rfl)) (vg_s (lv) 3 (.int (l_3 + 1))) (nb_s1 hnb rfl) ((congrFun (congrFun e_33 66) 2).trans ((congrFun (congrFun e_32 66) 2).trans hr_66_2)) H
  · intro k
    induction k with
    | zero => exact ⟨(by intro l_1 l_2 l_3 σ lv p g_0 g_1 g_2 hnb hr_66_2 H; unfold L_136 at H; cases H), (by intro l_1 l_2 l_3 σ lv p g_0 g_1 g_3 hnb hr_66_2 H; unfold L_136 at H; cases H), (by intro l_1 l_2 l_3 σ lv p g_0 g_1 g_3 hnb hr_66_2 H; unfold L_136 at H; cases H)⟩
    | succ k ih =>
      refine ⟨?_, ?_, ?_⟩
      · intro l_1 l_2 l_3 σ lv p g_0 g_1 g_2 hnb hr_66_2 H
        unfold L_136 at H
        rw [if_pos rfl] at H
        refine ev_x (i := .iload_n 2) (len := 1) (p' := 33) (s' := [.int l_2]) rfl rfl (ld_i g_2) ?_
        refine F_if H (fun c_2 H => ?_) (fun c_2 H => ?_)
        · refine ev_b0 (t := 240) (p' := 240) rfl rfl rfl (if_pos c_2) ?_
          exact J_136_240_ok (d := d) (Or.inr rfl) g_0 g_2 hnb hr_66_2 H
        · refine ev_b0 (t := 240) (p' := 36) rfl rfl rfl (if_neg c_2) ?_
          refine ev_x (i := .iload_n 1) (len := 1) (p' := 37) (s' := [.int l_1]) rfl rfl (ld_i g_1) ?_
          refine ev_x (i := .aload_n 0) (len := 1) (p' := 38) (s' := [.ref 66, .int l_1]) rfl rfl (ld_a g_0) ?_
          refine ev_gr (p' := 41) (v := 69) rfl rfl rfl ly_66 rfl rfl hr_66_2 ?_
          refine ev_gi (p' := 44) (v := (gI σ 69 1)) rfl rfl rfl ly_69 rfl rfl rfl ?_
          refine F_if H (fun c_3 H => ?_) (fun c_3 H => ?_)
          · refine ev_b2 (t := 240) (p' := 240) rfl rfl rfl (if_pos c_3) ?_
            exact J_136_240_ok (d := d) (Or.inr rfl) g_0 g_2 hnb hr_66_2 H
          · refine ev_b2 (t := 240) (p' := 47) rfl rfl rfl (if_neg c_3) ?_
            refine ev_x (i := .iload_n 1) (len := 1) (p' := 48) (s' := [.int l_1]) rfl rfl (ld_i g_1) ?_
            refine ev_x (i := .istore_n 3) (len := 1) (p' := 49) (s' := []) (l' := vz_s1 (lv) 3 (.int l_1)) rfl rfl rfl ?_
            refine ev_x (i := .aload_n 0) (len := 1) (p' := 50) (s' := [.ref 66]) rfl rfl (ld_a (vg_o (i := 3) (v := .int l_1) g_0 (by decide) (Or.inl rfl))) ?_
            refine ev_x (i := .iload_n 1) (len := 1) (p' := 51) (s' := [.int l_1, .ref 66]) rfl rfl (ld_i (vg_o (i := 3) (v := .int l_1) g_1 (by decide) (Or.inl rfl))) ?_
            obtain ⟨p_4, G_4, H⟩ := F_bd H
            refine ev_cv (d := d + 9) (As := [.int l_1]) (a := 66) (p' := 54) rfl rfl rfl ly_66 rfl rfl rfl rfl rfl (nb_s1 hnb rfl) rfl (F_138_ok (d := d + 7) (hx := (Or.inr rfl)) (hr_66_2 := hr_66_2) G_4) ?_
            refine ev_st (st' := [.int p_4.1]) rfl ?_
            have e_4 := F_138_R G_4
            obtain ⟨p_5, G_5, H⟩ := F_bd H
            refine ev_callS (d := d + 9) (As := [.int p_4.1]) rfl rfl rfl (by decide) rfl rfl rfl rfl (nb_s1 hnb rfl) (F_141_ok (d := d + 8)   G_5) ?_
            refine ev_st (st' := [.int p_5.1]) rfl ?_
            refine ev_pc (pc' := 57) rfl ?_
            have e_5 := F_141_R G_5
            refine F_if H (fun c_6 H => ?_) (fun c_6 H => ?_)
            · refine ev_b0 (t := 122) (p' := 122) rfl rfl rfl (if_pos c_6) ?_
              refine ev_x (i := .aload_n 0) (len := 1) (p' := 123) (s' := [.ref 66]) rfl rfl (ld_a (vg_o (i := 3) (v := .int l_1) g_0 (by decide) (Or.inl rfl))) ?_
              refine ev_x (i := .iload_n 1) (len := 1) (p' := 124) (s' := [.int l_1, .ref 66]) rfl rfl (ld_i (vg_o (i := 3) (v := .int l_1) g_1 (by decide) (Or.inl rfl))) ?_
              obtain ⟨p_7, G_7, H⟩ := F_bd H
              refine ev_cv (d := d + 9) (As := [.int l_1]) (a := 66) (p' := 127) rfl rfl rfl ly_66 rfl rfl rfl rfl rfl (nb_s1 hnb rfl) rfl (F_138_ok (d := d + 7) (hx := (Or.inr rfl)) (hr_66_2 := ((congrFun (congrFun e_5 66) 2).trans ((congrFun (congrFun e_4 66) 2).trans hr_66_2))) G_7) ?_
              refine ev_st (st' := [.int p_7.1]) rfl ?_
              have e_7 := F_138_R G_7
              obtain ⟨p_8, G_8, H⟩ := F_bd H
              refine ev_callS (d := d + 9) (As := [.int p_7.1]) rfl rfl rfl (by decide) rfl rfl rfl rfl (nb_s1 hnb rfl) (F_142_ok (d := d + 8)   G_8) ?_
              refine ev_st (st' := [.int p_8.1]) rfl ?_
              refine ev_pc (pc' := 130) rfl ?_
              have e_8 := F_142_R G_8
              refine F_if H (fun c_9 H => ?_) (fun c_9 H => ?_)
              · refine ev_b0 (t := 169) (p' := 169) rfl rfl rfl (if_pos c_9) ?_
                refine ev_x (i := .aload_n 0) (len := 1) (p' := 170) (s' := [.ref 66]) rfl rfl (ld_a (vg_o (i := 3) (v := .int l_1) g_0 (by decide) (Or.inl rfl))) ?_
                refine ev_x (i := .iload_n 1) (len := 1) (p' := 171) (s' := [.int l_1, .ref 66]) rfl rfl (ld_i (vg_o (i := 3) (v := .int l_1) g_1 (by decide) (Or.inl rfl))) ?_
                obtain ⟨p_10, G_10, H⟩ := F_bd H
                refine ev_cv (d := d + 9) (As := [.int l_1]) (a := 66) (p' := 174) rfl rfl rfl ly_66 rfl rfl rfl rfl rfl (nb_s1 hnb rfl) rfl (F_145_ok (d := d + 6) (hx := (Or.inr rfl)) (hr_66_2 := ((congrFun (congrFun e_8 66) 2).trans ((congrFun (congrFun e_7 66) 2).trans ((congrFun (congrFun e_5 66) 2).trans ((congrFun (congrFun e_4 66) 2).trans hr_66_2))))) G_10) ?_
                refine ev_st (st' := [.int p_10.1]) rfl ?_
                have e_10 := F_145_R G_10
                refine ev_x (i := .istore 4) (len := 2) (p' := 176) (s' := []) (l' := vz_s1 (vz_s1 (lv) 3 (.int l_1)) 4 (.int p_10.1)) rfl rfl rfl ?_
                refine ev_x (i := .iload 4) (len := 2) (p' := 178) (s' := [.int p_10.1]) rfl rfl (ld_i (vg_s (vz_s1 (lv) 3 (.int l_1)) 4 (.int p_10.1))) ?_
                refine ev_x (i := .bipush 16) (len := 2) (p' := 180) (s' := [.int 16, .int p_10.1]) rfl rfl rfl ?_
                refine F_jn (A := vz_ev P0 (d + 10) 136 195 (vz_s1 (vz_s1 (lv) 3 (.int l_1)) 4 (.int p_10.1)) [.int (if p_10.1 < 16 then 0 else (if 20 < p_10.1 then 0 else 1) : Int32)] (hp (p_10.2)) (.inl none, hp p)) ?_ (fun J => ?_)
                · refine ev_x (i := .istore 5) (len := 2) (p' := 197) (s' := []) (l' := vz_s1 (vz_s1 (vz_s1 (lv) 3 (.int l_1)) 4 (.int p_10.1)) 5 (.int (if p_10.1 < 16 then 0 else (if 20 < p_10.1 then 0 else 1) : Int32))) rfl rfl rfl ?_
                  refine ev_x (i := .iload_n 1) (len := 1) (p' := 198) (s' := [.int l_1]) rfl rfl (ld_i (vg_o (i := 5) (v := .int (if p_10.1 < 16 then 0 else (if 20 < p_10.1 then 0 else 1) : Int32)) (vg_o (i := 4) (v := .int p_10.1) (vg_o (i := 3) (v := .int l_1) g_1 (by decide) (Or.inl rfl)) (by decide) (Or.inl rfl)) (by decide) (Or.inl rfl))) ?_
                  refine ev_x (i := .iload 5) (len := 2) (p' := 200) (s' := [.int (if p_10.1 < 16 then 0 else (if 20 < p_10.1 then 0 else 1) : Int32), .int l_1]) rfl rfl (ld_i (vg_s (vz_s1 (vz_s1 (lv) 3 (.int l_1)) 4 (.int p_10.1)) 5 (.int (if p_10.1 < 16 then 0 else (if 20 < p_10.1 then 0 else 1) : Int32)))) ?_
                  refine F_jn (A := vz_ev P0 (d + 10) 136 208 (vz_s1 (vz_s1 (vz_s1 (lv) 3 (.int l_1)) 4 (.int p_10.1)) 5 (.int (if p_10.1 < 16 then 0 else (if 20 < p_10.1 then 0 else 1) : Int32))) [.int (if (if p_10.1 < 16 then 0 else (if 20 < p_10.1 then 0 else 1) : Int32) = 0 then 1 else 2 : Int32), .int l_1] (hp (p_10.2)) (.inl none, hp p)) ?_ (fun J => ?_)
                  · refine ev_x (i := .iadd) (len := 1) (p' := 209) (s' := [.int (l_1 + (if (if p_10.1 < 16 then 0 else (if 20 < p_10.1 then 0 else 1) : Int32) = 0 then 1 else 2 : Int32))]) rfl rfl rfl ?_
                    refine ev_x (i := .istore_n 3) (len := 1) (p' := 210) (s' := []) (l' := vz_s1 (vz_s1 (vz_s1 (vz_s1 (lv) 3 (.int l_1)) 4 (.int p_10.1)) 5 (.int (if p_10.1 < 16 then 0 else (if 20 < p_10.1 then 0 else 1) : Int32))) 3 (.int (l_1 + (if (if p_10.1 < 16 then 0 else (if 20 < p_10.1 then 0 else 1) : Int32) = 0 then 1 else 2 : Int32)))) rfl rfl rfl ?_
                    refine ev_x (i := .aload_n 0) (len := 1) (p' := 211) (s' := [.ref 66]) rfl rfl (ld_a (vg_o (i := 3) (v := .int (l_1 + (if (if p_10.1 < 16 then 0 else (if 20 < p_10.1 then 0 else 1) : Int32) = 0 then 1 else 2 : Int32))) (vg_o (i := 5) (v := .int (if p_10.1 < 16 then 0 else (if 20 < p_10.1 then 0 else 1) : Int32)) (vg_o (i := 4) (v := .int p_10.1) (vg_o (i := 3) (v := .int l_1) g_0 (by decide) (Or.inl rfl)) (by decide) (Or.inl rfl)) (by decide) (Or.inl rfl)) (by decide) (Or.inl rfl))) ?_
                    refine ev_x (i := .iload 4) (len := 2) (p' := 213) (s' := [.int p_10.1, .ref 66]) rfl rfl (ld_i (vg_o (i := 3) (v := .int (l_1 + (if (if p_10.1 < 16 then 0 else (if 20 < p_10.1 then 0 else 1) : Int32) = 0 then 1 else 2 : Int32))) (vg_o (i := 5) (v := .int (if p_10.1 < 16 then 0 else (if 20 < p_10.1 then 0 else 1) : Int32)) (vg_s (vz_s1 (lv) 3 (.int l_1)) 4 (.int p_10.1)) (by decide) (Or.inl rfl)) (by decide) (Or.inl rfl))) ?_
                    refine ev_x (i := .iload_n 1) (len := 1) (p' := 214) (s' := [.int l_1, .int p_10.1, .ref 66]) rfl rfl (ld_i (vg_o (i := 3) (v := .int (l_1 + (if (if p_10.1 < 16 then 0 else (if 20 < p_10.1 then 0 else 1) : Int32) = 0 then 1 else 2 : Int32))) (vg_o (i := 5) (v := .int (if p_10.1 < 16 then 0 else (if 20 < p_10.1 then 0 else 1) : Int32)) (vg_o (i := 4) (v := .int p_10.1) (vg_o (i := 3) (v := .int l_1) g_1 (by decide) (Or.inl rfl)) (by decide) (Or.inl rfl)) (by decide) (Or.inl rfl)) (by decide) (Or.inl rfl))) ?_
                    refine ev_x (i := .iload_n 3) (len := 1) (p' := 215) (s' := [.int (l_1 + (if (if p_10.1 < 16 then 0 else (if 20 < p_10.1 then 0 else 1) : Int32) = 0 then 1 else 2 : Int32)), .int l_1, .int p_10.1, .ref 66]) rfl rfl (ld_i (vg_s (vz_s1 (vz_s1 (vz_s1 (lv) 3 (.int l_1)) 4 (.int p_10.1)) 5 (.int (if p_10.1 < 16 then 0 else (if 20 < p_10.1 then 0 else 1) : Int32))) 3 (.int (l_1 + (if (if p_10.1 < 16 then 0 else (if 20 < p_10.1 then 0 else 1) : Int32) = 0 then 1 else 2 : Int32))))) ?_
                    obtain ⟨p_14, G_14, H⟩ := F_bd H
                    refine ev_cv (d := d + 9) (As := [.int p_10.1, .int l_1, .int (l_1 + (if (if p_10.1 < 16 then 0 else (if 20 < p_10.1 then 0 else 1) : Int32) = 0 then 1 else 2 : Int32))]) (a := 66) (p' := 218) rfl rfl rfl ly_66 rfl rfl rfl rfl rfl (nb_s1 (nb_s1 (nb_s1 (nb_s1 hnb rfl) rfl) rfl) rfl) rfl (F_146_ok (d := d + 7)   G_14) ?_
                    refine ev_st (st' := []) rfl ?_
                    have e_14 := F_146_R G_14
                    refine ev_x (i := .iload 4) (len := 2) (p' := 220) (s' := [.int p_10.1]) rfl rfl (ld_i (vg_o (i := 3) (v := .int (l_1 + (if (if p_10.1 < 16 then 0 else (if 20 < p_10.1 then 0 else 1) : Int32) = 0 then 1 else 2 : Int32))) (vg_o (i := 5) (v := .int (if p_10.1 < 16 then 0 else (if 20 < p_10.1 then 0 else 1) : Int32)) (vg_s (vz_s1 (lv) 3 (.int l_1)) 4 (.int p_10.1)) (by decide) (Or.inl rfl)) (by decide) (Or.inl rfl))) ?_
                    refine ev_x (i := .bipush 39) (len := 2) (p' := 222) (s' := [.int 39, .int p_10.1]) rfl rfl rfl ?_
                    refine F_jn (A := vz_ev P0 (d + 10) 136 230 (vz_s1 (vz_s1 (vz_s1 (vz_s1 (lv) 3 (.int l_1)) 4 (.int p_10.1)) 5 (.int (if p_10.1 < 16 then 0 else (if 20 < p_10.1 then 0 else 1) : Int32))) 3 (.int (l_1 + (if (if p_10.1 < 16 then 0 else (if 20 < p_10.1 then 0 else 1) : Int32) = 0 then 1 else 2 : Int32)))) [.int (if p_10.1 = 39 then 0 else 1 : Int32)] (hp (p_14)) (.inl none, hp p)) ?_ (fun J => ?_)
                    · refine ev_x (i := .istore_n 2) (len := 1) (p' := 231) (s' := []) (l' := vz_s1 (vz_s1 (vz_s1 (vz_s1 (vz_s1 (lv) 3 (.int l_1)) 4 (.int p_10.1)) 5 (.int (if p_10.1 < 16 then 0 else (if 20 < p_10.1 then 0 else 1) : Int32))) 3 (.int (l_1 + (if (if p_10.1 < 16 then 0 else (if 20 < p_10.1 then 0 else 1) : Int32) = 0 then 1 else 2 : Int32)))) 2 (.int (if p_10.1 = 39 then 0 else 1 : Int32))) rfl rfl rfl ?_
                      refine ev_x (i := .aload_n 0) (len := 1) (p' := 232) (s' := [.ref 66]) rfl rfl (ld_a (vg_o (i := 2) (v := .int (if p_10.1 = 39 then 0 else 1 : Int32)) (vg_o (i := 3) (v := .int (l_1 + (if (if p_10.1 < 16 then 0 else (if 20 < p_10.1 then 0 else 1) : Int32) = 0 then 1 else 2 : Int32))) (vg_o (i := 5) (v := .int (if p_10.1 < 16 then 0 else (if 20 < p_10.1 then 0 else 1) : Int32)) (vg_o (i := 4) (v := .int p_10.1) (vg_o (i := 3) (v := .int l_1) g_0 (by decide) (Or.inl rfl)) (by decide) (Or.inl rfl)) (by decide) (Or.inl rfl)) (by decide) (Or.inl rfl)) (by decide) (Or.inl rfl))) ?_
                      refine ev_x (i := .iload_n 3) (len := 1) (p' := 233) (s' := [.int (l_1 + (if (if p_10.1 < 16 then 0 else (if 20 < p_10.1 then 0 else 1) : Int32) = 0 then 1 else 2 : Int32)), .ref 66]) rfl rfl (ld_i (vg_o (i := 2) (v := .int (if p_10.1 = 39 then 0 else 1 : Int32)) (vg_s (vz_s1 (vz_s1 (vz_s1 (lv) 3 (.int l_1)) 4 (.int p_10.1)) 5 (.int (if p_10.1 < 16 then 0 else (if 20 < p_10.1 then 0 else 1) : Int32))) 3 (.int (l_1 + (if (if p_10.1 < 16 then 0 else (if 20 < p_10.1 then 0 else 1) : Int32) = 0 then 1 else 2 : Int32)))) (by decide) (Or.inl rfl))) ?_
                      obtain ⟨p_16, G_16, H⟩ := F_bd H
                      refine ev_cv (d := d + 9) (As := [.int (l_1 + (if (if p_10.1 < 16 then 0 else (if 20 < p_10.1 then 0 else 1) : Int32) = 0 then 1 else 2 : Int32))]) (a := 66) (p' := 236) rfl rfl rfl ly_66 rfl rfl rfl rfl rfl (nb_s1 (nb_s1 (nb_s1 (nb_s1 (nb_s1 hnb rfl) rfl) rfl) rfl) rfl) rfl (F_137_ok (d := d + 6) (hx := (Or.inr rfl)) (hr_66_2 := ((congrFun (congrFun e_14 66) 2).trans ((congrFun (congrFun e_10 66) 2).trans ((congrFun (congrFun e_8 66) 2).trans ((congrFun (congrFun e_7 66) 2).trans ((congrFun (congrFun e_5 66) 2).trans ((congrFun (congrFun e_4 66) 2).trans hr_66_2))))))) G_16) ?_
                      refine ev_st (st' := [.int p_16.1]) rfl ?_
                      have e_16 := F_137_R G_16
                      refine ev_x (i := .istore_n 1) (len := 1) (p' := 237) (s' := []) (l' := vz_s1 (vz_s1 (vz_s1 (vz_s1 (vz_s1 (vz_s1 (lv) 3 (.int l_1)) 4 (.int p_10.1)) 5 (.int (if p_10.1 < 16 then 0 else (if 20 < p_10.1 then 0 else 1) : Int32))) 3 (.int (l_1 + (if (if p_10.1 < 16 then 0 else (if 20 < p_10.1 then 0 else 1) : Int32) = 0 then 1 else 2 : Int32)))) 2 (.int (if p_10.1 = 39 then 0 else 1 : Int32))) 1 (.int p_16.1)) rfl rfl rfl ?_
                      refine ev_x (i := .goto (-205)) (len := 3) (p' := 32) (s' := []) rfl rfl rfl ?_
                      exact ih.1 _ _ _ _ _ _ (vg_o (i := 1) (v := .int p_16.1) (vg_o (i := 2) (v := .int (if p_10.1 = 39 then 0 else 1 : Int32)) (vg_o (i := 3) (v := .int (l_1 + (if (if p_10.1 < 16 then 0 else (if 20 < p_10.1 then 0 else 1) : Int32) = 0 then 1 else 2 : Int32))) (vg_o (i := 5) (v := .int (if p_10.1 < 16 then 0 else (if 20 < p_10.1 then 0 else 1) : Int32)) (vg_o (i := 4) (v := .int p_10.1) (vg_o (i := 3) (v := .int l_1) g_0 (by decide) (Or.inl rfl)) (by decide) (Or.inl rfl)) (by decide) (Or.inl rfl)) (by decide) (Or.inl rfl)) (by decide) (Or.inl rfl)) (by decide) (Or.inl rfl)) (vg_s (vz_s1 (vz_s1 (vz_s1 (vz_s1 (vz_s1 (lv) 3 (.int l_1)) 4 (.int p_10.1)) 5 (.int (if p_10.1 < 16 then 0 else (if 20 < p_10.1 then 0 else 1) : Int32))) 3 (.int (l_1 + (if (if p_10.1 < 16 then 0 else (if 20 < p_10.1 then 0 else 1) : Int32) = 0 then 1 else 2 : Int32)))) 2 (.int (if p_10.1 = 39 then 0 else 1 : Int32))) 1 (.int p_16.1)) (vg_o (i := 1) (v := .int p_16.1) (vg_s (vz_s1 (vz_s1 (vz_s1 (vz_s1 (lv) 3 (.int l_1)) 4 (.int p_10.1)) 5 (.int (if p_10.1 < 16 then 0 else (if 20 < p_10.1 then 0 else 1) : Int32))) 3 (.int (l_1 + (if (if p_10.1 < 16 then 0 else (if 20 < p_10.1 then 0 else 1) : Int32) = 0 then 1 else 2 : Int32)))) 2 (.int (if p_10.1 = 39 then 0 else 1 : Int32))) (by decide) (Or.inl rfl)) (nb_s1 (nb_s1 (nb_s1 (nb_s1 (nb_s1 (nb_s1 hnb rfl) rfl) rfl) rfl) rfl) rfl) ((congrFun (congrFun e_16 66) 2).trans ((congrFun (congrFun e_14 66) 2).trans ((congrFun (congrFun e_10 66) 2).trans ((congrFun (congrFun e_8 66) 2).trans ((congrFun (congrFun e_7 66) 2).trans ((congrFun (congrFun e_5 66) 2).trans ((congrFun (congrFun e_4 66) 2).trans hr_66_2))))))) H
                    · by_cases c_15 : p_10.1 = 39
                      · refine ev_b2 (t := 229) (p' := 229) rfl rfl rfl (if_pos c_15) ?_
                        refine ev_x (i := .iconst 0) (len := 1) (p' := 230) (s' := [.int 0]) rfl rfl rfl ?_
                        exact ev_st (congrArg (fun z => Value.int z :: []) (by rw [if_pos c_15])) J
                      · refine ev_b2 (t := 229) (p' := 225) rfl rfl rfl (if_neg c_15) ?_
                        refine ev_x (i := .iconst 1) (len := 1) (p' := 226) (s' := [.int 1]) rfl rfl rfl ?_
                        refine ev_x (i := .goto 4) (len := 3) (p' := 230) (s' := [.int 1]) rfl rfl rfl ?_
                        exact ev_st (congrArg (fun z => Value.int z :: []) (by rw [if_neg c_15])) J
                  · by_cases c_13 : (if p_10.1 < 16 then 0 else (if 20 < p_10.1 then 0 else 1) : Int32) = 0
                    · refine ev_b0 (t := 207) (p' := 207) rfl rfl rfl (if_pos c_13) ?_
                      refine ev_x (i := .iconst 1) (len := 1) (p' := 208) (s' := [.int 1, .int l_1]) rfl rfl rfl ?_
                      exact ev_st (congrArg (fun z => Value.int z :: [.int l_1]) (by rw [if_pos c_13])) J
                    · refine ev_b0 (t := 207) (p' := 203) rfl rfl rfl (if_neg c_13) ?_
                      refine ev_x (i := .iconst 2) (len := 1) (p' := 204) (s' := [.int 2, .int l_1]) rfl rfl rfl ?_
                      refine ev_x (i := .goto 4) (len := 3) (p' := 208) (s' := [.int 2, .int l_1]) rfl rfl rfl ?_
                      exact ev_st (congrArg (fun z => Value.int z :: [.int l_1]) (by rw [if_neg c_13])) J
                · by_cases c_11 : p_10.1 < 16
                  · refine ev_b2 (t := 194) (p' := 194) rfl rfl rfl (if_pos c_11) ?_
                    refine ev_x (i := .iconst 0) (len := 1) (p' := 195) (s' := [.int 0]) rfl rfl rfl ?_
                    exact ev_st (congrArg (fun z => Value.int z :: []) (by rw [if_pos c_11])) J
                  · refine ev_b2 (t := 194) (p' := 183) rfl rfl rfl (if_neg c_11) ?_
                    refine ev_x (i := .iload 4) (len := 2) (p' := 185) (s' := [.int p_10.1]) rfl rfl (ld_i (vg_s (vz_s1 (lv) 3 (.int l_1)) 4 (.int p_10.1))) ?_
                    refine ev_x (i := .bipush 20) (len := 2) (p' := 187) (s' := [.int 20, .int p_10.1]) rfl rfl rfl ?_
                    by_cases c_12 : 20 < p_10.1
                    · refine ev_b2 (t := 194) (p' := 194) rfl rfl rfl (if_pos c_12) ?_
                      refine ev_x (i := .iconst 0) (len := 1) (p' := 195) (s' := [.int 0]) rfl rfl rfl ?_
                      exact ev_st (congrArg (fun z => Value.int z :: []) (by rw [if_neg c_11, if_pos c_12])) J
                    · refine ev_b2 (t := 194) (p' := 190) rfl rfl rfl (if_neg c_12) ?_
                      refine ev_x (i := .iconst 1) (len := 1) (p' := 191) (s' := [.int 1]) rfl rfl rfl ?_
                      refine ev_x (i := .goto 4) (len := 3) (p' := 195) (s' := [.int 1]) rfl rfl rfl ?_
                      exact ev_st (congrArg (fun z => Value.int z :: []) (by rw [if_neg c_11, if_neg c_12])) J
              · refine ev_b0 (t := 169) (p' := 133) rfl rfl rfl (if_neg c_9) ?_
                exact ih.2.2 _ _ _ _ _ _ (vg_o (i := 3) (v := .int l_1) g_0 (by decide) (Or.inl rfl)) (vg_o (i := 3) (v := .int l_1) g_1 (by decide) (Or.inl rfl)) (vg_s (lv) 3 (.int l_1)) (nb_s1 hnb rfl) ((congrFun (congrFun e_8 66) 2).trans ((congrFun (congrFun e_7 66) 2).trans ((congrFun (congrFun e_5 66) 2).trans ((congrFun (congrFun e_4 66) 2).trans hr_66_2)))) H
            · refine ev_b0 (t := 122) (p' := 60) rfl rfl rfl (if_neg c_6) ?_
              exact ih.2.1 _ _ _ _ _ _ (vg_o (i := 3) (v := .int l_1) g_0 (by decide) (Or.inl rfl)) (vg_o (i := 3) (v := .int l_1) g_1 (by decide) (Or.inl rfl)) (vg_s (lv) 3 (.int l_1)) (nb_s1 hnb rfl) ((congrFun (congrFun e_5 66) 2).trans ((congrFun (congrFun e_4 66) 2).trans hr_66_2)) H
      · intro l_1 l_2 l_3 σ lv p g_0 g_1 g_3 hnb hr_66_2 H
        unfold L_136 at H
        rw [if_neg (by decide)] at H
        rw [if_pos rfl] at H
        refine ev_x (i := .aload_n 0) (len := 1) (p' := 61) (s' := [.ref 66]) rfl rfl (ld_a g_0) ?_
        refine ev_x (i := .iload_n 3) (len := 1) (p' := 62) (s' := [.int l_3, .ref 66]) rfl rfl (ld_i g_3) ?_
        obtain ⟨p_17, G_17, H⟩ := F_bd H
        refine ev_cv (d := d + 9) (As := [.int l_3]) (a := 66) (p' := 65) rfl rfl rfl ly_66 rfl rfl rfl rfl rfl hnb rfl (F_138_ok (d := d + 7) (hx := (Or.inr rfl)) (hr_66_2 := hr_66_2) G_17) ?_
        refine ev_st (st' := [.int p_17.1]) rfl ?_
        have e_17 := F_138_R G_17
        obtain ⟨p_18, G_18, H⟩ := F_bd H
        refine ev_callS (d := d + 9) (As := [.int p_17.1]) rfl rfl rfl (by decide) rfl rfl rfl rfl hnb (F_141_ok (d := d + 8)   G_18) ?_
        refine ev_st (st' := [.int p_18.1]) rfl ?_
        refine ev_pc (pc' := 68) rfl ?_
        have e_18 := F_141_R G_18
        refine F_if H (fun c_19 H => ?_) (fun c_19 H => ?_)
        · refine ev_b0 (t := 92) (p' := 71) rfl rfl rfl (if_neg (fun q => q c_19)) ?_
          refine ev_x (i := .aload_n 0) (len := 1) (p' := 72) (s' := [.ref 66]) rfl rfl (ld_a g_0) ?_
          refine ev_x (i := .iload_n 3) (len := 1) (p' := 73) (s' := [.int l_3, .ref 66]) rfl rfl (ld_i g_3) ?_
          obtain ⟨p_20, G_20, H⟩ := F_bd H
          refine ev_cv (d := d + 9) (As := [.int l_3]) (a := 66) (p' := 76) rfl rfl rfl ly_66 rfl rfl rfl rfl rfl hnb rfl (F_138_ok (d := d + 7) (hx := (Or.inr rfl)) (hr_66_2 := ((congrFun (congrFun e_18 66) 2).trans ((congrFun (congrFun e_17 66) 2).trans hr_66_2))) G_20) ?_
          refine ev_st (st' := [.int p_20.1]) rfl ?_
          have e_20 := F_138_R G_20
          obtain ⟨p_21, G_21, H⟩ := F_bd H
          refine ev_callS (d := d + 9) (As := [.int p_20.1]) rfl rfl rfl (by decide) rfl rfl rfl rfl hnb (F_142_ok (d := d + 8)   G_21) ?_
          refine ev_st (st' := [.int p_21.1]) rfl ?_
          refine ev_pc (pc' := 79) rfl ?_
          have e_21 := F_142_R G_21
          refine F_if H (fun c_22 H => ?_) (fun c_22 H => ?_)
          · refine ev_b0 (t := 92) (p' := 82) rfl rfl rfl (if_neg (fun q => q c_22)) ?_
            refine ev_x (i := .aload_n 0) (len := 1) (p' := 83) (s' := [.ref 66]) rfl rfl (ld_a g_0) ?_
            refine ev_x (i := .iload_n 3) (len := 1) (p' := 84) (s' := [.int l_3, .ref 66]) rfl rfl (ld_i g_3) ?_
            obtain ⟨p_23, G_23, H⟩ := F_bd H
            refine ev_cv (d := d + 9) (As := [.int l_3]) (a := 66) (p' := 87) rfl rfl rfl ly_66 rfl rfl rfl rfl rfl hnb rfl (F_138_ok (d := d + 7) (hx := (Or.inr rfl)) (hr_66_2 := ((congrFun (congrFun e_21 66) 2).trans ((congrFun (congrFun e_20 66) 2).trans ((congrFun (congrFun e_18 66) 2).trans ((congrFun (congrFun e_17 66) 2).trans hr_66_2))))) G_23) ?_
            refine ev_st (st' := [.int p_23.1]) rfl ?_
            have e_23 := F_138_R G_23
            refine ev_x (i := .bipush 95) (len := 2) (p' := 89) (s' := [.int 95, .int p_23.1]) rfl rfl rfl ?_
            refine F_if H (fun c_24 H => ?_) (fun c_24 H => ?_)
            · refine ev_b2 (t := 98) (p' := 92) rfl rfl rfl (if_neg (fun q => q c_24)) ?_
              refine ev_x (i := .iinc 3 1) (len := 3) (p' := 95) (s' := []) (l' := vz_s1 (lv) 3 (.int (l_3 + 1))) rfl rfl (ld_inc g_3 rfl) ?_
              refine ev_x (i := .goto (-35)) (len := 3) (p' := 60) (s' := []) rfl rfl rfl ?_
              exact ih.2.1 _ _ _ _ _ _ (vg_o (i := 3) (v := .int (l_3 + 1)) g_0 (by decide) (Or.inl rfl)) (vg_o (i := 3) (v := .int (l_3 + 1)) g_1 (by decide) (Or.inl rfl)) (vg_s (lv) 3 (.int (l_3 + 1))) (nb_s1 hnb rfl) ((congrFun (congrFun e_23 66) 2).trans ((congrFun (congrFun e_21 66) 2).trans ((congrFun (congrFun e_20 66) 2).trans ((congrFun (congrFun e_18 66) 2).trans ((congrFun (congrFun e_17 66) 2).trans hr_66_2))))) H
            · refine ev_b2 (t := 98) (p' := 98) rfl rfl rfl (if_pos c_24) ?_
              refine ev_x (i := .iload_n 3) (len := 1) (p' := 99) (s' := [.int l_3]) rfl rfl (ld_i g_3) ?_
              refine ev_x (i := .iload_n 1) (len := 1) (p' := 100) (s' := [.int l_1, .int l_3]) rfl rfl (ld_i g_1) ?_
              refine ev_x (i := .isub) (len := 1) (p' := 101) (s' := [.int (l_3 - l_1)]) rfl rfl rfl ?_
              refine ev_x (i := .bipush 40) (len := 2) (p' := 103) (s' := [.int 40, .int (l_3 - l_1)]) rfl rfl rfl ?_
              refine F_if H (fun c_25 H => ?_) (fun c_25 H => ?_)
              · refine ev_b2 (t := 111) (p' := 111) rfl rfl rfl (if_pos c_25) ?_
                refine ev_x (i := .aload_n 0) (len := 1) (p' := 112) (s' := [.ref 66]) rfl rfl (ld_a g_0) ?_
                refine ev_x (i := .iload_n 1) (len := 1) (p' := 113) (s' := [.int l_1, .ref 66]) rfl rfl (ld_i g_1) ?_
                refine ev_x (i := .iload_n 3) (len := 1) (p' := 114) (s' := [.int l_3, .int l_1, .ref 66]) rfl rfl (ld_i g_3) ?_
                obtain ⟨p_26, G_26, H⟩ := F_bd H
                refine ev_cv (d := d + 9) (As := [.int l_1, .int l_3]) (a := 66) (p' := 117) rfl rfl rfl ly_66 rfl rfl rfl rfl rfl hnb rfl (F_143_ok (d := d + 0) (hx := (Or.inr rfl)) (hr_66_2 := ((congrFun (congrFun e_23 66) 2).trans ((congrFun (congrFun e_21 66) 2).trans ((congrFun (congrFun e_20 66) 2).trans ((congrFun (congrFun e_18 66) 2).trans ((congrFun (congrFun e_17 66) 2).trans hr_66_2)))))) G_26) ?_
                refine ev_st (st' := [.int p_26.1]) rfl ?_
                have e_26 := F_143_R G_26
                refine ev_x (i := .istore 4) (len := 2) (p' := 119) (s' := []) (l' := vz_s1 (lv) 4 (.int p_26.1)) rfl rfl rfl ?_
                refine ev_x (i := .goto 91) (len := 3) (p' := 210) (s' := []) rfl rfl rfl ?_
                refine ev_x (i := .aload_n 0) (len := 1) (p' := 211) (s' := [.ref 66]) rfl rfl (ld_a (vg_o (i := 4) (v := .int p_26.1) g_0 (by decide) (Or.inl rfl))) ?_
                refine ev_x (i := .iload 4) (len := 2) (p' := 213) (s' := [.int p_26.1, .ref 66]) rfl rfl (ld_i (vg_s (lv) 4 (.int p_26.1))) ?_
                refine ev_x (i := .iload_n 1) (len := 1) (p' := 214) (s' := [.int l_1, .int p_26.1, .ref 66]) rfl rfl (ld_i (vg_o (i := 4) (v := .int p_26.1) g_1 (by decide) (Or.inl rfl))) ?_
                refine ev_x (i := .iload_n 3) (len := 1) (p' := 215) (s' := [.int l_3, .int l_1, .int p_26.1, .ref 66]) rfl rfl (ld_i (vg_o (i := 4) (v := .int p_26.1) g_3 (by decide) (Or.inl rfl))) ?_
                obtain ⟨p_27, G_27, H⟩ := F_bd H
                refine ev_cv (d := d + 9) (As := [.int p_26.1, .int l_1, .int l_3]) (a := 66) (p' := 218) rfl rfl rfl ly_66 rfl rfl rfl rfl rfl (nb_s1 hnb rfl) rfl (F_146_ok (d := d + 7)   G_27) ?_
                refine ev_st (st' := []) rfl ?_
                have e_27 := F_146_R G_27
                refine ev_x (i := .iload 4) (len := 2) (p' := 220) (s' := [.int p_26.1]) rfl rfl (ld_i (vg_s (lv) 4 (.int p_26.1))) ?_
                refine ev_x (i := .bipush 39) (len := 2) (p' := 222) (s' := [.int 39, .int p_26.1]) rfl rfl rfl ?_
                refine F_jn (A := vz_ev P0 (d + 10) 136 230 (vz_s1 (lv) 4 (.int p_26.1)) [.int (if p_26.1 = 39 then 0 else 1 : Int32)] (hp (p_27)) (.inl none, hp p)) ?_ (fun J => ?_)
                · refine ev_x (i := .istore_n 2) (len := 1) (p' := 231) (s' := []) (l' := vz_s1 (vz_s1 (lv) 4 (.int p_26.1)) 2 (.int (if p_26.1 = 39 then 0 else 1 : Int32))) rfl rfl rfl ?_
                  refine ev_x (i := .aload_n 0) (len := 1) (p' := 232) (s' := [.ref 66]) rfl rfl (ld_a (vg_o (i := 2) (v := .int (if p_26.1 = 39 then 0 else 1 : Int32)) (vg_o (i := 4) (v := .int p_26.1) g_0 (by decide) (Or.inl rfl)) (by decide) (Or.inl rfl))) ?_
                  refine ev_x (i := .iload_n 3) (len := 1) (p' := 233) (s' := [.int l_3, .ref 66]) rfl rfl (ld_i (vg_o (i := 2) (v := .int (if p_26.1 = 39 then 0 else 1 : Int32)) (vg_o (i := 4) (v := .int p_26.1) g_3 (by decide) (Or.inl rfl)) (by decide) (Or.inl rfl))) ?_
                  obtain ⟨p_29, G_29, H⟩ := F_bd H
                  refine ev_cv (d := d + 9) (As := [.int l_3]) (a := 66) (p' := 236) rfl rfl rfl ly_66 rfl rfl rfl rfl rfl (nb_s1 (nb_s1 hnb rfl) rfl) rfl (F_137_ok (d := d + 6) (hx := (Or.inr rfl)) (hr_66_2 := ((congrFun (congrFun e_27 66) 2).trans ((congrFun (congrFun e_26 66) 2).trans ((congrFun (congrFun e_23 66) 2).trans ((congrFun (congrFun e_21 66) 2).trans ((congrFun (congrFun e_20 66) 2).trans ((congrFun (congrFun e_18 66) 2).trans ((congrFun (congrFun e_17 66) 2).trans hr_66_2)))))))) G_29) ?_
                  refine ev_st (st' := [.int p_29.1]) rfl ?_
                  have e_29 := F_137_R G_29
                  refine ev_x (i := .istore_n 1) (len := 1) (p' := 237) (s' := []) (l' := vz_s1 (vz_s1 (vz_s1 (lv) 4 (.int p_26.1)) 2 (.int (if p_26.1 = 39 then 0 else 1 : Int32))) 1 (.int p_29.1)) rfl rfl rfl ?_
                  refine ev_x (i := .goto (-205)) (len := 3) (p' := 32) (s' := []) rfl rfl rfl ?_
                  exact ih.1 _ _ _ _ _ _ (vg_o (i := 1) (v := .int p_29.1) (vg_o (i := 2) (v := .int (if p_26.1 = 39 then 0 else 1 : Int32)) (vg_o (i := 4) (v := .int p_26.1) g_0 (by decide) (Or.inl rfl)) (by decide) (Or.inl rfl)) (by decide) (Or.inl rfl)) (vg_s (vz_s1 (vz_s1 (lv) 4 (.int p_26.1)) 2 (.int (if p_26.1 = 39 then 0 else 1 : Int32))) 1 (.int p_29.1)) (vg_o (i := 1) (v := .int p_29.1) (vg_s (vz_s1 (lv) 4 (.int p_26.1)) 2 (.int (if p_26.1 = 39 then 0 else 1 : Int32))) (by decide) (Or.inl rfl)) (nb_s1 (nb_s1 (nb_s1 hnb rfl) rfl) rfl) ((congrFun (congrFun e_29 66) 2).trans ((congrFun (congrFun e_27 66) 2).trans ((congrFun (congrFun e_26 66) 2).trans ((congrFun (congrFun e_23 66) 2).trans ((congrFun (congrFun e_21 66) 2).trans ((congrFun (congrFun e_20 66) 2).trans ((congrFun (congrFun e_18 66) 2).trans ((congrFun (congrFun e_17 66) 2).trans hr_66_2)))))))) H
                · by_cases c_28 : p_26.1 = 39
                  · refine ev_b2 (t := 229) (p' := 229) rfl rfl rfl (if_pos c_28) ?_
                    refine ev_x (i := .iconst 0) (len := 1) (p' := 230) (s' := [.int 0]) rfl rfl rfl ?_
                    exact ev_st (congrArg (fun z => Value.int z :: []) (by rw [if_pos c_28])) J
                  · refine ev_b2 (t := 229) (p' := 225) rfl rfl rfl (if_neg c_28) ?_
                    refine ev_x (i := .iconst 1) (len := 1) (p' := 226) (s' := [.int 1]) rfl rfl rfl ?_
                    refine ev_x (i := .goto 4) (len := 3) (p' := 230) (s' := [.int 1]) rfl rfl rfl ?_
                    exact ev_st (congrArg (fun z => Value.int z :: []) (by rw [if_neg c_28])) J
              · refine ev_b2 (t := 111) (p' := 106) rfl rfl rfl (if_neg c_25) ?_
                refine ev_x (i := .bipush 39) (len := 2) (p' := 108) (s' := [.int 39]) rfl rfl rfl ?_
                refine ev_x (i := .goto 9) (len := 3) (p' := 117) (s' := [.int 39]) rfl rfl rfl ?_
                refine ev_x (i := .istore 4) (len := 2) (p' := 119) (s' := []) (l' := vz_s1 (lv) 4 (.int 39)) rfl rfl rfl ?_
                refine ev_x (i := .goto 91) (len := 3) (p' := 210) (s' := []) rfl rfl rfl ?_
                refine ev_x (i := .aload_n 0) (len := 1) (p' := 211) (s' := [.ref 66]) rfl rfl (ld_a (vg_o (i := 4) (v := .int 39) g_0 (by decide) (Or.inl rfl))) ?_
                refine ev_x (i := .iload 4) (len := 2) (p' := 213) (s' := [.int 39, .ref 66]) rfl rfl (ld_i (vg_s (lv) 4 (.int 39))) ?_
                refine ev_x (i := .iload_n 1) (len := 1) (p' := 214) (s' := [.int l_1, .int 39, .ref 66]) rfl rfl (ld_i (vg_o (i := 4) (v := .int 39) g_1 (by decide) (Or.inl rfl))) ?_
                refine ev_x (i := .iload_n 3) (len := 1) (p' := 215) (s' := [.int l_3, .int l_1, .int 39, .ref 66]) rfl rfl (ld_i (vg_o (i := 4) (v := .int 39) g_3 (by decide) (Or.inl rfl))) ?_
                obtain ⟨p_30, G_30, H⟩ := F_bd H
                refine ev_cv (d := d + 9) (As := [.int 39, .int l_1, .int l_3]) (a := 66) (p' := 218) rfl rfl rfl ly_66 rfl rfl rfl rfl rfl (nb_s1 hnb rfl) rfl (F_146_ok (d := d + 7)   G_30) ?_
                refine ev_st (st' := []) rfl ?_
                have e_30 := F_146_R G_30
                refine ev_x (i := .iload 4) (len := 2) (p' := 220) (s' := [.int 39]) rfl rfl (ld_i (vg_s (lv) 4 (.int 39))) ?_
                refine ev_x (i := .bipush 39) (len := 2) (p' := 222) (s' := [.int 39, .int 39]) rfl rfl rfl ?_
                refine ev_b2 (t := 229) (p' := 229) rfl rfl rfl (by decide) ?_
                refine ev_x (i := .iconst 0) (len := 1) (p' := 230) (s' := [.int 0]) rfl rfl rfl ?_
                refine ev_x (i := .istore_n 2) (len := 1) (p' := 231) (s' := []) (l' := vz_s1 (vz_s1 (lv) 4 (.int 39)) 2 (.int 0)) rfl rfl rfl ?_
                refine ev_x (i := .aload_n 0) (len := 1) (p' := 232) (s' := [.ref 66]) rfl rfl (ld_a (vg_o (i := 2) (v := .int 0) (vg_o (i := 4) (v := .int 39) g_0 (by decide) (Or.inl rfl)) (by decide) (Or.inl rfl))) ?_
                refine ev_x (i := .iload_n 3) (len := 1) (p' := 233) (s' := [.int l_3, .ref 66]) rfl rfl (ld_i (vg_o (i := 2) (v := .int 0) (vg_o (i := 4) (v := .int 39) g_3 (by decide) (Or.inl rfl)) (by decide) (Or.inl rfl))) ?_
                obtain ⟨p_31, G_31, H⟩ := F_bd H
                refine ev_cv (d := d + 9) (As := [.int l_3]) (a := 66) (p' := 236) rfl rfl rfl ly_66 rfl rfl rfl rfl rfl (nb_s1 (nb_s1 hnb rfl) rfl) rfl (F_137_ok (d := d + 6) (hx := (Or.inr rfl)) (hr_66_2 := ((congrFun (congrFun e_30 66) 2).trans ((congrFun (congrFun e_23 66) 2).trans ((congrFun (congrFun e_21 66) 2).trans ((congrFun (congrFun e_20 66) 2).trans ((congrFun (congrFun e_18 66) 2).trans ((congrFun (congrFun e_17 66) 2).trans hr_66_2))))))) G_31) ?_
                refine ev_st (st' := [.int p_31.1]) rfl ?_
                have e_31 := F_137_R G_31
                refine ev_x (i := .istore_n 1) (len := 1) (p' := 237) (s' := []) (l' := vz_s1 (vz_s1 (vz_s1 (lv) 4 (.int 39)) 2 (.int 0)) 1 (.int p_31.1)) rfl rfl rfl ?_
                refine ev_x (i := .goto (-205)) (len := 3) (p' := 32) (s' := []) rfl rfl rfl ?_
                exact ih.1 _ _ _ _ _ _ (vg_o (i := 1) (v := .int p_31.1) (vg_o (i := 2) (v := .int 0) (vg_o (i := 4) (v := .int 39) g_0 (by decide) (Or.inl rfl)) (by decide) (Or.inl rfl)) (by decide) (Or.inl rfl)) (vg_s (vz_s1 (vz_s1 (lv) 4 (.int 39)) 2 (.int 0)) 1 (.int p_31.1)) (vg_o (i := 1) (v := .int p_31.1) (vg_s (vz_s1 (lv) 4 (.int 39)) 2 (.int 0)) (by decide) (Or.inl rfl)) (nb_s1 (nb_s1 (nb_s1 hnb rfl) rfl) rfl) ((congrFun (congrFun e_31 66) 2).trans ((congrFun (congrFun e_30 66) 2).trans ((congrFun (congrFun e_23 66) 2).trans ((congrFun (congrFun e_21 66) 2).trans ((congrFun (congrFun e_20 66) 2).trans ((congrFun (congrFun e_18 66) 2).trans ((congrFun (congrFun e_17 66) 2).trans hr_66_2))))))) H
          · refine ev_b0 (t := 92) (p' := 92) rfl rfl rfl (if_pos c_22) ?_
            refine ev_x (i := .iinc 3 1) (len := 3) (p' := 95) (s' := []) (l' := vz_s1 (lv) 3 (.int (l_3 + 1))) rfl rfl (ld_inc g_3 rfl) ?_
            refine ev_x (i := .goto (-35)) (len := 3) (p' := 60) (s' := []) rfl rfl rfl ?_
            exact ih.2.1 _ _ _ _ _ _ (vg_o (i := 3) (v := .int (l_3 + 1)) g_0 (by decide) (Or.inl rfl)) (vg_o (i := 3) (v := .int (l_3 + 1)) g_1 (by decide) (Or.inl rfl)) (vg_s (lv) 3 (.int (l_3 + 1))) (nb_s1 hnb rfl) ((congrFun (congrFun e_21 66) 2).trans ((congrFun (congrFun e_20 66) 2).trans ((congrFun (congrFun e_18 66) 2).trans ((congrFun (congrFun e_17 66) 2).trans hr_66_2)))) H
        · refine ev_b0 (t := 92) (p' := 92) rfl rfl rfl (if_pos c_19) ?_
          refine ev_x (i := .iinc 3 1) (len := 3) (p' := 95) (s' := []) (l' := vz_s1 (lv) 3 (.int (l_3 + 1))) rfl rfl (ld_inc g_3 rfl) ?_
          refine ev_x (i := .goto (-35)) (len := 3) (p' := 60) (s' := []) rfl rfl rfl ?_
          exact ih.2.1 _ _ _ _ _ _ (vg_o (i := 3) (v := .int (l_3 + 1)) g_0 (by decide) (Or.inl rfl)) (vg_o (i := 3) (v := .int (l_3 + 1)) g_1 (by decide) (Or.inl rfl)) (vg_s (lv) 3 (.int (l_3 + 1))) (nb_s1 hnb rfl) ((congrFun (congrFun e_18 66) 2).trans ((congrFun (congrFun e_17 66) 2).trans hr_66_2)) H
      · intro l_1 l_2 l_3 σ lv p g_0 g_1 g_3 hnb hr_66_2 H
        unfold L_136 at H
        rw [if_neg (by decide)] at H
        rw [if_neg (by decide)] at H
        refine ev_x (i := .aload_n 0) (len := 1) (p' := 134) (s' := [.ref 66]) rfl rfl (ld_a g_0) ?_
        refine ev_x (i := .iload_n 3) (len := 1) (p' := 135) (s' := [.int l_3, .ref 66]) rfl rfl (ld_i g_3) ?_
        obtain ⟨p_32, G_32, H⟩ := F_bd H
        refine ev_cv (d := d + 9) (As := [.int l_3]) (a := 66) (p' := 138) rfl rfl rfl ly_66 rfl rfl rfl rfl rfl hnb rfl (F_138_ok (d := d + 7) (hx := (Or.inr rfl)) (hr_66_2 := hr_66_2) G_32) ?_
        refine ev_st (st' := [.int p_32.1]) rfl ?_
        have e_32 := F_138_R G_32
        obtain ⟨p_33, G_33, H⟩ := F_bd H
        refine ev_callS (d := d + 9) (As := [.int p_32.1]) rfl rfl rfl (by decide) rfl rfl rfl rfl hnb (F_142_ok (d := d + 8)   G_33) ?_
        refine ev_st (st' := [.int p_33.1]) rfl ?_
        refine ev_pc (pc' := 141) rfl ?_
        have e_33 := F_142_R G_33
        refine F_if H (fun c_34 H => ?_) (fun c_34 H => ?_)
        · refine ev_b0 (t := 150) (p' := 150) rfl rfl rfl (if_pos c_34) ?_
          refine ev_x (i := .iload_n 3) (len := 1) (p' := 151) (s' := [.int l_3]) rfl rfl (ld_i g_3) ?_
          refine ev_x (i := .iload_n 1) (len := 1) (p' := 152) (s' := [.int l_1, .int l_3]) rfl rfl (ld_i g_1) ?_
          refine ev_x (i := .isub) (len := 1) (p' := 153) (s' := [.int (l_3 - l_1)]) rfl rfl rfl ?_
          refine ev_x (i := .bipush 9) (len := 2) (p' := 155) (s' := [.int 9, .int (l_3 - l_1)]) rfl rfl rfl ?_
          refine F_jn (A := vz_ev P0 (d + 10) 136 164 (lv) [.int (if (l_3 - l_1) ≤ 9 then 2 else 39 : Int32)] (hp (p_33.2)) (.inl none, hp p)) ?_ (fun J => ?_)
          · refine ev_x (i := .istore 4) (len := 2) (p' := 166) (s' := []) (l' := vz_s1 (lv) 4 (.int (if (l_3 - l_1) ≤ 9 then 2 else 39 : Int32))) rfl rfl rfl ?_
            refine ev_x (i := .goto 44) (len := 3) (p' := 210) (s' := []) rfl rfl rfl ?_
            refine ev_x (i := .aload_n 0) (len := 1) (p' := 211) (s' := [.ref 66]) rfl rfl (ld_a (vg_o (i := 4) (v := .int (if (l_3 - l_1) ≤ 9 then 2 else 39 : Int32)) g_0 (by decide) (Or.inl rfl))) ?_
            refine ev_x (i := .iload 4) (len := 2) (p' := 213) (s' := [.int (if (l_3 - l_1) ≤ 9 then 2 else 39 : Int32), .ref 66]) rfl rfl (ld_i (vg_s (lv) 4 (.int (if (l_3 - l_1) ≤ 9 then 2 else 39 : Int32)))) ?_
            refine ev_x (i := .iload_n 1) (len := 1) (p' := 214) (s' := [.int l_1, .int (if (l_3 - l_1) ≤ 9 then 2 else 39 : Int32), .ref 66]) rfl rfl (ld_i (vg_o (i := 4) (v := .int (if (l_3 - l_1) ≤ 9 then 2 else 39 : Int32)) g_1 (by decide) (Or.inl rfl))) ?_
            refine ev_x (i := .iload_n 3) (len := 1) (p' := 215) (s' := [.int l_3, .int l_1, .int (if (l_3 - l_1) ≤ 9 then 2 else 39 : Int32), .ref 66]) rfl rfl (ld_i (vg_o (i := 4) (v := .int (if (l_3 - l_1) ≤ 9 then 2 else 39 : Int32)) g_3 (by decide) (Or.inl rfl))) ?_
            obtain ⟨p_36, G_36, H⟩ := F_bd H
            refine ev_cv (d := d + 9) (As := [.int (if (l_3 - l_1) ≤ 9 then 2 else 39 : Int32), .int l_1, .int l_3]) (a := 66) (p' := 218) rfl rfl rfl ly_66 rfl rfl rfl rfl rfl (nb_s1 hnb rfl) rfl (F_146_ok (d := d + 7)   G_36) ?_
            refine ev_st (st' := []) rfl ?_
            have e_36 := F_146_R G_36
            refine ev_x (i := .iload 4) (len := 2) (p' := 220) (s' := [.int (if (l_3 - l_1) ≤ 9 then 2 else 39 : Int32)]) rfl rfl (ld_i (vg_s (lv) 4 (.int (if (l_3 - l_1) ≤ 9 then 2 else 39 : Int32)))) ?_
            refine ev_x (i := .bipush 39) (len := 2) (p' := 222) (s' := [.int 39, .int (if (l_3 - l_1) ≤ 9 then 2 else 39 : Int32)]) rfl rfl rfl ?_
            refine F_jn (A := vz_ev P0 (d + 10) 136 230 (vz_s1 (lv) 4 (.int (if (l_3 - l_1) ≤ 9 then 2 else 39 : Int32))) [.int (if (if (l_3 - l_1) ≤ 9 then 2 else 39 : Int32) = 39 then 0 else 1 : Int32)] (hp (p_36)) (.inl none, hp p)) ?_ (fun J => ?_)
            · refine ev_x (i := .istore_n 2) (len := 1) (p' := 231) (s' := []) (l' := vz_s1 (vz_s1 (lv) 4 (.int (if (l_3 - l_1) ≤ 9 then 2 else 39 : Int32))) 2 (.int (if (if (l_3 - l_1) ≤ 9 then 2 else 39 : Int32) = 39 then 0 else 1 : Int32))) rfl rfl rfl ?_
              refine ev_x (i := .aload_n 0) (len := 1) (p' := 232) (s' := [.ref 66]) rfl rfl (ld_a (vg_o (i := 2) (v := .int (if (if (l_3 - l_1) ≤ 9 then 2 else 39 : Int32) = 39 then 0 else 1 : Int32)) (vg_o (i := 4) (v := .int (if (l_3 - l_1) ≤ 9 then 2 else 39 : Int32)) g_0 (by decide) (Or.inl rfl)) (by decide) (Or.inl rfl))) ?_
              refine ev_x (i := .iload_n 3) (len := 1) (p' := 233) (s' := [.int l_3, .ref 66]) rfl rfl (ld_i (vg_o (i := 2) (v := .int (if (if (l_3 - l_1) ≤ 9 then 2 else 39 : Int32) = 39 then 0 else 1 : Int32)) (vg_o (i := 4) (v := .int (if (l_3 - l_1) ≤ 9 then 2 else 39 : Int32)) g_3 (by decide) (Or.inl rfl)) (by decide) (Or.inl rfl))) ?_
              obtain ⟨p_38, G_38, H⟩ := F_bd H
              refine ev_cv (d := d + 9) (As := [.int l_3]) (a := 66) (p' := 236) rfl rfl rfl ly_66 rfl rfl rfl rfl rfl (nb_s1 (nb_s1 hnb rfl) rfl) rfl (F_137_ok (d := d + 6) (hx := (Or.inr rfl)) (hr_66_2 := ((congrFun (congrFun e_36 66) 2).trans ((congrFun (congrFun e_33 66) 2).trans ((congrFun (congrFun e_32 66) 2).trans hr_66_2)))) G_38) ?_
              refine ev_st (st' := [.int p_38.1]) rfl ?_
              have e_38 := F_137_R G_38
              refine ev_x (i := .istore_n 1) (len := 1) (p' := 237) (s' := []) (l' := vz_s1 (vz_s1 (vz_s1 (lv) 4 (.int (if (l_3 - l_1) ≤ 9 then 2 else 39 : Int32))) 2 (.int (if (if (l_3 - l_1) ≤ 9 then 2 else 39 : Int32) = 39 then 0 else 1 : Int32))) 1 (.int p_38.1)) rfl rfl rfl ?_
              refine ev_x (i := .goto (-205)) (len := 3) (p' := 32) (s' := []) rfl rfl rfl ?_
              exact ih.1 _ _ _ _ _ _ (vg_o (i := 1) (v := .int p_38.1) (vg_o (i := 2) (v := .int (if (if (l_3 - l_1) ≤ 9 then 2 else 39 : Int32) = 39 then 0 else 1 : Int32)) (vg_o (i := 4) (v := .int (if (l_3 - l_1) ≤ 9 then 2 else 39 : Int32)) g_0 (by decide) (Or.inl rfl)) (by decide) (Or.inl rfl)) (by decide) (Or.inl rfl)) (vg_s (vz_s1 (vz_s1 (lv) 4 (.int (if (l_3 - l_1) ≤ 9 then 2 else 39 : Int32))) 2 (.int (if (if (l_3 - l_1) ≤ 9 then 2 else 39 : Int32) = 39 then 0 else 1 : Int32))) 1 (.int p_38.1)) (vg_o (i := 1) (v := .int p_38.1) (vg_s (vz_s1 (lv) 4 (.int (if (l_3 - l_1) ≤ 9 then 2 else 39 : Int32))) 2 (.int (if (if (l_3 - l_1) ≤ 9 then 2 else 39 : Int32) = 39 then 0 else 1 : Int32))) (by decide) (Or.inl rfl)) (nb_s1 (nb_s1 (nb_s1 hnb rfl) rfl) rfl) ((congrFun (congrFun e_38 66) 2).trans ((congrFun (congrFun e_36 66) 2).trans ((congrFun (congrFun e_33 66) 2).trans ((congrFun (congrFun e_32 66) 2).trans hr_66_2)))) H
            · by_cases c_37 : (if (l_3 - l_1) ≤ 9 then 2 else 39 : Int32) = 39
              · refine ev_b2 (t := 229) (p' := 229) rfl rfl rfl (if_pos c_37) ?_
                refine ev_x (i := .iconst 0) (len := 1) (p' := 230) (s' := [.int 0]) rfl rfl rfl ?_
                exact ev_st (congrArg (fun z => Value.int z :: []) (by rw [if_pos c_37])) J
              · refine ev_b2 (t := 229) (p' := 225) rfl rfl rfl (if_neg c_37) ?_
                refine ev_x (i := .iconst 1) (len := 1) (p' := 226) (s' := [.int 1]) rfl rfl rfl ?_
                refine ev_x (i := .goto 4) (len := 3) (p' := 230) (s' := [.int 1]) rfl rfl rfl ?_
                exact ev_st (congrArg (fun z => Value.int z :: []) (by rw [if_neg c_37])) J
          · by_cases c_35 : (l_3 - l_1) ≤ 9
            · refine ev_b2 (t := 163) (p' := 163) rfl rfl rfl (if_pos c_35) ?_
              refine ev_x (i := .iconst 2) (len := 1) (p' := 164) (s' := [.int 2]) rfl rfl rfl ?_
              exact ev_st (congrArg (fun z => Value.int z :: []) (by rw [if_pos c_35])) J
            · refine ev_b2 (t := 163) (p' := 158) rfl rfl rfl (if_neg c_35) ?_
              refine ev_x (i := .bipush 39) (len := 2) (p' := 160) (s' := [.int 39]) rfl rfl rfl ?_
              refine ev_x (i := .goto 4) (len := 3) (p' := 164) (s' := [.int 39]) rfl rfl rfl ?_
              exact ev_st (congrArg (fun z => Value.int z :: []) (by rw [if_neg c_35])) J
        · refine ev_b0 (t := 150) (p' := 144) rfl rfl rfl (if_neg c_34) ?_
          refine ev_x (i := .iinc 3 1) (len := 3) (p' := 147) (s' := []) (l' := vz_s1 (lv) 3 (.int (l_3 + 1))) rfl rfl (ld_inc g_3 rfl) ?_
          refine ev_x (i := .goto (-14)) (len := 3) (p' := 133) (s' := []) rfl rfl rfl ?_
          exact ih.2.2 _ _ _ _ _ _ (vg_o (i := 3) (v := .int (l_3 + 1)) g_0 (by decide) (Or.inl rfl)) (vg_o (i := 3) (v := .int (l_3 + 1)) g_1 (by decide) (Or.inl rfl)) (vg_s (lv) 3 (.int (l_3 + 1))) (nb_s1 hnb rfl) ((congrFun (congrFun e_33 66) 2).trans ((congrFun (congrFun e_32 66) 2).trans hr_66_2)) H
/-- GameTextModel.cut()V -/
def F_136 (N : Nat) (x : Nat) (σ : st_S) : Option (st_S) :=
  (F_137 N x 0 (st_i (st_i (st_i (σ) 71 1 0) 73 1 0) 75 1 0)).bind fun p_1 =>
  L_136 N x N 32 p_1.1 1 0 (p_1.2)
set_option maxRecDepth 100000 in
theorem F_136_R {N : Nat} {x : Nat} {σ : st_S} {p : st_S} (H : F_136 N x σ = some p) : gR p = gR σ := by
  unfold F_136 at H
  obtain ⟨p_1, G_1, H⟩ := F_bd H
  exact (((L_136_R _ _ _ _ _ _ _ H)).trans ((F_137_R G_1).trans rfl))
set_option maxHeartbeats 4000000 in
set_option maxRecDepth 100000 in
theorem F_136_ok {N d : Nat} {x : Nat} (hx : x = 67 ∨ x = 69) {σ : st_S} {p : st_S} (hr_66_2 : gR σ 66 2 = x) (H : F_136 N x σ = some p) : vz_ev P0 (d + 10) 136 0 (lv_args 0 [.ref 66]) [] (hp σ) (.inl none, hp p) := by
  unfold F_136 at H
  refine ev_x (i := .aload_n 0) (len := 1) (p' := 1) (s' := [.ref 66]) rfl rfl rfl ?_
  refine ev_gc (p' := 4) (v := 71) rfl rfl rfl ly_66 rfl rfl ?_
  refine ev_x (i := .iconst 0) (len := 1) (p' := 5) (s' := [.int 0, .ref 71]) rfl rfl rfl ?_
  refine ev_pi (p' := 8) rfl rfl rfl ly_71 rfl rfl rfl rfl ?_
  refine ev_x (i := .aload_n 0) (len := 1) (p' := 9) (s' := [.ref 66]) rfl rfl rfl ?_
  refine ev_gc (p' := 12) (v := 73) rfl rfl rfl ly_66 rfl rfl ?_
  refine ev_x (i := .iconst 0) (len := 1) (p' := 13) (s' := [.int 0, .ref 73]) rfl rfl rfl ?_
  refine ev_pi (p' := 16) rfl rfl rfl ly_73 rfl rfl rfl rfl ?_
  refine ev_x (i := .aload_n 0) (len := 1) (p' := 17) (s' := [.ref 66]) rfl rfl rfl ?_
  refine ev_gc (p' := 20) (v := 75) rfl rfl rfl ly_66 rfl rfl ?_
  refine ev_x (i := .iconst 0) (len := 1) (p' := 21) (s' := [.int 0, .ref 75]) rfl rfl rfl ?_
  refine ev_pi (p' := 24) rfl rfl rfl ly_75 rfl rfl rfl rfl ?_
  refine ev_x (i := .aload_n 0) (len := 1) (p' := 25) (s' := [.ref 66]) rfl rfl rfl ?_
  refine ev_x (i := .iconst 0) (len := 1) (p' := 26) (s' := [.int 0, .ref 66]) rfl rfl rfl ?_
  obtain ⟨p_1, G_1, H⟩ := F_bd H
  refine ev_cv (d := d + 9) (As := [.int 0]) (a := 66) (p' := 29) rfl rfl rfl ly_66 rfl rfl rfl rfl rfl rfl rfl (F_137_ok (d := d + 6) (hx := hx) (hr_66_2 := hr_66_2) G_1) ?_
  refine ev_st (st' := [.int p_1.1]) rfl ?_
  have e_1 := F_137_R G_1
  refine ev_x (i := .istore_n 1) (len := 1) (p' := 30) (s' := []) (l' := [(1, .int p_1.1), (0, .ref 66)]) rfl rfl rfl ?_
  refine ev_x (i := .iconst 1) (len := 1) (p' := 31) (s' := [.int 1]) rfl rfl rfl ?_
  refine ev_x (i := .istore_n 2) (len := 1) (p' := 32) (s' := []) (l' := [(2, .int 1), (1, .int p_1.1), (0, .ref 66)]) rfl rfl rfl ?_
  exact (L_136_ok (d := d) hx N).1 _ _ _ _ _ _ rfl rfl rfl rfl ((congrFun (congrFun e_1 66) 2).trans hr_66_2) H
