/-! methods as functions of the store. Written by wip/prog/dec2.py, gen_all.py -/
/-- GameText$Explorer.fails(II)I -/
def F_116 (N : Nat) (x_1 : Int32) (x_2 : Int32) (σ : st_S) : Option (Int32 × st_S) :=
  some (x_1, st_i (σ) 62 8 x_2)
set_option maxRecDepth 100000 in
theorem F_116_R {N : Nat} {x_1 : Int32} {x_2 : Int32} {σ : st_S} {p : Int32 × st_S} (H : F_116 N x_1 x_2 σ = some p) : gR p.2 = gR σ := by
  unfold F_116 at H
  obtain rfl := Option.some.inj H
  exact rfl
set_option maxHeartbeats 4000000 in
set_option maxRecDepth 100000 in
theorem F_116_ok {N d : Nat} {x_1 : Int32} {x_2 : Int32} {σ : st_S} {p : Int32 × st_S}  (H : F_116 N x_1 x_2 σ = some p) : vz_ev P0 (d + 1) 116 0 (lv_args 0 [.ref 62, .int x_1, .int x_2]) [] (hp σ) (.inl (some (.int p.1)), hp p.2) := by
  unfold F_116 at H
  refine ev_x (i := .aload_n 0) (len := 1) (p' := 1) (s' := [.ref 62]) rfl rfl rfl ?_
  refine ev_x (i := .iload_n 2) (len := 1) (p' := 2) (s' := [.int x_2, .ref 62]) rfl rfl rfl ?_
  refine ev_pi (p' := 5) rfl rfl rfl ly_62 rfl rfl rfl rfl ?_
  refine ev_x (i := .iload_n 1) (len := 1) (p' := 6) (s' := [.int x_1]) rfl rfl rfl ?_
  obtain rfl := Option.some.inj H
  exact ev_iret rfl rfl rfl rfl
/-- GameText$Machine.isTrue(I)Z -/
def F_117 (N : Nat) (t : Nat) (x_1 : Int32) (σ : st_S) : Option (Int32 × st_S) :=
  if aB x_1 (gN σ (t + 4)) then
  if aB (gE (σ) (t + 4) (x_1 : Int32).toNatClampNeg) (gN σ (t + 8)) then
  some ((if (gE (σ) (t + 8) ((gE (σ) (t + 4) (x_1 : Int32).toNatClampNeg) : Int32).toNatClampNeg) = 1 then 1 else 0 : Int32), σ)
  else none
  else none
set_option maxRecDepth 100000 in
theorem F_117_R {N : Nat} {t : Nat} {x_1 : Int32} {σ : st_S} {p : Int32 × st_S} (H : F_117 N t x_1 σ = some p) : gR p.2 = gR σ := by
  unfold F_117 at H
  obtain ⟨_, H⟩ := F_gd H
  obtain ⟨_, H⟩ := F_gd H
  obtain rfl := Option.some.inj H
  exact rfl
set_option maxHeartbeats 4000000 in
set_option maxRecDepth 100000 in
theorem F_117_ok {N d : Nat} {t : Nat} (ht : t = 4 ∨ t = 20) {x_1 : Int32} {σ : st_S} {p : Int32 × st_S} (hr_42_4 : gR σ 42 4 = (t + 1)) (H : F_117 N t x_1 σ = some p) : vz_ev P0 (d + 1) 117 0 (lv_args 0 [.ref 42, .int x_1]) [] (hp σ) (.inl (some (.int p.1)), hp p.2) := by
  unfold F_117 at H
  rcases ht with rfl | rfl
  · refine ev_x (i := .aload_n 0) (len := 1) (p' := 1) (s' := [.ref 42]) rfl rfl rfl ?_
    refine ev_gr (p' := 4) (v := 5) rfl rfl rfl ly_42 rfl rfl hr_42_4 ?_
    refine ev_gc (p' := 7) (v := 12) rfl rfl rfl ly_5 rfl rfl ?_
    refine ev_x (i := .aload_n 0) (len := 1) (p' := 8) (s' := [.ref 42, .ref 12]) rfl rfl rfl ?_
    refine ev_gr (p' := 11) (v := 5) rfl rfl rfl ly_42 rfl rfl hr_42_4 ?_
    refine ev_gc (p' := 14) (v := 8) rfl rfl rfl ly_5 rfl rfl ?_
    refine ev_x (i := .iload_n 1) (len := 1) (p' := 15) (s' := [.int x_1, .ref 8, .ref 12]) rfl rfl rfl ?_
    obtain ⟨b_1, H⟩ := F_gd H
    refine ev_ga (p' := 16) (v := (gE (σ) 8 (x_1 : Int32).toNatClampNeg)) rfl rfl ly_8 rfl (gd_in b_1) rfl ?_
    obtain ⟨b_2, H⟩ := F_gd H
    refine ev_ga (p' := 17) (v := (gE (σ) 12 ((gE (σ) 8 (x_1 : Int32).toNatClampNeg) : Int32).toNatClampNeg)) rfl rfl ly_12 rfl (gd_in b_2) rfl ?_
    refine ev_x (i := .iconst 1) (len := 1) (p' := 18) (s' := [.int 1, .int (gE (σ) 12 ((gE (σ) 8 (x_1 : Int32).toNatClampNeg) : Int32).toNatClampNeg)]) rfl rfl rfl ?_
    refine F_jn (A := vz_ev P0 (d + 1) 117 26 [(0, .ref 42), (1, .int x_1)] [.int (if (gE (σ) 12 ((gE (σ) 8 (x_1 : Int32).toNatClampNeg) : Int32).toNatClampNeg) = 1 then 1 else 0 : Int32)] (hp (σ)) (.inl (some (.int p.1)), hp p.2)) ?_ (fun J => ?_)
    · obtain rfl := Option.some.inj H
      exact ev_iret rfl rfl rfl (fit_b (by (repeat' split) <;> decide))
    · by_cases c_3 : (gE (σ) 12 ((gE (σ) 8 (x_1 : Int32).toNatClampNeg) : Int32).toNatClampNeg) = 1
      · refine ev_b2 (t := 25) (p' := 21) rfl rfl rfl (if_neg (fun q => q c_3)) ?_
        refine ev_x (i := .iconst 1) (len := 1) (p' := 22) (s' := [.int 1]) rfl rfl rfl ?_
        refine ev_x (i := .goto 4) (len := 3) (p' := 26) (s' := [.int 1]) rfl rfl rfl ?_
        exact ev_st (congrArg (fun z => Value.int z :: []) (by rw [if_pos c_3])) J
      · refine ev_b2 (t := 25) (p' := 25) rfl rfl rfl (if_pos c_3) ?_
        refine ev_x (i := .iconst 0) (len := 1) (p' := 26) (s' := [.int 0]) rfl rfl rfl ?_
        exact ev_st (congrArg (fun z => Value.int z :: []) (by rw [if_neg c_3])) J
  · refine ev_x (i := .aload_n 0) (len := 1) (p' := 1) (s' := [.ref 42]) rfl rfl rfl ?_
    refine ev_gr (p' := 4) (v := 21) rfl rfl rfl ly_42 rfl rfl hr_42_4 ?_
    refine ev_gc (p' := 7) (v := 28) rfl rfl rfl ly_21 rfl rfl ?_
    refine ev_x (i := .aload_n 0) (len := 1) (p' := 8) (s' := [.ref 42, .ref 28]) rfl rfl rfl ?_
    refine ev_gr (p' := 11) (v := 21) rfl rfl rfl ly_42 rfl rfl hr_42_4 ?_
    refine ev_gc (p' := 14) (v := 24) rfl rfl rfl ly_21 rfl rfl ?_
    refine ev_x (i := .iload_n 1) (len := 1) (p' := 15) (s' := [.int x_1, .ref 24, .ref 28]) rfl rfl rfl ?_
    obtain ⟨b_1, H⟩ := F_gd H
    refine ev_ga (p' := 16) (v := (gE (σ) 24 (x_1 : Int32).toNatClampNeg)) rfl rfl ly_24 rfl (gd_in b_1) rfl ?_
    obtain ⟨b_2, H⟩ := F_gd H
    refine ev_ga (p' := 17) (v := (gE (σ) 28 ((gE (σ) 24 (x_1 : Int32).toNatClampNeg) : Int32).toNatClampNeg)) rfl rfl ly_28 rfl (gd_in b_2) rfl ?_
    refine ev_x (i := .iconst 1) (len := 1) (p' := 18) (s' := [.int 1, .int (gE (σ) 28 ((gE (σ) 24 (x_1 : Int32).toNatClampNeg) : Int32).toNatClampNeg)]) rfl rfl rfl ?_
    refine F_jn (A := vz_ev P0 (d + 1) 117 26 [(0, .ref 42), (1, .int x_1)] [.int (if (gE (σ) 28 ((gE (σ) 24 (x_1 : Int32).toNatClampNeg) : Int32).toNatClampNeg) = 1 then 1 else 0 : Int32)] (hp (σ)) (.inl (some (.int p.1)), hp p.2)) ?_ (fun J => ?_)
    · obtain rfl := Option.some.inj H
      exact ev_iret rfl rfl rfl (fit_b (by (repeat' split) <;> decide))
    · by_cases c_3 : (gE (σ) 28 ((gE (σ) 24 (x_1 : Int32).toNatClampNeg) : Int32).toNatClampNeg) = 1
      · refine ev_b2 (t := 25) (p' := 21) rfl rfl rfl (if_neg (fun q => q c_3)) ?_
        refine ev_x (i := .iconst 1) (len := 1) (p' := 22) (s' := [.int 1]) rfl rfl rfl ?_
        refine ev_x (i := .goto 4) (len := 3) (p' := 26) (s' := [.int 1]) rfl rfl rfl ?_
        exact ev_st (congrArg (fun z => Value.int z :: []) (by rw [if_pos c_3])) J
      · refine ev_b2 (t := 25) (p' := 25) rfl rfl rfl (if_pos c_3) ?_
        refine ev_x (i := .iconst 0) (len := 1) (p' := 26) (s' := [.int 0]) rfl rfl rfl ?_
        exact ev_st (congrArg (fun z => Value.int z :: []) (by rw [if_neg c_3])) J
/-- GameText$Explorer.looksAtSum(II)I, its loops -/
def L_120 (N : Nat) (t : Nat) : Nat → Nat → Int32 → Int32 → Int64 → Int32 → Int64 → Int32 → st_S → Option (Int32 × st_S)
  | 0, _, _, _, _, _, _, _, _ => none
  | k + 1, w, l_1, l_2, l_3, l_5, l_5l, l_7, σ =>
    if w = 5 then
      if l_2 ≤ l_5 then
        L_120 N t k 71 l_1 l_2 l_3 0 0 0 (σ)
      else
        if aB l_5 (gN σ 64) then
        (F_75 N l_3 ((gE (σ) 64 (l_5 : Int32).toNatClampNeg) : Int32).toInt64 (σ)).bind fun p_3 =>
        if ¬ (p_3.1 : Int64) = 0 then
        if aB l_5 (gN p_3.2 64) then
        if (lg_cmp ((l_3 / p_3.1) * ((gE (p_3.2) 64 (l_5 : Int32).toNatClampNeg) : Int32).toInt64) 1000000000) < 0 then
          L_120 N t k 5 l_1 l_2 ((l_3 / p_3.1) * ((gE (p_3.2) 64 (l_5 : Int32).toNatClampNeg) : Int32).toInt64) (l_5 + 1) 0 0 (p_3.2)
        else
          if aB l_1 (gN p_3.2 (t + 3)) then
          (F_116 N 6 (gE (p_3.2) (t + 3) (l_1 : Int32).toNatClampNeg) (p_3.2)).bind fun p_8 =>
          some (p_8.1, p_8.2)
          else none
        else none
        else none
        else none
    else
      if l_2 ≤ l_7 then
        if (lg_cmp l_5l l_3) = 0 then
          some (0, σ)
        else
          if aB l_1 (gN σ (t + 3)) then
          (F_116 N 11 (gE (σ) (t + 3) (l_1 : Int32).toNatClampNeg) (σ)).bind fun p_12 =>
          some (p_12.1, p_12.2)
          else none
      else
        if aB l_7 (gN σ 63) then
        if aB l_7 (gN σ 64) then
        if ¬ (((if 1 < (gE (σ) 64 (l_7 : Int32).toNatClampNeg) then (gE (σ) 64 (l_7 : Int32).toNatClampNeg) else 1) : Int32).toInt64 : Int64) = 0 then
        L_120 N t k 71 l_1 l_2 l_3 0 (l_5l + (((gE (σ) 63 (l_7 : Int32).toNatClampNeg) : Int32).toInt64 * (l_3 / ((if 1 < (gE (σ) 64 (l_7 : Int32).toNatClampNeg) then (gE (σ) 64 (l_7 : Int32).toNatClampNeg) else 1) : Int32).toInt64))) (l_7 + 1) (σ)
        else none
        else none
        else none
set_option maxRecDepth 100000 in
theorem L_120_R {N : Nat} {t : Nat} : ∀ (k : Nat) (w : Nat) (l_1 : Int32) (l_2 : Int32) (l_3 : Int64) (l_5 : Int32) (l_5l : Int64) (l_7 : Int32) (σ : st_S) (p : Int32 × st_S), L_120 N t k w l_1 l_2 l_3 l_5 l_5l l_7 σ = some p → gR p.2 = gR σ := by
  intro k
  induction k with
  | zero => intro w l_1 l_2 l_3 l_5 l_5l l_7 σ p H; unfold L_120 at H; cases H
  | succ k ih =>
    intro w l_1 l_2 l_3 l_5 l_5l l_7 σ p H
    unfold L_120 at H
    refine F_if H (fun _ H => ?_) (fun _ H => ?_)
    · refine F_if H (fun _ H => ?_) (fun _ H => ?_)
      · exact (((ih _ _ _ _ _ _ _ _ _ H)).trans rfl)
      · obtain ⟨_, H⟩ := F_gd H
        obtain ⟨p_3, G_3, H⟩ := F_bd H
        obtain ⟨_, H⟩ := F_gd H
        obtain ⟨_, H⟩ := F_gd H
        refine F_if H (fun _ H => ?_) (fun _ H => ?_)
        · exact (((ih _ _ _ _ _ _ _ _ _ H)).trans ((F_75_R G_3).trans rfl))
        · obtain ⟨_, H⟩ := F_gd H
          obtain ⟨p_8, G_8, H⟩ := F_bd H
          obtain rfl := Option.some.inj H
          exact ((F_116_R G_8).trans ((F_75_R G_3).trans rfl))
    · skip
      refine F_if H (fun _ H => ?_) (fun _ H => ?_)
      · refine F_if H (fun _ H => ?_) (fun _ H => ?_)
        · obtain rfl := Option.some.inj H
          exact rfl
        · obtain ⟨_, H⟩ := F_gd H
          obtain ⟨p_12, G_12, H⟩ := F_bd H
          obtain rfl := Option.some.inj H
          exact ((F_116_R G_12).trans rfl)
      · obtain ⟨_, H⟩ := F_gd H
        obtain ⟨_, H⟩ := F_gd H
        obtain ⟨_, H⟩ := F_gd H
        exact (((ih _ _ _ _ _ _ _ _ _ H)).trans rfl)
set_option maxHeartbeats 4000000 in
set_option maxRecDepth 100000 in
theorem L_120_ok {N d : Nat} {t : Nat} (ht : t = 4 ∨ t = 20) : ∀ k : Nat, (∀ (l_1 : Int32) (l_2 : Int32) (l_3 : Int64) (l_5 : Int32) (l_5l : Int64) (l_7 : Int32) (σ : st_S) (lv : vz_L) (p : Int32 × st_S), vz_g lv 0 = some (.ref 62) → vz_g lv 1 = some (.int l_1) → vz_g lv 2 = some (.int l_2) → vz_g lv 3 = some (.long l_3) → vz_g lv 5 = some (.int l_5) → vz_nbL (vz_gr P0) lv = true → gR σ 62 6 = (t + 1) → L_120 N t k 5 l_1 l_2 l_3 l_5 l_5l l_7 σ = some p → vz_ev P0 (d + 4) 120 5 lv [] (hp σ) (.inl (some (.int p.1)), hp p.2)) ∧ (∀ (l_1 : Int32) (l_2 : Int32) (l_3 : Int64) (l_5 : Int32) (l_5l : Int64) (l_7 : Int32) (σ : st_S) (lv : vz_L) (p : Int32 × st_S), vz_g lv 0 = some (.ref 62) → vz_g lv 1 = some (.int l_1) → vz_g lv 2 = some (.int l_2) → vz_g lv 3 = some (.long l_3) → vz_g lv 5 = some (.long l_5l) → vz_g lv 7 = some (.int l_7) → vz_nbL (vz_gr P0) lv = true → gR σ 62 6 = (t + 1) → L_120 N t k 71 l_1 l_2 l_3 l_5 l_5l l_7 σ = some p → vz_ev P0 (d + 4) 120 71 lv [] (hp σ) (.inl (some (.int p.1)), hp p.2)) := by
  rcases ht with rfl | rfl
  · intro k
    induction k with
    | zero => exact ⟨(by intro l_1 l_2 l_3 l_5 l_5l l_7 σ lv p g_0 g_1 g_2 g_3 g_5 hnb hr_62_6 H; unfold L_120 at H; cases H), (by intro l_1 l_2 l_3 l_5 l_5l l_7 σ lv p g_0 g_1 g_2 g_3 g_5 g_7 hnb hr_62_6 H; unfold L_120 at H; cases H)⟩
    | succ k ih =>
      refine ⟨?_, ?_⟩
      · intro l_1 l_2 l_3 l_5 l_5l l_7 σ lv p g_0 g_1 g_2 g_3 g_5 hnb hr_62_6 H
        unfold L_120 at H
        rw [if_pos rfl] at H
        refine ev_x (i := .iload 5) (len := 2) (p' := 7) (s' := [.int l_5]) rfl rfl (ld_i g_5) ?_
        refine ev_x (i := .iload_n 2) (len := 1) (p' := 8) (s' := [.int l_2, .int l_5]) rfl rfl (ld_i g_2) ?_
        refine F_if H (fun c_1 H => ?_) (fun c_1 H => ?_)
        · refine ev_b2 (t := 65) (p' := 65) rfl rfl rfl (if_pos c_1) ?_
          refine ev_x (i := .lconst 0) (len := 1) (p' := 66) (s' := [.long 0]) rfl rfl rfl ?_
          refine ev_x (i := .lstore 5) (len := 2) (p' := 68) (s' := []) (l' := vz_s2 (lv) 5 (.long 0)) rfl rfl rfl ?_
          refine ev_x (i := .iconst 0) (len := 1) (p' := 69) (s' := [.int 0]) rfl rfl rfl ?_
          refine ev_x (i := .istore 7) (len := 2) (p' := 71) (s' := []) (l' := vz_s1 (vz_s2 (lv) 5 (.long 0)) 7 (.int 0)) rfl rfl rfl ?_
          exact ih.2 _ _ _ _ _ _ _ _ _ (vg_o (i := 7) (v := .int 0) (vg_o2 (i := 5) (v := .long 0) g_0 (by decide) (by decide) (Or.inl rfl)) (by decide) (Or.inl rfl)) (vg_o (i := 7) (v := .int 0) (vg_o2 (i := 5) (v := .long 0) g_1 (by decide) (by decide) (Or.inl rfl)) (by decide) (Or.inl rfl)) (vg_o (i := 7) (v := .int 0) (vg_o2 (i := 5) (v := .long 0) g_2 (by decide) (by decide) (Or.inl rfl)) (by decide) (Or.inl rfl)) (vg_o (i := 7) (v := .int 0) (vg_o2 (i := 5) (v := .long 0) g_3 (by decide) (by decide) (Or.inr (by decide))) (by decide) (Or.inr (by decide))) (vg_o (i := 7) (v := .int 0) (vg_s2 (lv) 5 (.long 0)) (by decide) (Or.inr (by decide))) (vg_s (vz_s2 (lv) 5 (.long 0)) 7 (.int 0)) (nb_s1 (nb_s2 hnb rfl) rfl) hr_62_6 H
        · refine ev_b2 (t := 65) (p' := 11) rfl rfl rfl (if_neg c_1) ?_
          refine ev_x (i := .lload_n 3) (len := 1) (p' := 12) (s' := [.long l_3]) rfl rfl (ld_l g_3) ?_
          refine ev_x (i := .lload_n 3) (len := 1) (p' := 13) (s' := [.long l_3, .long l_3]) rfl rfl (ld_l g_3) ?_
          refine ev_x (i := .aload_n 0) (len := 1) (p' := 14) (s' := [.ref 62, .long l_3, .long l_3]) rfl rfl (ld_a g_0) ?_
          refine ev_gc (p' := 17) (v := 64) rfl rfl rfl ly_62 rfl rfl ?_
          refine ev_x (i := .iload 5) (len := 2) (p' := 19) (s' := [.int l_5, .ref 64, .long l_3, .long l_3]) rfl rfl (ld_i g_5) ?_
          obtain ⟨b_2, H⟩ := F_gd H
          refine ev_ga (p' := 20) (v := (gE (σ) 64 (l_5 : Int32).toNatClampNeg)) rfl rfl ly_64 rfl (gd_in b_2) rfl ?_
          refine ev_x (i := .i2l) (len := 1) (p' := 21) (s' := [.long ((gE (σ) 64 (l_5 : Int32).toNatClampNeg) : Int32).toInt64, .long l_3, .long l_3]) rfl rfl rfl ?_
          obtain ⟨p_3, G_3, H⟩ := F_bd H
          refine ev_callS (d := d + 3) (As := [.long l_3, .long ((gE (σ) 64 (l_5 : Int32).toNatClampNeg) : Int32).toInt64]) rfl rfl rfl (by decide) rfl rfl rfl rfl hnb (F_75_ok (d := d + 2)   G_3) ?_
          refine ev_st (st' := [.long p_3.1, .long l_3]) rfl ?_
          refine ev_pc (pc' := 24) rfl ?_
          have e_3 := F_75_R G_3
          obtain ⟨b_4, H⟩ := F_gd H
          refine ev_ldiv (p' := 25) rfl rfl b_4 rfl ?_
          refine ev_x (i := .aload_n 0) (len := 1) (p' := 26) (s' := [.ref 62, .long (l_3 / p_3.1)]) rfl rfl (ld_a g_0) ?_
          refine ev_gc (p' := 29) (v := 64) rfl rfl rfl ly_62 rfl rfl ?_
          refine ev_x (i := .iload 5) (len := 2) (p' := 31) (s' := [.int l_5, .ref 64, .long (l_3 / p_3.1)]) rfl rfl (ld_i g_5) ?_
          obtain ⟨b_5, H⟩ := F_gd H
          refine ev_ga (p' := 32) (v := (gE (p_3.2) 64 (l_5 : Int32).toNatClampNeg)) rfl rfl ly_64 rfl (gd_in b_5) rfl ?_
          refine ev_x (i := .i2l) (len := 1) (p' := 33) (s' := [.long ((gE (p_3.2) 64 (l_5 : Int32).toNatClampNeg) : Int32).toInt64, .long (l_3 / p_3.1)]) rfl rfl rfl ?_
          refine ev_x (i := .lmul) (len := 1) (p' := 34) (s' := [.long ((l_3 / p_3.1) * ((gE (p_3.2) 64 (l_5 : Int32).toNatClampNeg) : Int32).toInt64)]) rfl rfl rfl ?_
          refine ev_x (i := .lstore_n 3) (len := 1) (p' := 35) (s' := []) (l' := vz_s2 (lv) 3 (.long ((l_3 / p_3.1) * ((gE (p_3.2) 64 (l_5 : Int32).toNatClampNeg) : Int32).toInt64))) rfl rfl rfl ?_
          refine ev_x (i := .lload_n 3) (len := 1) (p' := 36) (s' := [.long ((l_3 / p_3.1) * ((gE (p_3.2) 64 (l_5 : Int32).toNatClampNeg) : Int32).toInt64)]) rfl rfl (ld_l (vg_s2 (lv) 3 (.long ((l_3 / p_3.1) * ((gE (p_3.2) 64 (l_5 : Int32).toNatClampNeg) : Int32).toInt64)))) ?_
          refine ev_x (i := .ldc2_w 164) (len := 3) (p' := 39) (s' := [.long 1000000000, .long ((l_3 / p_3.1) * ((gE (p_3.2) 64 (l_5 : Int32).toNatClampNeg) : Int32).toInt64)]) rfl rfl rfl ?_
          refine ev_x (i := .lcmp) (len := 1) (p' := 40) (s' := [.int (lg_cmp ((l_3 / p_3.1) * ((gE (p_3.2) 64 (l_5 : Int32).toNatClampNeg) : Int32).toInt64) 1000000000)]) rfl rfl rfl ?_
          refine F_if H (fun c_6 H => ?_) (fun c_6 H => ?_)
          · refine ev_b0 (t := 59) (p' := 59) rfl rfl rfl (if_pos c_6) ?_
            refine ev_x (i := .iinc 5 1) (len := 3) (p' := 62) (s' := []) (l' := vz_s1 (vz_s2 (lv) 3 (.long ((l_3 / p_3.1) * ((gE (p_3.2) 64 (l_5 : Int32).toNatClampNeg) : Int32).toInt64))) 5 (.int (l_5 + 1))) rfl rfl (ld_inc (vg_o2 (i := 3) (v := .long ((l_3 / p_3.1) * ((gE (p_3.2) 64 (l_5 : Int32).toNatClampNeg) : Int32).toInt64)) g_5 (by decide) (by decide) (Or.inl rfl)) rfl) ?_
            refine ev_x (i := .goto (-57)) (len := 3) (p' := 5) (s' := []) rfl rfl rfl ?_
            exact ih.1 _ _ _ _ _ _ _ _ _ (vg_o (i := 5) (v := .int (l_5 + 1)) (vg_o2 (i := 3) (v := .long ((l_3 / p_3.1) * ((gE (p_3.2) 64 (l_5 : Int32).toNatClampNeg) : Int32).toInt64)) g_0 (by decide) (by decide) (Or.inl rfl)) (by decide) (Or.inl rfl)) (vg_o (i := 5) (v := .int (l_5 + 1)) (vg_o2 (i := 3) (v := .long ((l_3 / p_3.1) * ((gE (p_3.2) 64 (l_5 : Int32).toNatClampNeg) : Int32).toInt64)) g_1 (by decide) (by decide) (Or.inl rfl)) (by decide) (Or.inl rfl)) (vg_o (i := 5) (v := .int (l_5 + 1)) (vg_o2 (i := 3) (v := .long ((l_3 / p_3.1) * ((gE (p_3.2) 64 (l_5 : Int32).toNatClampNeg) : Int32).toInt64)) g_2 (by decide) (by decide) (Or.inl rfl)) (by decide) (Or.inl rfl)) (vg_o (i := 5) (v := .int (l_5 + 1)) (vg_s2 (lv) 3 (.long ((l_3 / p_3.1) * ((gE (p_3.2) 64 (l_5 : Int32).toNatClampNeg) : Int32).toInt64))) (by decide) (Or.inr (by decide))) (vg_s (vz_s2 (lv) 3 (.long ((l_3 / p_3.1) * ((gE (p_3.2) 64 (l_5 : Int32).toNatClampNeg) : Int32).toInt64))) 5 (.int (l_5 + 1))) (nb_s1 (nb_s2 hnb rfl) rfl) ((congrFun (congrFun e_3 62) 6).trans hr_62_6) H
          · refine ev_b0 (t := 59) (p' := 43) rfl rfl rfl (if_neg c_6) ?_
            refine ev_x (i := .aload_n 0) (len := 1) (p' := 44) (s' := [.ref 62]) rfl rfl (ld_a (vg_o2 (i := 3) (v := .long ((l_3 / p_3.1) * ((gE (p_3.2) 64 (l_5 : Int32).toNatClampNeg) : Int32).toInt64)) g_0 (by decide) (by decide) (Or.inl rfl))) ?_
            refine ev_x (i := .bipush 6) (len := 2) (p' := 46) (s' := [.int 6, .ref 62]) rfl rfl rfl ?_
            refine ev_x (i := .aload_n 0) (len := 1) (p' := 47) (s' := [.ref 62, .int 6, .ref 62]) rfl rfl (ld_a (vg_o2 (i := 3) (v := .long ((l_3 / p_3.1) * ((gE (p_3.2) 64 (l_5 : Int32).toNatClampNeg) : Int32).toInt64)) g_0 (by decide) (by decide) (Or.inl rfl))) ?_
            refine ev_gr (p' := 50) (v := 5) rfl rfl rfl ly_62 rfl rfl ((congrFun (congrFun e_3 62) 6).trans hr_62_6) ?_
            refine ev_gc (p' := 53) (v := 7) rfl rfl rfl ly_5 rfl rfl ?_
            refine ev_x (i := .iload_n 1) (len := 1) (p' := 54) (s' := [.int l_1, .ref 7, .int 6, .ref 62]) rfl rfl (ld_i (vg_o2 (i := 3) (v := .long ((l_3 / p_3.1) * ((gE (p_3.2) 64 (l_5 : Int32).toNatClampNeg) : Int32).toInt64)) g_1 (by decide) (by decide) (Or.inl rfl))) ?_
            obtain ⟨b_7, H⟩ := F_gd H
            refine ev_ga (p' := 55) (v := (gE (p_3.2) 7 (l_1 : Int32).toNatClampNeg)) rfl rfl ly_7 rfl (gd_in b_7) rfl ?_
            obtain ⟨p_8, G_8, H⟩ := F_bd H
            refine ev_cv (d := d + 3) (As := [.int 6, .int (gE (p_3.2) 7 (l_1 : Int32).toNatClampNeg)]) (a := 62) (p' := 58) rfl rfl rfl ly_62 rfl rfl rfl rfl rfl (nb_s2 hnb rfl) rfl (F_116_ok (d := d + 2)   G_8) ?_
            refine ev_st (st' := [.int p_8.1]) rfl ?_
            have e_8 := F_116_R G_8
            obtain rfl := Option.some.inj H
            exact ev_iret rfl rfl rfl rfl
      · intro l_1 l_2 l_3 l_5 l_5l l_7 σ lv p g_0 g_1 g_2 g_3 g_5 g_7 hnb hr_62_6 H
        unfold L_120 at H
        rw [if_neg (by decide)] at H
        refine ev_x (i := .iload 7) (len := 2) (p' := 73) (s' := [.int l_7]) rfl rfl (ld_i g_7) ?_
        refine ev_x (i := .iload_n 2) (len := 1) (p' := 74) (s' := [.int l_2, .int l_7]) rfl rfl (ld_i g_2) ?_
        refine F_if H (fun c_9 H => ?_) (fun c_9 H => ?_)
        · refine ev_b2 (t := 111) (p' := 111) rfl rfl rfl (if_pos c_9) ?_
          refine ev_x (i := .lload 5) (len := 2) (p' := 113) (s' := [.long l_5l]) rfl rfl (ld_l g_5) ?_
          refine ev_x (i := .lload_n 3) (len := 1) (p' := 114) (s' := [.long l_3, .long l_5l]) rfl rfl (ld_l g_3) ?_
          refine ev_x (i := .lcmp) (len := 1) (p' := 115) (s' := [.int (lg_cmp l_5l l_3)]) rfl rfl rfl ?_
          refine F_if H (fun c_10 H => ?_) (fun c_10 H => ?_)
          · refine ev_b0 (t := 122) (p' := 118) rfl rfl rfl (if_neg (fun q => q c_10)) ?_
            refine ev_x (i := .iconst 0) (len := 1) (p' := 119) (s' := [.int 0]) rfl rfl rfl ?_
            refine ev_x (i := .goto 18) (len := 3) (p' := 137) (s' := [.int 0]) rfl rfl rfl ?_
            obtain rfl := Option.some.inj H
            exact ev_iret rfl rfl rfl rfl
          · refine ev_b0 (t := 122) (p' := 122) rfl rfl rfl (if_pos c_10) ?_
            refine ev_x (i := .aload_n 0) (len := 1) (p' := 123) (s' := [.ref 62]) rfl rfl (ld_a g_0) ?_
            refine ev_x (i := .bipush 11) (len := 2) (p' := 125) (s' := [.int 11, .ref 62]) rfl rfl rfl ?_
            refine ev_x (i := .aload_n 0) (len := 1) (p' := 126) (s' := [.ref 62, .int 11, .ref 62]) rfl rfl (ld_a g_0) ?_
            refine ev_gr (p' := 129) (v := 5) rfl rfl rfl ly_62 rfl rfl hr_62_6 ?_
            refine ev_gc (p' := 132) (v := 7) rfl rfl rfl ly_5 rfl rfl ?_
            refine ev_x (i := .iload_n 1) (len := 1) (p' := 133) (s' := [.int l_1, .ref 7, .int 11, .ref 62]) rfl rfl (ld_i g_1) ?_
            obtain ⟨b_11, H⟩ := F_gd H
            refine ev_ga (p' := 134) (v := (gE (σ) 7 (l_1 : Int32).toNatClampNeg)) rfl rfl ly_7 rfl (gd_in b_11) rfl ?_
            obtain ⟨p_12, G_12, H⟩ := F_bd H
            refine ev_cv (d := d + 3) (As := [.int 11, .int (gE (σ) 7 (l_1 : Int32).toNatClampNeg)]) (a := 62) (p' := 137) rfl rfl rfl ly_62 rfl rfl rfl rfl rfl hnb rfl (F_116_ok (d := d + 2)   G_12) ?_
            refine ev_st (st' := [.int p_12.1]) rfl ?_
            have e_12 := F_116_R G_12
            obtain rfl := Option.some.inj H
            exact ev_iret rfl rfl rfl rfl
        · refine ev_b2 (t := 111) (p' := 77) rfl rfl rfl (if_neg c_9) ?_
          refine ev_x (i := .lload 5) (len := 2) (p' := 79) (s' := [.long l_5l]) rfl rfl (ld_l g_5) ?_
          refine ev_x (i := .aload_n 0) (len := 1) (p' := 80) (s' := [.ref 62, .long l_5l]) rfl rfl (ld_a g_0) ?_
          refine ev_gc (p' := 83) (v := 63) rfl rfl rfl ly_62 rfl rfl ?_
          refine ev_x (i := .iload 7) (len := 2) (p' := 85) (s' := [.int l_7, .ref 63, .long l_5l]) rfl rfl (ld_i g_7) ?_
          obtain ⟨b_13, H⟩ := F_gd H
          refine ev_ga (p' := 86) (v := (gE (σ) 63 (l_7 : Int32).toNatClampNeg)) rfl rfl ly_63 rfl (gd_in b_13) rfl ?_
          refine ev_x (i := .i2l) (len := 1) (p' := 87) (s' := [.long ((gE (σ) 63 (l_7 : Int32).toNatClampNeg) : Int32).toInt64, .long l_5l]) rfl rfl rfl ?_
          refine ev_x (i := .lload_n 3) (len := 1) (p' := 88) (s' := [.long l_3, .long ((gE (σ) 63 (l_7 : Int32).toNatClampNeg) : Int32).toInt64, .long l_5l]) rfl rfl (ld_l g_3) ?_
          refine ev_x (i := .iconst 1) (len := 1) (p' := 89) (s' := [.int 1, .long l_3, .long ((gE (σ) 63 (l_7 : Int32).toNatClampNeg) : Int32).toInt64, .long l_5l]) rfl rfl rfl ?_
          refine ev_x (i := .aload_n 0) (len := 1) (p' := 90) (s' := [.ref 62, .int 1, .long l_3, .long ((gE (σ) 63 (l_7 : Int32).toNatClampNeg) : Int32).toInt64, .long l_5l]) rfl rfl (ld_a g_0) ?_
          refine ev_gc (p' := 93) (v := 64) rfl rfl rfl ly_62 rfl rfl ?_
          refine ev_x (i := .iload 7) (len := 2) (p' := 95) (s' := [.int l_7, .ref 64, .int 1, .long l_3, .long ((gE (σ) 63 (l_7 : Int32).toNatClampNeg) : Int32).toInt64, .long l_5l]) rfl rfl (ld_i g_7) ?_
          obtain ⟨b_14, H⟩ := F_gd H
          refine ev_ga (p' := 96) (v := (gE (σ) 64 (l_7 : Int32).toNatClampNeg)) rfl rfl ly_64 rfl (gd_in b_14) rfl ?_
          refine ev_math (As := [.int 1, .int (gE (σ) 64 (l_7 : Int32).toNatClampNeg)]) (rest := [.long l_3, .long ((gE (σ) 63 (l_7 : Int32).toNatClampNeg) : Int32).toInt64, .long l_5l]) (x := (if 1 < (gE (σ) 64 (l_7 : Int32).toNatClampNeg) then (gE (σ) 64 (l_7 : Int32).toNatClampNeg) else 1)) rfl rfl rfl rfl rfl rfl rfl ?_
          refine ev_x (i := .i2l) (len := 1) (p' := 100) (s' := [.long ((if 1 < (gE (σ) 64 (l_7 : Int32).toNatClampNeg) then (gE (σ) 64 (l_7 : Int32).toNatClampNeg) else 1) : Int32).toInt64, .long l_3, .long ((gE (σ) 63 (l_7 : Int32).toNatClampNeg) : Int32).toInt64, .long l_5l]) rfl rfl rfl ?_
          obtain ⟨b_15, H⟩ := F_gd H
          refine ev_ldiv (p' := 101) rfl rfl b_15 rfl ?_
          refine ev_x (i := .lmul) (len := 1) (p' := 102) (s' := [.long (((gE (σ) 63 (l_7 : Int32).toNatClampNeg) : Int32).toInt64 * (l_3 / ((if 1 < (gE (σ) 64 (l_7 : Int32).toNatClampNeg) then (gE (σ) 64 (l_7 : Int32).toNatClampNeg) else 1) : Int32).toInt64)), .long l_5l]) rfl rfl rfl ?_
          refine ev_x (i := .ladd) (len := 1) (p' := 103) (s' := [.long (l_5l + (((gE (σ) 63 (l_7 : Int32).toNatClampNeg) : Int32).toInt64 * (l_3 / ((if 1 < (gE (σ) 64 (l_7 : Int32).toNatClampNeg) then (gE (σ) 64 (l_7 : Int32).toNatClampNeg) else 1) : Int32).toInt64)))]) rfl rfl rfl ?_
          refine ev_x (i := .lstore 5) (len := 2) (p' := 105) (s' := []) (l' := vz_s2 (lv) 5 (.long (l_5l + (((gE (σ) 63 (l_7 : Int32).toNatClampNeg) : Int32).toInt64 * (l_3 / ((if 1 < (gE (σ) 64 (l_7 : Int32).toNatClampNeg) then (gE (σ) 64 (l_7 : Int32).toNatClampNeg) else 1) : Int32).toInt64))))) rfl rfl rfl ?_
          refine ev_x (i := .iinc 7 1) (len := 3) (p' := 108) (s' := []) (l' := vz_s1 (vz_s2 (lv) 5 (.long (l_5l + (((gE (σ) 63 (l_7 : Int32).toNatClampNeg) : Int32).toInt64 * (l_3 / ((if 1 < (gE (σ) 64 (l_7 : Int32).toNatClampNeg) then (gE (σ) 64 (l_7 : Int32).toNatClampNeg) else 1) : Int32).toInt64))))) 7 (.int (l_7 + 1))) rfl rfl (ld_inc (vg_o2 (i := 5) (v := .long (l_5l + (((gE (σ) 63 (l_7 : Int32).toNatClampNeg) : Int32).toInt64 * (l_3 / ((if 1 < (gE (σ) 64 (l_7 : Int32).toNatClampNeg) then (gE (σ) 64 (l_7 : Int32).toNatClampNeg) else 1) : Int32).toInt64)))) g_7 (by decide) (by decide) (Or.inl rfl)) rfl) ?_
          refine ev_x (i := .goto (-37)) (len := 3) (p' := 71) (s' := []) rfl rfl rfl ?_
          exact ih.2 _ _ _ _ _ _ _ _ _ (vg_o (i := 7) (v := .int (l_7 + 1)) (vg_o2 (i := 5) (v := .long (l_5l + (((gE (σ) 63 (l_7 : Int32).toNatClampNeg) : Int32).toInt64 * (l_3 / ((if 1 < (gE (σ) 64 (l_7 : Int32).toNatClampNeg) then (gE (σ) 64 (l_7 : Int32).toNatClampNeg) else 1) : Int32).toInt64)))) g_0 (by decide) (by decide) (Or.inl rfl)) (by decide) (Or.inl rfl)) (vg_o (i := 7) (v := .int (l_7 + 1)) (vg_o2 (i := 5) (v := .long (l_5l + (((gE (σ) 63 (l_7 : Int32).toNatClampNeg) : Int32).toInt64 * (l_3 / ((if 1 < (gE (σ) 64 (l_7 : Int32).toNatClampNeg) then (gE (σ) 64 (l_7 : Int32).toNatClampNeg) else 1) : Int32).toInt64)))) g_1 (by decide) (by decide) (Or.inl rfl)) (by decide) (Or.inl rfl)) (vg_o (i := 7) (v := .int (l_7 + 1)) (vg_o2 (i := 5) (v := .long (l_5l + (((gE (σ) 63 (l_7 : Int32).toNatClampNeg) : Int32).toInt64 * (l_3 / ((if 1 < (gE (σ) 64 (l_7 : Int32).toNatClampNeg) then (gE (σ) 64 (l_7 : Int32).toNatClampNeg) else 1) : Int32).toInt64)))) g_2 (by decide) (by decide) (Or.inl rfl)) (by decide) (Or.inl rfl)) (vg_o (i := 7) (v := .int (l_7 + 1)) (vg_o2 (i := 5) (v := .long (l_5l + (((gE (σ) 63 (l_7 : Int32).toNatClampNeg) : Int32).toInt64 * (l_3 / ((if 1 < (gE (σ) 64 (l_7 : Int32).toNatClampNeg) then (gE (σ) 64 (l_7 : Int32).toNatClampNeg) else 1) : Int32).toInt64)))) g_3 (by decide) (by decide) (Or.inr (by decide))) (by decide) (Or.inr (by decide))) (vg_o (i := 7) (v := .int (l_7 + 1)) (vg_s2 (lv) 5 (.long (l_5l + (((gE (σ) 63 (l_7 : Int32).toNatClampNeg) : Int32).toInt64 * (l_3 / ((if 1 < (gE (σ) 64 (l_7 : Int32).toNatClampNeg) then (gE (σ) 64 (l_7 : Int32).toNatClampNeg) else 1) : Int32).toInt64))))) (by decide) (Or.inr (by decide))) (vg_s (vz_s2 (lv) 5 (.long (l_5l + (((gE (σ) 63 (l_7 : Int32).toNatClampNeg) : Int32).toInt64 * (l_3 / ((if 1 < (gE (σ) 64 (l_7 : Int32).toNatClampNeg) then (gE (σ) 64 (l_7 : Int32).toNatClampNeg) else 1) : Int32).toInt64))))) 7 (.int (l_7 + 1))) (nb_s1 (nb_s2 hnb rfl) rfl) hr_62_6 H
  · intro k
    induction k with
    | zero => exact ⟨(by intro l_1 l_2 l_3 l_5 l_5l l_7 σ lv p g_0 g_1 g_2 g_3 g_5 hnb hr_62_6 H; unfold L_120 at H; cases H), (by intro l_1 l_2 l_3 l_5 l_5l l_7 σ lv p g_0 g_1 g_2 g_3 g_5 g_7 hnb hr_62_6 H; unfold L_120 at H; cases H)⟩
    | succ k ih =>
      refine ⟨?_, ?_⟩
      · intro l_1 l_2 l_3 l_5 l_5l l_7 σ lv p g_0 g_1 g_2 g_3 g_5 hnb hr_62_6 H
        unfold L_120 at H
        rw [if_pos rfl] at H
        refine ev_x (i := .iload 5) (len := 2) (p' := 7) (s' := [.int l_5]) rfl rfl (ld_i g_5) ?_
        refine ev_x (i := .iload_n 2) (len := 1) (p' := 8) (s' := [.int l_2, .int l_5]) rfl rfl (ld_i g_2) ?_
        refine F_if H (fun c_1 H => ?_) (fun c_1 H => ?_)
        · refine ev_b2 (t := 65) (p' := 65) rfl rfl rfl (if_pos c_1) ?_
          refine ev_x (i := .lconst 0) (len := 1) (p' := 66) (s' := [.long 0]) rfl rfl rfl ?_
          refine ev_x (i := .lstore 5) (len := 2) (p' := 68) (s' := []) (l' := vz_s2 (lv) 5 (.long 0)) rfl rfl rfl ?_
          refine ev_x (i := .iconst 0) (len := 1) (p' := 69) (s' := [.int 0]) rfl rfl rfl ?_
          refine ev_x (i := .istore 7) (len := 2) (p' := 71) (s' := []) (l' := vz_s1 (vz_s2 (lv) 5 (.long 0)) 7 (.int 0)) rfl rfl rfl ?_
          exact ih.2 _ _ _ _ _ _ _ _ _ (vg_o (i := 7) (v := .int 0) (vg_o2 (i := 5) (v := .long 0) g_0 (by decide) (by decide) (Or.inl rfl)) (by decide) (Or.inl rfl)) (vg_o (i := 7) (v := .int 0) (vg_o2 (i := 5) (v := .long 0) g_1 (by decide) (by decide) (Or.inl rfl)) (by decide) (Or.inl rfl)) (vg_o (i := 7) (v := .int 0) (vg_o2 (i := 5) (v := .long 0) g_2 (by decide) (by decide) (Or.inl rfl)) (by decide) (Or.inl rfl)) (vg_o (i := 7) (v := .int 0) (vg_o2 (i := 5) (v := .long 0) g_3 (by decide) (by decide) (Or.inr (by decide))) (by decide) (Or.inr (by decide))) (vg_o (i := 7) (v := .int 0) (vg_s2 (lv) 5 (.long 0)) (by decide) (Or.inr (by decide))) (vg_s (vz_s2 (lv) 5 (.long 0)) 7 (.int 0)) (nb_s1 (nb_s2 hnb rfl) rfl) hr_62_6 H
        · refine ev_b2 (t := 65) (p' := 11) rfl rfl rfl (if_neg c_1) ?_
          refine ev_x (i := .lload_n 3) (len := 1) (p' := 12) (s' := [.long l_3]) rfl rfl (ld_l g_3) ?_
          refine ev_x (i := .lload_n 3) (len := 1) (p' := 13) (s' := [.long l_3, .long l_3]) rfl rfl (ld_l g_3) ?_
          refine ev_x (i := .aload_n 0) (len := 1) (p' := 14) (s' := [.ref 62, .long l_3, .long l_3]) rfl rfl (ld_a g_0) ?_
          refine ev_gc (p' := 17) (v := 64) rfl rfl rfl ly_62 rfl rfl ?_
          refine ev_x (i := .iload 5) (len := 2) (p' := 19) (s' := [.int l_5, .ref 64, .long l_3, .long l_3]) rfl rfl (ld_i g_5) ?_
          obtain ⟨b_2, H⟩ := F_gd H
          refine ev_ga (p' := 20) (v := (gE (σ) 64 (l_5 : Int32).toNatClampNeg)) rfl rfl ly_64 rfl (gd_in b_2) rfl ?_
          refine ev_x (i := .i2l) (len := 1) (p' := 21) (s' := [.long ((gE (σ) 64 (l_5 : Int32).toNatClampNeg) : Int32).toInt64, .long l_3, .long l_3]) rfl rfl rfl ?_
          obtain ⟨p_3, G_3, H⟩ := F_bd H
          refine ev_callS (d := d + 3) (As := [.long l_3, .long ((gE (σ) 64 (l_5 : Int32).toNatClampNeg) : Int32).toInt64]) rfl rfl rfl (by decide) rfl rfl rfl rfl hnb (F_75_ok (d := d + 2)   G_3) ?_
          refine ev_st (st' := [.long p_3.1, .long l_3]) rfl ?_
          refine ev_pc (pc' := 24) rfl ?_
          have e_3 := F_75_R G_3
          obtain ⟨b_4, H⟩ := F_gd H
          refine ev_ldiv (p' := 25) rfl rfl b_4 rfl ?_
          refine ev_x (i := .aload_n 0) (len := 1) (p' := 26) (s' := [.ref 62, .long (l_3 / p_3.1)]) rfl rfl (ld_a g_0) ?_
          refine ev_gc (p' := 29) (v := 64) rfl rfl rfl ly_62 rfl rfl ?_
          refine ev_x (i := .iload 5) (len := 2) (p' := 31) (s' := [.int l_5, .ref 64, .long (l_3 / p_3.1)]) rfl rfl (ld_i g_5) ?_
          obtain ⟨b_5, H⟩ := F_gd H
          refine ev_ga (p' := 32) (v := (gE (p_3.2) 64 (l_5 : Int32).toNatClampNeg)) rfl rfl ly_64 rfl (gd_in b_5) rfl ?_
          refine ev_x (i := .i2l) (len := 1) (p' := 33) (s' := [.long ((gE (p_3.2) 64 (l_5 : Int32).toNatClampNeg) : Int32).toInt64, .long (l_3 / p_3.1)]) rfl rfl rfl ?_
          refine ev_x (i := .lmul) (len := 1) (p' := 34) (s' := [.long ((l_3 / p_3.1) * ((gE (p_3.2) 64 (l_5 : Int32).toNatClampNeg) : Int32).toInt64)]) rfl rfl rfl ?_
          refine ev_x (i := .lstore_n 3) (len := 1) (p' := 35) (s' := []) (l' := vz_s2 (lv) 3 (.long ((l_3 / p_3.1) * ((gE (p_3.2) 64 (l_5 : Int32).toNatClampNeg) : Int32).toInt64))) rfl rfl rfl ?_
          refine ev_x (i := .lload_n 3) (len := 1) (p' := 36) (s' := [.long ((l_3 / p_3.1) * ((gE (p_3.2) 64 (l_5 : Int32).toNatClampNeg) : Int32).toInt64)]) rfl rfl (ld_l (vg_s2 (lv) 3 (.long ((l_3 / p_3.1) * ((gE (p_3.2) 64 (l_5 : Int32).toNatClampNeg) : Int32).toInt64)))) ?_
          refine ev_x (i := .ldc2_w 164) (len := 3) (p' := 39) (s' := [.long 1000000000, .long ((l_3 / p_3.1) * ((gE (p_3.2) 64 (l_5 : Int32).toNatClampNeg) : Int32).toInt64)]) rfl rfl rfl ?_
          refine ev_x (i := .lcmp) (len := 1) (p' := 40) (s' := [.int (lg_cmp ((l_3 / p_3.1) * ((gE (p_3.2) 64 (l_5 : Int32).toNatClampNeg) : Int32).toInt64) 1000000000)]) rfl rfl rfl ?_
          refine F_if H (fun c_6 H => ?_) (fun c_6 H => ?_)
          · refine ev_b0 (t := 59) (p' := 59) rfl rfl rfl (if_pos c_6) ?_
            refine ev_x (i := .iinc 5 1) (len := 3) (p' := 62) (s' := []) (l' := vz_s1 (vz_s2 (lv) 3 (.long ((l_3 / p_3.1) * ((gE (p_3.2) 64 (l_5 : Int32).toNatClampNeg) : Int32).toInt64))) 5 (.int (l_5 + 1))) rfl rfl (ld_inc (vg_o2 (i := 3) (v := .long ((l_3 / p_3.1) * ((gE (p_3.2) 64 (l_5 : Int32).toNatClampNeg) : Int32).toInt64)) g_5 (by decide) (by decide) (Or.inl rfl)) rfl) ?_
            refine ev_x (i := .goto (-57)) (len := 3) (p' := 5) (s' := []) rfl rfl rfl ?_
            exact ih.1 _ _ _ _ _ _ _ _ _ (vg_o (i := 5) (v := .int (l_5 + 1)) (vg_o2 (i := 3) (v := .long ((l_3 / p_3.1) * ((gE (p_3.2) 64 (l_5 : Int32).toNatClampNeg) : Int32).toInt64)) g_0 (by decide) (by decide) (Or.inl rfl)) (by decide) (Or.inl rfl)) (vg_o (i := 5) (v := .int (l_5 + 1)) (vg_o2 (i := 3) (v := .long ((l_3 / p_3.1) * ((gE (p_3.2) 64 (l_5 : Int32).toNatClampNeg) : Int32).toInt64)) g_1 (by decide) (by decide) (Or.inl rfl)) (by decide) (Or.inl rfl)) (vg_o (i := 5) (v := .int (l_5 + 1)) (vg_o2 (i := 3) (v := .long ((l_3 / p_3.1) * ((gE (p_3.2) 64 (l_5 : Int32).toNatClampNeg) : Int32).toInt64)) g_2 (by decide) (by decide) (Or.inl rfl)) (by decide) (Or.inl rfl)) (vg_o (i := 5) (v := .int (l_5 + 1)) (vg_s2 (lv) 3 (.long ((l_3 / p_3.1) * ((gE (p_3.2) 64 (l_5 : Int32).toNatClampNeg) : Int32).toInt64))) (by decide) (Or.inr (by decide))) (vg_s (vz_s2 (lv) 3 (.long ((l_3 / p_3.1) * ((gE (p_3.2) 64 (l_5 : Int32).toNatClampNeg) : Int32).toInt64))) 5 (.int (l_5 + 1))) (nb_s1 (nb_s2 hnb rfl) rfl) ((congrFun (congrFun e_3 62) 6).trans hr_62_6) H
          · refine ev_b0 (t := 59) (p' := 43) rfl rfl rfl (if_neg c_6) ?_
            refine ev_x (i := .aload_n 0) (len := 1) (p' := 44) (s' := [.ref 62]) rfl rfl (ld_a (vg_o2 (i := 3) (v := .long ((l_3 / p_3.1) * ((gE (p_3.2) 64 (l_5 : Int32).toNatClampNeg) : Int32).toInt64)) g_0 (by decide) (by decide) (Or.inl rfl))) ?_
            refine ev_x (i := .bipush 6) (len := 2) (p' := 46) (s' := [.int 6, .ref 62]) rfl rfl rfl ?_
            refine ev_x (i := .aload_n 0) (len := 1) (p' := 47) (s' := [.ref 62, .int 6, .ref 62]) rfl rfl (ld_a (vg_o2 (i := 3) (v := .long ((l_3 / p_3.1) * ((gE (p_3.2) 64 (l_5 : Int32).toNatClampNeg) : Int32).toInt64)) g_0 (by decide) (by decide) (Or.inl rfl))) ?_
            refine ev_gr (p' := 50) (v := 21) rfl rfl rfl ly_62 rfl rfl ((congrFun (congrFun e_3 62) 6).trans hr_62_6) ?_
            refine ev_gc (p' := 53) (v := 23) rfl rfl rfl ly_21 rfl rfl ?_
            refine ev_x (i := .iload_n 1) (len := 1) (p' := 54) (s' := [.int l_1, .ref 23, .int 6, .ref 62]) rfl rfl (ld_i (vg_o2 (i := 3) (v := .long ((l_3 / p_3.1) * ((gE (p_3.2) 64 (l_5 : Int32).toNatClampNeg) : Int32).toInt64)) g_1 (by decide) (by decide) (Or.inl rfl))) ?_
            obtain ⟨b_7, H⟩ := F_gd H
            refine ev_ga (p' := 55) (v := (gE (p_3.2) 23 (l_1 : Int32).toNatClampNeg)) rfl rfl ly_23 rfl (gd_in b_7) rfl ?_
            obtain ⟨p_8, G_8, H⟩ := F_bd H
            refine ev_cv (d := d + 3) (As := [.int 6, .int (gE (p_3.2) 23 (l_1 : Int32).toNatClampNeg)]) (a := 62) (p' := 58) rfl rfl rfl ly_62 rfl rfl rfl rfl rfl (nb_s2 hnb rfl) rfl (F_116_ok (d := d + 2)   G_8) ?_
            refine ev_st (st' := [.int p_8.1]) rfl ?_
            have e_8 := F_116_R G_8
            obtain rfl := Option.some.inj H
            exact ev_iret rfl rfl rfl rfl
      · intro l_1 l_2 l_3 l_5 l_5l l_7 σ lv p g_0 g_1 g_2 g_3 g_5 g_7 hnb hr_62_6 H
        unfold L_120 at H
        rw [if_neg (by decide)] at H
        refine ev_x (i := .iload 7) (len := 2) (p' := 73) (s' := [.int l_7]) rfl rfl (ld_i g_7) ?_
        refine ev_x (i := .iload_n 2) (len := 1) (p' := 74) (s' := [.int l_2, .int l_7]) rfl rfl (ld_i g_2) ?_
        refine F_if H (fun c_9 H => ?_) (fun c_9 H => ?_)
        · refine ev_b2 (t := 111) (p' := 111) rfl rfl rfl (if_pos c_9) ?_
          refine ev_x (i := .lload 5) (len := 2) (p' := 113) (s' := [.long l_5l]) rfl rfl (ld_l g_5) ?_
          refine ev_x (i := .lload_n 3) (len := 1) (p' := 114) (s' := [.long l_3, .long l_5l]) rfl rfl (ld_l g_3) ?_
          refine ev_x (i := .lcmp) (len := 1) (p' := 115) (s' := [.int (lg_cmp l_5l l_3)]) rfl rfl rfl ?_
          refine F_if H (fun c_10 H => ?_) (fun c_10 H => ?_)
          · refine ev_b0 (t := 122) (p' := 118) rfl rfl rfl (if_neg (fun q => q c_10)) ?_
            refine ev_x (i := .iconst 0) (len := 1) (p' := 119) (s' := [.int 0]) rfl rfl rfl ?_
            refine ev_x (i := .goto 18) (len := 3) (p' := 137) (s' := [.int 0]) rfl rfl rfl ?_
            obtain rfl := Option.some.inj H
            exact ev_iret rfl rfl rfl rfl
          · refine ev_b0 (t := 122) (p' := 122) rfl rfl rfl (if_pos c_10) ?_
            refine ev_x (i := .aload_n 0) (len := 1) (p' := 123) (s' := [.ref 62]) rfl rfl (ld_a g_0) ?_
            refine ev_x (i := .bipush 11) (len := 2) (p' := 125) (s' := [.int 11, .ref 62]) rfl rfl rfl ?_
            refine ev_x (i := .aload_n 0) (len := 1) (p' := 126) (s' := [.ref 62, .int 11, .ref 62]) rfl rfl (ld_a g_0) ?_
            refine ev_gr (p' := 129) (v := 21) rfl rfl rfl ly_62 rfl rfl hr_62_6 ?_
            refine ev_gc (p' := 132) (v := 23) rfl rfl rfl ly_21 rfl rfl ?_
            refine ev_x (i := .iload_n 1) (len := 1) (p' := 133) (s' := [.int l_1, .ref 23, .int 11, .ref 62]) rfl rfl (ld_i g_1) ?_
            obtain ⟨b_11, H⟩ := F_gd H
            refine ev_ga (p' := 134) (v := (gE (σ) 23 (l_1 : Int32).toNatClampNeg)) rfl rfl ly_23 rfl (gd_in b_11) rfl ?_
            obtain ⟨p_12, G_12, H⟩ := F_bd H
            refine ev_cv (d := d + 3) (As := [.int 11, .int (gE (σ) 23 (l_1 : Int32).toNatClampNeg)]) (a := 62) (p' := 137) rfl rfl rfl ly_62 rfl rfl rfl rfl rfl hnb rfl (F_116_ok (d := d + 2)   G_12) ?_
            refine ev_st (st' := [.int p_12.1]) rfl ?_
            have e_12 := F_116_R G_12
            obtain rfl := Option.some.inj H
            exact ev_iret rfl rfl rfl rfl
        · refine ev_b2 (t := 111) (p' := 77) rfl rfl rfl (if_neg c_9) ?_
          refine ev_x (i := .lload 5) (len := 2) (p' := 79) (s' := [.long l_5l]) rfl rfl (ld_l g_5) ?_
          refine ev_x (i := .aload_n 0) (len := 1) (p' := 80) (s' := [.ref 62, .long l_5l]) rfl rfl (ld_a g_0) ?_
          refine ev_gc (p' := 83) (v := 63) rfl rfl rfl ly_62 rfl rfl ?_
          refine ev_x (i := .iload 7) (len := 2) (p' := 85) (s' := [.int l_7, .ref 63, .long l_5l]) rfl rfl (ld_i g_7) ?_
          obtain ⟨b_13, H⟩ := F_gd H
          refine ev_ga (p' := 86) (v := (gE (σ) 63 (l_7 : Int32).toNatClampNeg)) rfl rfl ly_63 rfl (gd_in b_13) rfl ?_
          refine ev_x (i := .i2l) (len := 1) (p' := 87) (s' := [.long ((gE (σ) 63 (l_7 : Int32).toNatClampNeg) : Int32).toInt64, .long l_5l]) rfl rfl rfl ?_
          refine ev_x (i := .lload_n 3) (len := 1) (p' := 88) (s' := [.long l_3, .long ((gE (σ) 63 (l_7 : Int32).toNatClampNeg) : Int32).toInt64, .long l_5l]) rfl rfl (ld_l g_3) ?_
          refine ev_x (i := .iconst 1) (len := 1) (p' := 89) (s' := [.int 1, .long l_3, .long ((gE (σ) 63 (l_7 : Int32).toNatClampNeg) : Int32).toInt64, .long l_5l]) rfl rfl rfl ?_
          refine ev_x (i := .aload_n 0) (len := 1) (p' := 90) (s' := [.ref 62, .int 1, .long l_3, .long ((gE (σ) 63 (l_7 : Int32).toNatClampNeg) : Int32).toInt64, .long l_5l]) rfl rfl (ld_a g_0) ?_
          refine ev_gc (p' := 93) (v := 64) rfl rfl rfl ly_62 rfl rfl ?_
          refine ev_x (i := .iload 7) (len := 2) (p' := 95) (s' := [.int l_7, .ref 64, .int 1, .long l_3, .long ((gE (σ) 63 (l_7 : Int32).toNatClampNeg) : Int32).toInt64, .long l_5l]) rfl rfl (ld_i g_7) ?_
          obtain ⟨b_14, H⟩ := F_gd H
          refine ev_ga (p' := 96) (v := (gE (σ) 64 (l_7 : Int32).toNatClampNeg)) rfl rfl ly_64 rfl (gd_in b_14) rfl ?_
          refine ev_math (As := [.int 1, .int (gE (σ) 64 (l_7 : Int32).toNatClampNeg)]) (rest := [.long l_3, .long ((gE (σ) 63 (l_7 : Int32).toNatClampNeg) : Int32).toInt64, .long l_5l]) (x := (if 1 < (gE (σ) 64 (l_7 : Int32).toNatClampNeg) then (gE (σ) 64 (l_7 : Int32).toNatClampNeg) else 1)) rfl rfl rfl rfl rfl rfl rfl ?_
          refine ev_x (i := .i2l) (len := 1) (p' := 100) (s' := [.long ((if 1 < (gE (σ) 64 (l_7 : Int32).toNatClampNeg) then (gE (σ) 64 (l_7 : Int32).toNatClampNeg) else 1) : Int32).toInt64, .long l_3, .long ((gE (σ) 63 (l_7 : Int32).toNatClampNeg) : Int32).toInt64, .long l_5l]) rfl rfl rfl ?_
          obtain ⟨b_15, H⟩ := F_gd H
          refine ev_ldiv (p' := 101) rfl rfl b_15 rfl ?_
          refine ev_x (i := .lmul) (len := 1) (p' := 102) (s' := [.long (((gE (σ) 63 (l_7 : Int32).toNatClampNeg) : Int32).toInt64 * (l_3 / ((if 1 < (gE (σ) 64 (l_7 : Int32).toNatClampNeg) then (gE (σ) 64 (l_7 : Int32).toNatClampNeg) else 1) : Int32).toInt64)), .long l_5l]) rfl rfl rfl ?_
          refine ev_x (i := .ladd) (len := 1) (p' := 103) (s' := [.long (l_5l + (((gE (σ) 63 (l_7 : Int32).toNatClampNeg) : Int32).toInt64 * (l_3 / ((if 1 < (gE (σ) 64 (l_7 : Int32).toNatClampNeg) then (gE (σ) 64 (l_7 : Int32).toNatClampNeg) else 1) : Int32).toInt64)))]) rfl rfl rfl ?_
          refine ev_x (i := .lstore 5) (len := 2) (p' := 105) (s' := []) (l' := vz_s2 (lv) 5 (.long (l_5l + (((gE (σ) 63 (l_7 : Int32).toNatClampNeg) : Int32).toInt64 * (l_3 / ((if 1 < (gE (σ) 64 (l_7 : Int32).toNatClampNeg) then (gE (σ) 64 (l_7 : Int32).toNatClampNeg) else 1) : Int32).toInt64))))) rfl rfl rfl ?_
          refine ev_x (i := .iinc 7 1) (len := 3) (p' := 108) (s' := []) (l' := vz_s1 (vz_s2 (lv) 5 (.long (l_5l + (((gE (σ) 63 (l_7 : Int32).toNatClampNeg) : Int32).toInt64 * (l_3 / ((if 1 < (gE (σ) 64 (l_7 : Int32).toNatClampNeg) then (gE (σ) 64 (l_7 : Int32).toNatClampNeg) else 1) : Int32).toInt64))))) 7 (.int (l_7 + 1))) rfl rfl (ld_inc (vg_o2 (i := 5) (v := .long (l_5l + (((gE (σ) 63 (l_7 : Int32).toNatClampNeg) : Int32).toInt64 * (l_3 / ((if 1 < (gE (σ) 64 (l_7 : Int32).toNatClampNeg) then (gE (σ) 64 (l_7 : Int32).toNatClampNeg) else 1) : Int32).toInt64)))) g_7 (by decide) (by decide) (Or.inl rfl)) rfl) ?_
          refine ev_x (i := .goto (-37)) (len := 3) (p' := 71) (s' := []) rfl rfl rfl ?_
          exact ih.2 _ _ _ _ _ _ _ _ _ (vg_o (i := 7) (v := .int (l_7 + 1)) (vg_o2 (i := 5) (v := .long (l_5l + (((gE (σ) 63 (l_7 : Int32).toNatClampNeg) : Int32).toInt64 * (l_3 / ((if 1 < (gE (σ) 64 (l_7 : Int32).toNatClampNeg) then (gE (σ) 64 (l_7 : Int32).toNatClampNeg) else 1) : Int32).toInt64)))) g_0 (by decide) (by decide) (Or.inl rfl)) (by decide) (Or.inl rfl)) (vg_o (i := 7) (v := .int (l_7 + 1)) (vg_o2 (i := 5) (v := .long (l_5l + (((gE (σ) 63 (l_7 : Int32).toNatClampNeg) : Int32).toInt64 * (l_3 / ((if 1 < (gE (σ) 64 (l_7 : Int32).toNatClampNeg) then (gE (σ) 64 (l_7 : Int32).toNatClampNeg) else 1) : Int32).toInt64)))) g_1 (by decide) (by decide) (Or.inl rfl)) (by decide) (Or.inl rfl)) (vg_o (i := 7) (v := .int (l_7 + 1)) (vg_o2 (i := 5) (v := .long (l_5l + (((gE (σ) 63 (l_7 : Int32).toNatClampNeg) : Int32).toInt64 * (l_3 / ((if 1 < (gE (σ) 64 (l_7 : Int32).toNatClampNeg) then (gE (σ) 64 (l_7 : Int32).toNatClampNeg) else 1) : Int32).toInt64)))) g_2 (by decide) (by decide) (Or.inl rfl)) (by decide) (Or.inl rfl)) (vg_o (i := 7) (v := .int (l_7 + 1)) (vg_o2 (i := 5) (v := .long (l_5l + (((gE (σ) 63 (l_7 : Int32).toNatClampNeg) : Int32).toInt64 * (l_3 / ((if 1 < (gE (σ) 64 (l_7 : Int32).toNatClampNeg) then (gE (σ) 64 (l_7 : Int32).toNatClampNeg) else 1) : Int32).toInt64)))) g_3 (by decide) (by decide) (Or.inr (by decide))) (by decide) (Or.inr (by decide))) (vg_o (i := 7) (v := .int (l_7 + 1)) (vg_s2 (lv) 5 (.long (l_5l + (((gE (σ) 63 (l_7 : Int32).toNatClampNeg) : Int32).toInt64 * (l_3 / ((if 1 < (gE (σ) 64 (l_7 : Int32).toNatClampNeg) then (gE (σ) 64 (l_7 : Int32).toNatClampNeg) else 1) : Int32).toInt64))))) (by decide) (Or.inr (by decide))) (vg_s (vz_s2 (lv) 5 (.long (l_5l + (((gE (σ) 63 (l_7 : Int32).toNatClampNeg) : Int32).toInt64 * (l_3 / ((if 1 < (gE (σ) 64 (l_7 : Int32).toNatClampNeg) then (gE (σ) 64 (l_7 : Int32).toNatClampNeg) else 1) : Int32).toInt64))))) 7 (.int (l_7 + 1))) (nb_s1 (nb_s2 hnb rfl) rfl) hr_62_6 H
/-- GameText$Explorer.looksAtSum(II)I -/
def F_120 (N : Nat) (t : Nat) (x_1 : Int32) (x_2 : Int32) (σ : st_S) : Option (Int32 × st_S) :=
  L_120 N t N 5 x_1 x_2 1 0 0 0 (σ)
set_option maxRecDepth 100000 in
theorem F_120_R {N : Nat} {t : Nat} {x_1 : Int32} {x_2 : Int32} {σ : st_S} {p : Int32 × st_S} (H : F_120 N t x_1 x_2 σ = some p) : gR p.2 = gR σ := by
  unfold F_120 at H
  exact (((L_120_R _ _ _ _ _ _ _ _ _ _ H)).trans rfl)
set_option maxHeartbeats 4000000 in
set_option maxRecDepth 100000 in
theorem F_120_ok {N d : Nat} {t : Nat} (ht : t = 4 ∨ t = 20) {x_1 : Int32} {x_2 : Int32} {σ : st_S} {p : Int32 × st_S} (hr_62_6 : gR σ 62 6 = (t + 1)) (H : F_120 N t x_1 x_2 σ = some p) : vz_ev P0 (d + 4) 120 0 (lv_args 0 [.ref 62, .int x_1, .int x_2]) [] (hp σ) (.inl (some (.int p.1)), hp p.2) := by
  unfold F_120 at H
  refine ev_x (i := .lconst 1) (len := 1) (p' := 1) (s' := [.long 1]) rfl rfl rfl ?_
  refine ev_x (i := .lstore_n 3) (len := 1) (p' := 2) (s' := []) (l' := [(3, .long 1), (0, .ref 62), (1, .int x_1), (2, .int x_2)]) rfl rfl rfl ?_
  refine ev_x (i := .iconst 0) (len := 1) (p' := 3) (s' := [.int 0]) rfl rfl rfl ?_
  refine ev_x (i := .istore 5) (len := 2) (p' := 5) (s' := []) (l' := [(5, .int 0), (3, .long 1), (0, .ref 62), (1, .int x_1), (2, .int x_2)]) rfl rfl rfl ?_
  exact (L_120_ok (d := d) ht N).1 _ _ _ _ _ _ _ _ _ rfl rfl rfl rfl rfl rfl hr_62_6 H
/-- GameText$Explorer.worksOutChances(I)I, from 119 -/
def J_119_119 (N : Nat) (t : Nat) (l_5 : Int32) (σ : st_S) : Option (Int32 × st_S) :=
  if aB l_5 (gN σ (t + 3)) then
  (F_116 N 11 (gE (σ) (t + 3) (l_5 : Int32).toNatClampNeg) (σ)).bind fun p_19 =>
  some (p_19.1, p_19.2)
  else none
set_option maxRecDepth 100000 in
theorem J_119_119_R {N : Nat} {t : Nat} {l_5 : Int32} {σ : st_S} {p : Int32 × st_S} (H : J_119_119 N t l_5 σ = some p) : gR p.2 = gR σ := by
  unfold J_119_119 at H
  obtain ⟨_, H⟩ := F_gd H
  obtain ⟨p_19, G_19, H⟩ := F_bd H
  obtain rfl := Option.some.inj H
  exact ((F_116_R G_19).trans rfl)
set_option maxHeartbeats 4000000 in
set_option maxRecDepth 100000 in
theorem J_119_119_ok {N d : Nat} {t : Nat} (ht : t = 4 ∨ t = 20) {l_5 : Int32} {σ : st_S} {lv : vz_L} {p : Int32 × st_S} (g_0 : vz_g lv 0 = some (.ref 62)) (g_5 : vz_g lv 5 = some (.int l_5)) (hnb : vz_nbL (vz_gr P0) lv = true) (hr_42_3 : gR σ 42 3 = t) (hr_42_4 : gR σ 42 4 = (t + 1)) (hr_62_6 : gR σ 62 6 = (t + 1)) (H : J_119_119 N t l_5 σ = some p) : vz_ev P0 (d + 5) 119 119 lv [] (hp σ) (.inl (some (.int p.1)), hp p.2) := by
  unfold J_119_119 at H
  rcases ht with rfl | rfl
  · refine ev_x (i := .aload_n 0) (len := 1) (p' := 120) (s' := [.ref 62]) rfl rfl (ld_a g_0) ?_
    refine ev_x (i := .bipush 11) (len := 2) (p' := 122) (s' := [.int 11, .ref 62]) rfl rfl rfl ?_
    refine ev_x (i := .aload_n 0) (len := 1) (p' := 123) (s' := [.ref 62, .int 11, .ref 62]) rfl rfl (ld_a g_0) ?_
    refine ev_gr (p' := 126) (v := 5) rfl rfl rfl ly_62 rfl rfl hr_62_6 ?_
    refine ev_gc (p' := 129) (v := 7) rfl rfl rfl ly_5 rfl rfl ?_
    refine ev_x (i := .iload 5) (len := 2) (p' := 131) (s' := [.int l_5, .ref 7, .int 11, .ref 62]) rfl rfl (ld_i g_5) ?_
    obtain ⟨b_18, H⟩ := F_gd H
    refine ev_ga (p' := 132) (v := (gE (σ) 7 (l_5 : Int32).toNatClampNeg)) rfl rfl ly_7 rfl (gd_in b_18) rfl ?_
    obtain ⟨p_19, G_19, H⟩ := F_bd H
    refine ev_cv (d := d + 4) (As := [.int 11, .int (gE (σ) 7 (l_5 : Int32).toNatClampNeg)]) (a := 62) (p' := 135) rfl rfl rfl ly_62 rfl rfl rfl rfl rfl hnb rfl (F_116_ok (d := d + 3)   G_19) ?_
    refine ev_st (st' := [.int p_19.1]) rfl ?_
    have e_19 := F_116_R G_19
    obtain rfl := Option.some.inj H
    exact ev_iret rfl rfl rfl rfl
  · refine ev_x (i := .aload_n 0) (len := 1) (p' := 120) (s' := [.ref 62]) rfl rfl (ld_a g_0) ?_
    refine ev_x (i := .bipush 11) (len := 2) (p' := 122) (s' := [.int 11, .ref 62]) rfl rfl rfl ?_
    refine ev_x (i := .aload_n 0) (len := 1) (p' := 123) (s' := [.ref 62, .int 11, .ref 62]) rfl rfl (ld_a g_0) ?_
    refine ev_gr (p' := 126) (v := 21) rfl rfl rfl ly_62 rfl rfl hr_62_6 ?_
    refine ev_gc (p' := 129) (v := 23) rfl rfl rfl ly_21 rfl rfl ?_
    refine ev_x (i := .iload 5) (len := 2) (p' := 131) (s' := [.int l_5, .ref 23, .int 11, .ref 62]) rfl rfl (ld_i g_5) ?_
    obtain ⟨b_18, H⟩ := F_gd H
    refine ev_ga (p' := 132) (v := (gE (σ) 23 (l_5 : Int32).toNatClampNeg)) rfl rfl ly_23 rfl (gd_in b_18) rfl ?_
    obtain ⟨p_19, G_19, H⟩ := F_bd H
    refine ev_cv (d := d + 4) (As := [.int 11, .int (gE (σ) 23 (l_5 : Int32).toNatClampNeg)]) (a := 62) (p' := 135) rfl rfl rfl ly_62 rfl rfl rfl rfl rfl hnb rfl (F_116_ok (d := d + 3)   G_19) ?_
    refine ev_st (st' := [.int p_19.1]) rfl ?_
    have e_19 := F_116_R G_19
    obtain rfl := Option.some.inj H
    exact ev_iret rfl rfl rfl rfl
/-- GameText$Explorer.worksOutChances(I)I, its loops -/
def L_119 (N : Nat) (t : Nat) : Nat → Int32 → Int32 → Int32 → Int32 → st_S → Option (Int32 × st_S)
  | 0, _, _, _, _, _ => none
  | k + 1, l_1, l_2, l_3, l_4, σ =>
      if 8 ≤ l_4 then
        (F_120 N t l_1 l_2 (σ)).bind fun p_3 =>
        some (p_3.1, p_3.2)
      else
        if l_3 < 0 then
          (F_120 N t l_1 l_2 (σ)).bind fun p_5 =>
          some (p_5.1, p_5.2)
        else
          if aB l_3 (gN σ (t + 4)) then
          (F_70 N t (gE (σ) (t + 4) (l_3 : Int32).toNatClampNeg) (σ)).bind fun p_7 =>
          if p_7.1 = 0 then
            if aB (gE (σ) (t + 4) (l_3 : Int32).toNatClampNeg) (gN p_7.2 (t + 4)) then
            if aB (gE (p_7.2) (t + 4) ((gE (σ) (t + 4) (l_3 : Int32).toNatClampNeg) : Int32).toNatClampNeg) (gN p_7.2 (t + 8)) then
            if aB (gE (p_7.2) (t + 4) ((gE (σ) (t + 4) (l_3 : Int32).toNatClampNeg) : Int32).toNatClampNeg) (gN p_7.2 (t + 9)) then
            if (gE (p_7.2) (t + 8) ((gE (p_7.2) (t + 4) ((gE (σ) (t + 4) (l_3 : Int32).toNatClampNeg) : Int32).toNatClampNeg) : Int32).toNatClampNeg) < 0 then
              J_119_119 N t (gE (σ) (t + 4) (l_3 : Int32).toNatClampNeg) (p_7.2)
            else
              if (gE (p_7.2) (t + 8) ((gE (p_7.2) (t + 4) ((gE (σ) (t + 4) (l_3 : Int32).toNatClampNeg) : Int32).toNatClampNeg) : Int32).toNatClampNeg) ≤ (gE (p_7.2) (t + 9) ((gE (p_7.2) (t + 4) ((gE (σ) (t + 4) (l_3 : Int32).toNatClampNeg) : Int32).toNatClampNeg) : Int32).toNatClampNeg) then
                if aB l_4 (gN p_7.2 63) then
                if aB l_4 (gN p_7.2 64) then
                if aB l_3 (gN p_7.2 (t + 6)) then
                L_119 N t k l_1 (l_2 + 1) (gE (p_7.2) (t + 6) (l_3 : Int32).toNatClampNeg) (l_4 + 1) (st_e (st_e (p_7.2) 63 ((l_4 : Int32).toNatClampNeg) (gE (p_7.2) (t + 8) ((gE (p_7.2) (t + 4) ((gE (σ) (t + 4) (l_3 : Int32).toNatClampNeg) : Int32).toNatClampNeg) : Int32).toNatClampNeg)) 64 ((l_4 : Int32).toNatClampNeg) (gE (p_7.2) (t + 9) ((gE (p_7.2) (t + 4) ((gE (σ) (t + 4) (l_3 : Int32).toNatClampNeg) : Int32).toNatClampNeg) : Int32).toNatClampNeg))
                else none
                else none
                else none
              else
                J_119_119 N t (gE (σ) (t + 4) (l_3 : Int32).toNatClampNeg) (p_7.2)
            else none
            else none
            else none
          else
            (F_116 N p_7.1 (gI p_7.2 42 6) (p_7.2)).bind fun p_17 =>
            some (p_17.1, p_17.2)
          else none
set_option maxRecDepth 100000 in
theorem L_119_R {N : Nat} {t : Nat} : ∀ (k : Nat) (l_1 : Int32) (l_2 : Int32) (l_3 : Int32) (l_4 : Int32) (σ : st_S) (p : Int32 × st_S), L_119 N t k l_1 l_2 l_3 l_4 σ = some p → gR p.2 = gR σ := by
  intro k
  induction k with
  | zero => intro l_1 l_2 l_3 l_4 σ p H; unfold L_119 at H; cases H
  | succ k ih =>
    intro l_1 l_2 l_3 l_4 σ p H
    unfold L_119 at H
    refine F_if H (fun _ H => ?_) (fun _ H => ?_)
    · obtain ⟨p_3, G_3, H⟩ := F_bd H
      obtain rfl := Option.some.inj H
      exact ((F_120_R G_3).trans rfl)
    · refine F_if H (fun _ H => ?_) (fun _ H => ?_)
      · obtain ⟨p_5, G_5, H⟩ := F_bd H
        obtain rfl := Option.some.inj H
        exact ((F_120_R G_5).trans rfl)
      · obtain ⟨_, H⟩ := F_gd H
        obtain ⟨p_7, G_7, H⟩ := F_bd H
        refine F_if H (fun _ H => ?_) (fun _ H => ?_)
        · obtain ⟨_, H⟩ := F_gd H
          obtain ⟨_, H⟩ := F_gd H
          obtain ⟨_, H⟩ := F_gd H
          refine F_if H (fun _ H => ?_) (fun _ H => ?_)
          · exact (((J_119_119_R H)).trans ((F_70_R G_7).trans rfl))
          · refine F_if H (fun _ H => ?_) (fun _ H => ?_)
            · obtain ⟨_, H⟩ := F_gd H
              obtain ⟨_, H⟩ := F_gd H
              obtain ⟨_, H⟩ := F_gd H
              exact (((ih _ _ _ _ _ _ H)).trans ((F_70_R G_7).trans rfl))
            · exact (((J_119_119_R H)).trans ((F_70_R G_7).trans rfl))
        · obtain ⟨p_17, G_17, H⟩ := F_bd H
          obtain rfl := Option.some.inj H
          exact ((F_116_R G_17).trans ((F_70_R G_7).trans rfl))
set_option maxHeartbeats 4000000 in
set_option maxRecDepth 100000 in
theorem L_119_ok {N d : Nat} {t : Nat} (ht : t = 4 ∨ t = 20) : ∀ k : Nat, ∀ (l_1 : Int32) (l_2 : Int32) (l_3 : Int32) (l_4 : Int32) (σ : st_S) (lv : vz_L) (p : Int32 × st_S), vz_g lv 0 = some (.ref 62) → vz_g lv 1 = some (.int l_1) → vz_g lv 2 = some (.int l_2) → vz_g lv 3 = some (.int l_3) → vz_g lv 4 = some (.int l_4) → vz_nbL (vz_gr P0) lv = true → gR σ 42 3 = t → gR σ 42 4 = (t + 1) → gR σ 62 6 = (t + 1) → L_119 N t k l_1 l_2 l_3 l_4 σ = some p → vz_ev P0 (d + 5) 119 15 lv [] (hp σ) (.inl (some (.int p.1)), hp p.2) := by
  rcases ht with rfl | rfl
  · intro k
    induction k with
    | zero => intro l_1 l_2 l_3 l_4 σ lv p g_0 g_1 g_2 g_3 g_4 hnb hr_42_3 hr_42_4 hr_62_6 H; unfold L_119 at H; cases H
    | succ k ih =>
      intro l_1 l_2 l_3 l_4 σ lv p g_0 g_1 g_2 g_3 g_4 hnb hr_42_3 hr_42_4 hr_62_6 H
      unfold L_119 at H
      refine ev_x (i := .iload 4) (len := 2) (p' := 17) (s' := [.int l_4]) rfl rfl (ld_i g_4) ?_
      refine ev_x (i := .bipush 8) (len := 2) (p' := 19) (s' := [.int 8, .int l_4]) rfl rfl rfl ?_
      refine F_if H (fun c_2 H => ?_) (fun c_2 H => ?_)
      · refine ev_b2 (t := 173) (p' := 173) rfl rfl rfl (if_pos c_2) ?_
        refine ev_x (i := .aload_n 0) (len := 1) (p' := 174) (s' := [.ref 62]) rfl rfl (ld_a g_0) ?_
        refine ev_x (i := .iload_n 1) (len := 1) (p' := 175) (s' := [.int l_1, .ref 62]) rfl rfl (ld_i g_1) ?_
        refine ev_x (i := .iload_n 2) (len := 1) (p' := 176) (s' := [.int l_2, .int l_1, .ref 62]) rfl rfl (ld_i g_2) ?_
        obtain ⟨p_3, G_3, H⟩ := F_bd H
        refine ev_cv (d := d + 4) (As := [.int l_1, .int l_2]) (a := 62) (p' := 179) rfl rfl rfl ly_62 rfl rfl rfl rfl rfl hnb rfl (F_120_ok (d := d + 0) (ht := (Or.inl rfl)) (hr_62_6 := hr_62_6) G_3) ?_
        refine ev_st (st' := [.int p_3.1]) rfl ?_
        have e_3 := F_120_R G_3
        obtain rfl := Option.some.inj H
        exact ev_iret rfl rfl rfl rfl
      · refine ev_b2 (t := 173) (p' := 22) rfl rfl rfl (if_neg c_2) ?_
        refine ev_x (i := .iload_n 3) (len := 1) (p' := 23) (s' := [.int l_3]) rfl rfl (ld_i g_3) ?_
        refine F_if H (fun c_4 H => ?_) (fun c_4 H => ?_)
        · refine ev_b0 (t := 173) (p' := 173) rfl rfl rfl (if_pos c_4) ?_
          refine ev_x (i := .aload_n 0) (len := 1) (p' := 174) (s' := [.ref 62]) rfl rfl (ld_a g_0) ?_
          refine ev_x (i := .iload_n 1) (len := 1) (p' := 175) (s' := [.int l_1, .ref 62]) rfl rfl (ld_i g_1) ?_
          refine ev_x (i := .iload_n 2) (len := 1) (p' := 176) (s' := [.int l_2, .int l_1, .ref 62]) rfl rfl (ld_i g_2) ?_
          obtain ⟨p_5, G_5, H⟩ := F_bd H
          refine ev_cv (d := d + 4) (As := [.int l_1, .int l_2]) (a := 62) (p' := 179) rfl rfl rfl ly_62 rfl rfl rfl rfl rfl hnb rfl (F_120_ok (d := d + 0) (ht := (Or.inl rfl)) (hr_62_6 := hr_62_6) G_5) ?_
          refine ev_st (st' := [.int p_5.1]) rfl ?_
          have e_5 := F_120_R G_5
          obtain rfl := Option.some.inj H
          exact ev_iret rfl rfl rfl rfl
        · refine ev_b0 (t := 173) (p' := 26) rfl rfl rfl (if_neg c_4) ?_
          refine ev_x (i := .aload_n 0) (len := 1) (p' := 27) (s' := [.ref 62]) rfl rfl (ld_a g_0) ?_
          refine ev_gr (p' := 30) (v := 5) rfl rfl rfl ly_62 rfl rfl hr_62_6 ?_
          refine ev_gc (p' := 33) (v := 8) rfl rfl rfl ly_5 rfl rfl ?_
          refine ev_x (i := .iload_n 3) (len := 1) (p' := 34) (s' := [.int l_3, .ref 8]) rfl rfl (ld_i g_3) ?_
          obtain ⟨b_6, H⟩ := F_gd H
          refine ev_ga (p' := 35) (v := (gE (σ) 8 (l_3 : Int32).toNatClampNeg)) rfl rfl ly_8 rfl (gd_in b_6) rfl ?_
          refine ev_x (i := .istore 5) (len := 2) (p' := 37) (s' := []) (l' := vz_s1 (lv) 5 (.int (gE (σ) 8 (l_3 : Int32).toNatClampNeg))) rfl rfl rfl ?_
          refine ev_x (i := .aload_n 0) (len := 1) (p' := 38) (s' := [.ref 62]) rfl rfl (ld_a (vg_o (i := 5) (v := .int (gE (σ) 8 (l_3 : Int32).toNatClampNeg)) g_0 (by decide) (Or.inl rfl))) ?_
          refine ev_gc (p' := 41) (v := 42) rfl rfl rfl ly_62 rfl rfl ?_
          refine ev_x (i := .iload 5) (len := 2) (p' := 43) (s' := [.int (gE (σ) 8 (l_3 : Int32).toNatClampNeg), .ref 42]) rfl rfl (ld_i (vg_s (lv) 5 (.int (gE (σ) 8 (l_3 : Int32).toNatClampNeg)))) ?_
          obtain ⟨p_7, G_7, H⟩ := F_bd H
          refine ev_cv (d := d + 4) (As := [.int (gE (σ) 8 (l_3 : Int32).toNatClampNeg)]) (a := 42) (p' := 46) rfl rfl rfl ly_42 rfl rfl rfl rfl rfl (nb_s1 hnb rfl) rfl (F_70_ok (d := d + 1) (ht := (Or.inl rfl)) (hr_42_3 := hr_42_3) (hr_42_4 := hr_42_4) G_7) ?_
          refine ev_st (st' := [.int p_7.1]) rfl ?_
          have e_7 := F_70_R G_7
          refine ev_x (i := .istore 6) (len := 2) (p' := 48) (s' := []) (l' := vz_s1 (vz_s1 (lv) 5 (.int (gE (σ) 8 (l_3 : Int32).toNatClampNeg))) 6 (.int p_7.1)) rfl rfl rfl ?_
          refine ev_x (i := .iload 6) (len := 2) (p' := 50) (s' := [.int p_7.1]) rfl rfl (ld_i (vg_s (vz_s1 (lv) 5 (.int (gE (σ) 8 (l_3 : Int32).toNatClampNeg))) 6 (.int p_7.1))) ?_
          refine F_if H (fun c_8 H => ?_) (fun c_8 H => ?_)
          · refine ev_b0 (t := 67) (p' := 67) rfl rfl rfl (if_pos c_8) ?_
            refine ev_x (i := .aload_n 0) (len := 1) (p' := 68) (s' := [.ref 62]) rfl rfl (ld_a (vg_o (i := 6) (v := .int p_7.1) (vg_o (i := 5) (v := .int (gE (σ) 8 (l_3 : Int32).toNatClampNeg)) g_0 (by decide) (Or.inl rfl)) (by decide) (Or.inl rfl))) ?_
            refine ev_gr (p' := 71) (v := 5) rfl rfl rfl ly_62 rfl rfl ((congrFun (congrFun e_7 62) 6).trans hr_62_6) ?_
            refine ev_gc (p' := 74) (v := 12) rfl rfl rfl ly_5 rfl rfl ?_
            refine ev_x (i := .aload_n 0) (len := 1) (p' := 75) (s' := [.ref 62, .ref 12]) rfl rfl (ld_a (vg_o (i := 6) (v := .int p_7.1) (vg_o (i := 5) (v := .int (gE (σ) 8 (l_3 : Int32).toNatClampNeg)) g_0 (by decide) (Or.inl rfl)) (by decide) (Or.inl rfl))) ?_
            refine ev_gr (p' := 78) (v := 5) rfl rfl rfl ly_62 rfl rfl ((congrFun (congrFun e_7 62) 6).trans hr_62_6) ?_
            refine ev_gc (p' := 81) (v := 8) rfl rfl rfl ly_5 rfl rfl ?_
            refine ev_x (i := .iload 5) (len := 2) (p' := 83) (s' := [.int (gE (σ) 8 (l_3 : Int32).toNatClampNeg), .ref 8, .ref 12]) rfl rfl (ld_i (vg_o (i := 6) (v := .int p_7.1) (vg_s (lv) 5 (.int (gE (σ) 8 (l_3 : Int32).toNatClampNeg))) (by decide) (Or.inl rfl))) ?_
            obtain ⟨b_9, H⟩ := F_gd H
            refine ev_ga (p' := 84) (v := (gE (p_7.2) 8 ((gE (σ) 8 (l_3 : Int32).toNatClampNeg) : Int32).toNatClampNeg)) rfl rfl ly_8 rfl (gd_in b_9) rfl ?_
            obtain ⟨b_10, H⟩ := F_gd H
            refine ev_ga (p' := 85) (v := (gE (p_7.2) 12 ((gE (p_7.2) 8 ((gE (σ) 8 (l_3 : Int32).toNatClampNeg) : Int32).toNatClampNeg) : Int32).toNatClampNeg)) rfl rfl ly_12 rfl (gd_in b_10) rfl ?_
            refine ev_x (i := .istore 7) (len := 2) (p' := 87) (s' := []) (l' := vz_s1 (vz_s1 (vz_s1 (lv) 5 (.int (gE (σ) 8 (l_3 : Int32).toNatClampNeg))) 6 (.int p_7.1)) 7 (.int (gE (p_7.2) 12 ((gE (p_7.2) 8 ((gE (σ) 8 (l_3 : Int32).toNatClampNeg) : Int32).toNatClampNeg) : Int32).toNatClampNeg))) rfl rfl rfl ?_
            refine ev_x (i := .aload_n 0) (len := 1) (p' := 88) (s' := [.ref 62]) rfl rfl (ld_a (vg_o (i := 7) (v := .int (gE (p_7.2) 12 ((gE (p_7.2) 8 ((gE (σ) 8 (l_3 : Int32).toNatClampNeg) : Int32).toNatClampNeg) : Int32).toNatClampNeg)) (vg_o (i := 6) (v := .int p_7.1) (vg_o (i := 5) (v := .int (gE (σ) 8 (l_3 : Int32).toNatClampNeg)) g_0 (by decide) (Or.inl rfl)) (by decide) (Or.inl rfl)) (by decide) (Or.inl rfl))) ?_
            refine ev_gr (p' := 91) (v := 5) rfl rfl rfl ly_62 rfl rfl ((congrFun (congrFun e_7 62) 6).trans hr_62_6) ?_
            refine ev_gc (p' := 94) (v := 13) rfl rfl rfl ly_5 rfl rfl ?_
            refine ev_x (i := .aload_n 0) (len := 1) (p' := 95) (s' := [.ref 62, .ref 13]) rfl rfl (ld_a (vg_o (i := 7) (v := .int (gE (p_7.2) 12 ((gE (p_7.2) 8 ((gE (σ) 8 (l_3 : Int32).toNatClampNeg) : Int32).toNatClampNeg) : Int32).toNatClampNeg)) (vg_o (i := 6) (v := .int p_7.1) (vg_o (i := 5) (v := .int (gE (σ) 8 (l_3 : Int32).toNatClampNeg)) g_0 (by decide) (Or.inl rfl)) (by decide) (Or.inl rfl)) (by decide) (Or.inl rfl))) ?_
            refine ev_gr (p' := 98) (v := 5) rfl rfl rfl ly_62 rfl rfl ((congrFun (congrFun e_7 62) 6).trans hr_62_6) ?_
            refine ev_gc (p' := 101) (v := 8) rfl rfl rfl ly_5 rfl rfl ?_
            refine ev_x (i := .iload 5) (len := 2) (p' := 103) (s' := [.int (gE (σ) 8 (l_3 : Int32).toNatClampNeg), .ref 8, .ref 13]) rfl rfl (ld_i (vg_o (i := 7) (v := .int (gE (p_7.2) 12 ((gE (p_7.2) 8 ((gE (σ) 8 (l_3 : Int32).toNatClampNeg) : Int32).toNatClampNeg) : Int32).toNatClampNeg)) (vg_o (i := 6) (v := .int p_7.1) (vg_s (lv) 5 (.int (gE (σ) 8 (l_3 : Int32).toNatClampNeg))) (by decide) (Or.inl rfl)) (by decide) (Or.inl rfl))) ?_
            refine ev_ga (p' := 104) (v := (gE (p_7.2) 8 ((gE (σ) 8 (l_3 : Int32).toNatClampNeg) : Int32).toNatClampNeg)) rfl rfl ly_8 rfl (gd_in b_9) rfl ?_
            obtain ⟨b_11, H⟩ := F_gd H
            refine ev_ga (p' := 105) (v := (gE (p_7.2) 13 ((gE (p_7.2) 8 ((gE (σ) 8 (l_3 : Int32).toNatClampNeg) : Int32).toNatClampNeg) : Int32).toNatClampNeg)) rfl rfl ly_13 rfl (gd_in b_11) rfl ?_
            refine ev_x (i := .istore 8) (len := 2) (p' := 107) (s' := []) (l' := vz_s1 (vz_s1 (vz_s1 (vz_s1 (lv) 5 (.int (gE (σ) 8 (l_3 : Int32).toNatClampNeg))) 6 (.int p_7.1)) 7 (.int (gE (p_7.2) 12 ((gE (p_7.2) 8 ((gE (σ) 8 (l_3 : Int32).toNatClampNeg) : Int32).toNatClampNeg) : Int32).toNatClampNeg))) 8 (.int (gE (p_7.2) 13 ((gE (p_7.2) 8 ((gE (σ) 8 (l_3 : Int32).toNatClampNeg) : Int32).toNatClampNeg) : Int32).toNatClampNeg))) rfl rfl rfl ?_
            refine ev_x (i := .iload 7) (len := 2) (p' := 109) (s' := [.int (gE (p_7.2) 12 ((gE (p_7.2) 8 ((gE (σ) 8 (l_3 : Int32).toNatClampNeg) : Int32).toNatClampNeg) : Int32).toNatClampNeg)]) rfl rfl (ld_i (vg_o (i := 8) (v := .int (gE (p_7.2) 13 ((gE (p_7.2) 8 ((gE (σ) 8 (l_3 : Int32).toNatClampNeg) : Int32).toNatClampNeg) : Int32).toNatClampNeg)) (vg_s (vz_s1 (vz_s1 (lv) 5 (.int (gE (σ) 8 (l_3 : Int32).toNatClampNeg))) 6 (.int p_7.1)) 7 (.int (gE (p_7.2) 12 ((gE (p_7.2) 8 ((gE (σ) 8 (l_3 : Int32).toNatClampNeg) : Int32).toNatClampNeg) : Int32).toNatClampNeg))) (by decide) (Or.inl rfl))) ?_
            refine F_if H (fun c_12 H => ?_) (fun c_12 H => ?_)
            · refine ev_b0 (t := 119) (p' := 119) rfl rfl rfl (if_pos c_12) ?_
              exact J_119_119_ok (d := d) (Or.inl rfl) (vg_o (i := 8) (v := .int (gE (p_7.2) 13 ((gE (p_7.2) 8 ((gE (σ) 8 (l_3 : Int32).toNatClampNeg) : Int32).toNatClampNeg) : Int32).toNatClampNeg)) (vg_o (i := 7) (v := .int (gE (p_7.2) 12 ((gE (p_7.2) 8 ((gE (σ) 8 (l_3 : Int32).toNatClampNeg) : Int32).toNatClampNeg) : Int32).toNatClampNeg)) (vg_o (i := 6) (v := .int p_7.1) (vg_o (i := 5) (v := .int (gE (σ) 8 (l_3 : Int32).toNatClampNeg)) g_0 (by decide) (Or.inl rfl)) (by decide) (Or.inl rfl)) (by decide) (Or.inl rfl)) (by decide) (Or.inl rfl)) (vg_o (i := 8) (v := .int (gE (p_7.2) 13 ((gE (p_7.2) 8 ((gE (σ) 8 (l_3 : Int32).toNatClampNeg) : Int32).toNatClampNeg) : Int32).toNatClampNeg)) (vg_o (i := 7) (v := .int (gE (p_7.2) 12 ((gE (p_7.2) 8 ((gE (σ) 8 (l_3 : Int32).toNatClampNeg) : Int32).toNatClampNeg) : Int32).toNatClampNeg)) (vg_o (i := 6) (v := .int p_7.1) (vg_s (lv) 5 (.int (gE (σ) 8 (l_3 : Int32).toNatClampNeg))) (by decide) (Or.inl rfl)) (by decide) (Or.inl rfl)) (by decide) (Or.inl rfl)) (nb_s1 (nb_s1 (nb_s1 (nb_s1 hnb rfl) rfl) rfl) rfl) ((congrFun (congrFun e_7 42) 3).trans hr_42_3) ((congrFun (congrFun e_7 42) 4).trans hr_42_4) ((congrFun (congrFun e_7 62) 6).trans hr_62_6) H
            · refine ev_b0 (t := 119) (p' := 112) rfl rfl rfl (if_neg c_12) ?_
              refine ev_x (i := .iload 7) (len := 2) (p' := 114) (s' := [.int (gE (p_7.2) 12 ((gE (p_7.2) 8 ((gE (σ) 8 (l_3 : Int32).toNatClampNeg) : Int32).toNatClampNeg) : Int32).toNatClampNeg)]) rfl rfl (ld_i (vg_o (i := 8) (v := .int (gE (p_7.2) 13 ((gE (p_7.2) 8 ((gE (σ) 8 (l_3 : Int32).toNatClampNeg) : Int32).toNatClampNeg) : Int32).toNatClampNeg)) (vg_s (vz_s1 (vz_s1 (lv) 5 (.int (gE (σ) 8 (l_3 : Int32).toNatClampNeg))) 6 (.int p_7.1)) 7 (.int (gE (p_7.2) 12 ((gE (p_7.2) 8 ((gE (σ) 8 (l_3 : Int32).toNatClampNeg) : Int32).toNatClampNeg) : Int32).toNatClampNeg))) (by decide) (Or.inl rfl))) ?_
              refine ev_x (i := .iload 8) (len := 2) (p' := 116) (s' := [.int (gE (p_7.2) 13 ((gE (p_7.2) 8 ((gE (σ) 8 (l_3 : Int32).toNatClampNeg) : Int32).toNatClampNeg) : Int32).toNatClampNeg), .int (gE (p_7.2) 12 ((gE (p_7.2) 8 ((gE (σ) 8 (l_3 : Int32).toNatClampNeg) : Int32).toNatClampNeg) : Int32).toNatClampNeg)]) rfl rfl (ld_i (vg_s (vz_s1 (vz_s1 (vz_s1 (lv) 5 (.int (gE (σ) 8 (l_3 : Int32).toNatClampNeg))) 6 (.int p_7.1)) 7 (.int (gE (p_7.2) 12 ((gE (p_7.2) 8 ((gE (σ) 8 (l_3 : Int32).toNatClampNeg) : Int32).toNatClampNeg) : Int32).toNatClampNeg))) 8 (.int (gE (p_7.2) 13 ((gE (p_7.2) 8 ((gE (σ) 8 (l_3 : Int32).toNatClampNeg) : Int32).toNatClampNeg) : Int32).toNatClampNeg)))) ?_
              refine F_if H (fun c_13 H => ?_) (fun c_13 H => ?_)
              · refine ev_b2 (t := 136) (p' := 136) rfl rfl rfl (if_pos c_13) ?_
                refine ev_x (i := .aload_n 0) (len := 1) (p' := 137) (s' := [.ref 62]) rfl rfl (ld_a (vg_o (i := 8) (v := .int (gE (p_7.2) 13 ((gE (p_7.2) 8 ((gE (σ) 8 (l_3 : Int32).toNatClampNeg) : Int32).toNatClampNeg) : Int32).toNatClampNeg)) (vg_o (i := 7) (v := .int (gE (p_7.2) 12 ((gE (p_7.2) 8 ((gE (σ) 8 (l_3 : Int32).toNatClampNeg) : Int32).toNatClampNeg) : Int32).toNatClampNeg)) (vg_o (i := 6) (v := .int p_7.1) (vg_o (i := 5) (v := .int (gE (σ) 8 (l_3 : Int32).toNatClampNeg)) g_0 (by decide) (Or.inl rfl)) (by decide) (Or.inl rfl)) (by decide) (Or.inl rfl)) (by decide) (Or.inl rfl))) ?_
                refine ev_gc (p' := 140) (v := 63) rfl rfl rfl ly_62 rfl rfl ?_
                refine ev_x (i := .iload 4) (len := 2) (p' := 142) (s' := [.int l_4, .ref 63]) rfl rfl (ld_i (vg_o (i := 8) (v := .int (gE (p_7.2) 13 ((gE (p_7.2) 8 ((gE (σ) 8 (l_3 : Int32).toNatClampNeg) : Int32).toNatClampNeg) : Int32).toNatClampNeg)) (vg_o (i := 7) (v := .int (gE (p_7.2) 12 ((gE (p_7.2) 8 ((gE (σ) 8 (l_3 : Int32).toNatClampNeg) : Int32).toNatClampNeg) : Int32).toNatClampNeg)) (vg_o (i := 6) (v := .int p_7.1) (vg_o (i := 5) (v := .int (gE (σ) 8 (l_3 : Int32).toNatClampNeg)) g_4 (by decide) (Or.inl rfl)) (by decide) (Or.inl rfl)) (by decide) (Or.inl rfl)) (by decide) (Or.inl rfl))) ?_
                refine ev_x (i := .iload 7) (len := 2) (p' := 144) (s' := [.int (gE (p_7.2) 12 ((gE (p_7.2) 8 ((gE (σ) 8 (l_3 : Int32).toNatClampNeg) : Int32).toNatClampNeg) : Int32).toNatClampNeg), .int l_4, .ref 63]) rfl rfl (ld_i (vg_o (i := 8) (v := .int (gE (p_7.2) 13 ((gE (p_7.2) 8 ((gE (σ) 8 (l_3 : Int32).toNatClampNeg) : Int32).toNatClampNeg) : Int32).toNatClampNeg)) (vg_s (vz_s1 (vz_s1 (lv) 5 (.int (gE (σ) 8 (l_3 : Int32).toNatClampNeg))) 6 (.int p_7.1)) 7 (.int (gE (p_7.2) 12 ((gE (p_7.2) 8 ((gE (σ) 8 (l_3 : Int32).toNatClampNeg) : Int32).toNatClampNeg) : Int32).toNatClampNeg))) (by decide) (Or.inl rfl))) ?_
                obtain ⟨b_14, H⟩ := F_gd H
                refine ev_pa (j := (l_4 : Int32).toNatClampNeg) (p' := 145) rfl rfl ly_63 rfl (gd_in b_14) rfl ?_
                refine ev_x (i := .aload_n 0) (len := 1) (p' := 146) (s' := [.ref 62]) rfl rfl (ld_a (vg_o (i := 8) (v := .int (gE (p_7.2) 13 ((gE (p_7.2) 8 ((gE (σ) 8 (l_3 : Int32).toNatClampNeg) : Int32).toNatClampNeg) : Int32).toNatClampNeg)) (vg_o (i := 7) (v := .int (gE (p_7.2) 12 ((gE (p_7.2) 8 ((gE (σ) 8 (l_3 : Int32).toNatClampNeg) : Int32).toNatClampNeg) : Int32).toNatClampNeg)) (vg_o (i := 6) (v := .int p_7.1) (vg_o (i := 5) (v := .int (gE (σ) 8 (l_3 : Int32).toNatClampNeg)) g_0 (by decide) (Or.inl rfl)) (by decide) (Or.inl rfl)) (by decide) (Or.inl rfl)) (by decide) (Or.inl rfl))) ?_
                refine ev_gc (p' := 149) (v := 64) rfl rfl rfl ly_62 rfl rfl ?_
                refine ev_x (i := .iload 4) (len := 2) (p' := 151) (s' := [.int l_4, .ref 64]) rfl rfl (ld_i (vg_o (i := 8) (v := .int (gE (p_7.2) 13 ((gE (p_7.2) 8 ((gE (σ) 8 (l_3 : Int32).toNatClampNeg) : Int32).toNatClampNeg) : Int32).toNatClampNeg)) (vg_o (i := 7) (v := .int (gE (p_7.2) 12 ((gE (p_7.2) 8 ((gE (σ) 8 (l_3 : Int32).toNatClampNeg) : Int32).toNatClampNeg) : Int32).toNatClampNeg)) (vg_o (i := 6) (v := .int p_7.1) (vg_o (i := 5) (v := .int (gE (σ) 8 (l_3 : Int32).toNatClampNeg)) g_4 (by decide) (Or.inl rfl)) (by decide) (Or.inl rfl)) (by decide) (Or.inl rfl)) (by decide) (Or.inl rfl))) ?_
                refine ev_x (i := .iload 8) (len := 2) (p' := 153) (s' := [.int (gE (p_7.2) 13 ((gE (p_7.2) 8 ((gE (σ) 8 (l_3 : Int32).toNatClampNeg) : Int32).toNatClampNeg) : Int32).toNatClampNeg), .int l_4, .ref 64]) rfl rfl (ld_i (vg_s (vz_s1 (vz_s1 (vz_s1 (lv) 5 (.int (gE (σ) 8 (l_3 : Int32).toNatClampNeg))) 6 (.int p_7.1)) 7 (.int (gE (p_7.2) 12 ((gE (p_7.2) 8 ((gE (σ) 8 (l_3 : Int32).toNatClampNeg) : Int32).toNatClampNeg) : Int32).toNatClampNeg))) 8 (.int (gE (p_7.2) 13 ((gE (p_7.2) 8 ((gE (σ) 8 (l_3 : Int32).toNatClampNeg) : Int32).toNatClampNeg) : Int32).toNatClampNeg)))) ?_
                obtain ⟨b_15, H⟩ := F_gd H
                refine ev_pa (j := (l_4 : Int32).toNatClampNeg) (p' := 154) rfl rfl ly_64 rfl (gd_in b_15) rfl ?_
                refine ev_x (i := .iinc 2 1) (len := 3) (p' := 157) (s' := []) (l' := vz_s1 (vz_s1 (vz_s1 (vz_s1 (vz_s1 (lv) 5 (.int (gE (σ) 8 (l_3 : Int32).toNatClampNeg))) 6 (.int p_7.1)) 7 (.int (gE (p_7.2) 12 ((gE (p_7.2) 8 ((gE (σ) 8 (l_3 : Int32).toNatClampNeg) : Int32).toNatClampNeg) : Int32).toNatClampNeg))) 8 (.int (gE (p_7.2) 13 ((gE (p_7.2) 8 ((gE (σ) 8 (l_3 : Int32).toNatClampNeg) : Int32).toNatClampNeg) : Int32).toNatClampNeg))) 2 (.int (l_2 + 1))) rfl rfl (ld_inc (vg_o (i := 8) (v := .int (gE (p_7.2) 13 ((gE (p_7.2) 8 ((gE (σ) 8 (l_3 : Int32).toNatClampNeg) : Int32).toNatClampNeg) : Int32).toNatClampNeg)) (vg_o (i := 7) (v := .int (gE (p_7.2) 12 ((gE (p_7.2) 8 ((gE (σ) 8 (l_3 : Int32).toNatClampNeg) : Int32).toNatClampNeg) : Int32).toNatClampNeg)) (vg_o (i := 6) (v := .int p_7.1) (vg_o (i := 5) (v := .int (gE (σ) 8 (l_3 : Int32).toNatClampNeg)) g_2 (by decide) (Or.inl rfl)) (by decide) (Or.inl rfl)) (by decide) (Or.inl rfl)) (by decide) (Or.inl rfl)) rfl) ?_
                refine ev_x (i := .aload_n 0) (len := 1) (p' := 158) (s' := [.ref 62]) rfl rfl (ld_a (vg_o (i := 2) (v := .int (l_2 + 1)) (vg_o (i := 8) (v := .int (gE (p_7.2) 13 ((gE (p_7.2) 8 ((gE (σ) 8 (l_3 : Int32).toNatClampNeg) : Int32).toNatClampNeg) : Int32).toNatClampNeg)) (vg_o (i := 7) (v := .int (gE (p_7.2) 12 ((gE (p_7.2) 8 ((gE (σ) 8 (l_3 : Int32).toNatClampNeg) : Int32).toNatClampNeg) : Int32).toNatClampNeg)) (vg_o (i := 6) (v := .int p_7.1) (vg_o (i := 5) (v := .int (gE (σ) 8 (l_3 : Int32).toNatClampNeg)) g_0 (by decide) (Or.inl rfl)) (by decide) (Or.inl rfl)) (by decide) (Or.inl rfl)) (by decide) (Or.inl rfl)) (by decide) (Or.inl rfl))) ?_
                refine ev_gr (p' := 161) (v := 5) rfl rfl rfl ly_62 rfl rfl ((congrFun (congrFun e_7 62) 6).trans hr_62_6) ?_
                refine ev_gc (p' := 164) (v := 10) rfl rfl rfl ly_5 rfl rfl ?_
                refine ev_x (i := .iload_n 3) (len := 1) (p' := 165) (s' := [.int l_3, .ref 10]) rfl rfl (ld_i (vg_o (i := 2) (v := .int (l_2 + 1)) (vg_o (i := 8) (v := .int (gE (p_7.2) 13 ((gE (p_7.2) 8 ((gE (σ) 8 (l_3 : Int32).toNatClampNeg) : Int32).toNatClampNeg) : Int32).toNatClampNeg)) (vg_o (i := 7) (v := .int (gE (p_7.2) 12 ((gE (p_7.2) 8 ((gE (σ) 8 (l_3 : Int32).toNatClampNeg) : Int32).toNatClampNeg) : Int32).toNatClampNeg)) (vg_o (i := 6) (v := .int p_7.1) (vg_o (i := 5) (v := .int (gE (σ) 8 (l_3 : Int32).toNatClampNeg)) g_3 (by decide) (Or.inl rfl)) (by decide) (Or.inl rfl)) (by decide) (Or.inl rfl)) (by decide) (Or.inl rfl)) (by decide) (Or.inl rfl))) ?_
                obtain ⟨b_16, H⟩ := F_gd H
                refine ev_ga (p' := 166) (v := (gE (p_7.2) 10 (l_3 : Int32).toNatClampNeg)) rfl rfl ly_10 rfl (gd_in b_16) rfl ?_
                refine ev_x (i := .istore_n 3) (len := 1) (p' := 167) (s' := []) (l' := vz_s1 (vz_s1 (vz_s1 (vz_s1 (vz_s1 (vz_s1 (lv) 5 (.int (gE (σ) 8 (l_3 : Int32).toNatClampNeg))) 6 (.int p_7.1)) 7 (.int (gE (p_7.2) 12 ((gE (p_7.2) 8 ((gE (σ) 8 (l_3 : Int32).toNatClampNeg) : Int32).toNatClampNeg) : Int32).toNatClampNeg))) 8 (.int (gE (p_7.2) 13 ((gE (p_7.2) 8 ((gE (σ) 8 (l_3 : Int32).toNatClampNeg) : Int32).toNatClampNeg) : Int32).toNatClampNeg))) 2 (.int (l_2 + 1))) 3 (.int (gE (p_7.2) 10 (l_3 : Int32).toNatClampNeg))) rfl rfl rfl ?_
                refine ev_x (i := .iinc 4 1) (len := 3) (p' := 170) (s' := []) (l' := vz_s1 (vz_s1 (vz_s1 (vz_s1 (vz_s1 (vz_s1 (vz_s1 (lv) 5 (.int (gE (σ) 8 (l_3 : Int32).toNatClampNeg))) 6 (.int p_7.1)) 7 (.int (gE (p_7.2) 12 ((gE (p_7.2) 8 ((gE (σ) 8 (l_3 : Int32).toNatClampNeg) : Int32).toNatClampNeg) : Int32).toNatClampNeg))) 8 (.int (gE (p_7.2) 13 ((gE (p_7.2) 8 ((gE (σ) 8 (l_3 : Int32).toNatClampNeg) : Int32).toNatClampNeg) : Int32).toNatClampNeg))) 2 (.int (l_2 + 1))) 3 (.int (gE (p_7.2) 10 (l_3 : Int32).toNatClampNeg))) 4 (.int (l_4 + 1))) rfl rfl (ld_inc (vg_o (i := 3) (v := .int (gE (p_7.2) 10 (l_3 : Int32).toNatClampNeg)) (vg_o (i := 2) (v := .int (l_2 + 1)) (vg_o (i := 8) (v := .int (gE (p_7.2) 13 ((gE (p_7.2) 8 ((gE (σ) 8 (l_3 : Int32).toNatClampNeg) : Int32).toNatClampNeg) : Int32).toNatClampNeg)) (vg_o (i := 7) (v := .int (gE (p_7.2) 12 ((gE (p_7.2) 8 ((gE (σ) 8 (l_3 : Int32).toNatClampNeg) : Int32).toNatClampNeg) : Int32).toNatClampNeg)) (vg_o (i := 6) (v := .int p_7.1) (vg_o (i := 5) (v := .int (gE (σ) 8 (l_3 : Int32).toNatClampNeg)) g_4 (by decide) (Or.inl rfl)) (by decide) (Or.inl rfl)) (by decide) (Or.inl rfl)) (by decide) (Or.inl rfl)) (by decide) (Or.inl rfl)) (by decide) (Or.inl rfl)) rfl) ?_
                refine ev_x (i := .goto (-155)) (len := 3) (p' := 15) (s' := []) rfl rfl rfl ?_
                exact ih _ _ _ _ _ _ _ (vg_o (i := 4) (v := .int (l_4 + 1)) (vg_o (i := 3) (v := .int (gE (p_7.2) 10 (l_3 : Int32).toNatClampNeg)) (vg_o (i := 2) (v := .int (l_2 + 1)) (vg_o (i := 8) (v := .int (gE (p_7.2) 13 ((gE (p_7.2) 8 ((gE (σ) 8 (l_3 : Int32).toNatClampNeg) : Int32).toNatClampNeg) : Int32).toNatClampNeg)) (vg_o (i := 7) (v := .int (gE (p_7.2) 12 ((gE (p_7.2) 8 ((gE (σ) 8 (l_3 : Int32).toNatClampNeg) : Int32).toNatClampNeg) : Int32).toNatClampNeg)) (vg_o (i := 6) (v := .int p_7.1) (vg_o (i := 5) (v := .int (gE (σ) 8 (l_3 : Int32).toNatClampNeg)) g_0 (by decide) (Or.inl rfl)) (by decide) (Or.inl rfl)) (by decide) (Or.inl rfl)) (by decide) (Or.inl rfl)) (by decide) (Or.inl rfl)) (by decide) (Or.inl rfl)) (by decide) (Or.inl rfl)) (vg_o (i := 4) (v := .int (l_4 + 1)) (vg_o (i := 3) (v := .int (gE (p_7.2) 10 (l_3 : Int32).toNatClampNeg)) (vg_o (i := 2) (v := .int (l_2 + 1)) (vg_o (i := 8) (v := .int (gE (p_7.2) 13 ((gE (p_7.2) 8 ((gE (σ) 8 (l_3 : Int32).toNatClampNeg) : Int32).toNatClampNeg) : Int32).toNatClampNeg)) (vg_o (i := 7) (v := .int (gE (p_7.2) 12 ((gE (p_7.2) 8 ((gE (σ) 8 (l_3 : Int32).toNatClampNeg) : Int32).toNatClampNeg) : Int32).toNatClampNeg)) (vg_o (i := 6) (v := .int p_7.1) (vg_o (i := 5) (v := .int (gE (σ) 8 (l_3 : Int32).toNatClampNeg)) g_1 (by decide) (Or.inl rfl)) (by decide) (Or.inl rfl)) (by decide) (Or.inl rfl)) (by decide) (Or.inl rfl)) (by decide) (Or.inl rfl)) (by decide) (Or.inl rfl)) (by decide) (Or.inl rfl)) (vg_o (i := 4) (v := .int (l_4 + 1)) (vg_o (i := 3) (v := .int (gE (p_7.2) 10 (l_3 : Int32).toNatClampNeg)) (vg_s (vz_s1 (vz_s1 (vz_s1 (vz_s1 (lv) 5 (.int (gE (σ) 8 (l_3 : Int32).toNatClampNeg))) 6 (.int p_7.1)) 7 (.int (gE (p_7.2) 12 ((gE (p_7.2) 8 ((gE (σ) 8 (l_3 : Int32).toNatClampNeg) : Int32).toNatClampNeg) : Int32).toNatClampNeg))) 8 (.int (gE (p_7.2) 13 ((gE (p_7.2) 8 ((gE (σ) 8 (l_3 : Int32).toNatClampNeg) : Int32).toNatClampNeg) : Int32).toNatClampNeg))) 2 (.int (l_2 + 1))) (by decide) (Or.inl rfl)) (by decide) (Or.inl rfl)) (vg_o (i := 4) (v := .int (l_4 + 1)) (vg_s (vz_s1 (vz_s1 (vz_s1 (vz_s1 (vz_s1 (lv) 5 (.int (gE (σ) 8 (l_3 : Int32).toNatClampNeg))) 6 (.int p_7.1)) 7 (.int (gE (p_7.2) 12 ((gE (p_7.2) 8 ((gE (σ) 8 (l_3 : Int32).toNatClampNeg) : Int32).toNatClampNeg) : Int32).toNatClampNeg))) 8 (.int (gE (p_7.2) 13 ((gE (p_7.2) 8 ((gE (σ) 8 (l_3 : Int32).toNatClampNeg) : Int32).toNatClampNeg) : Int32).toNatClampNeg))) 2 (.int (l_2 + 1))) 3 (.int (gE (p_7.2) 10 (l_3 : Int32).toNatClampNeg))) (by decide) (Or.inl rfl)) (vg_s (vz_s1 (vz_s1 (vz_s1 (vz_s1 (vz_s1 (vz_s1 (lv) 5 (.int (gE (σ) 8 (l_3 : Int32).toNatClampNeg))) 6 (.int p_7.1)) 7 (.int (gE (p_7.2) 12 ((gE (p_7.2) 8 ((gE (σ) 8 (l_3 : Int32).toNatClampNeg) : Int32).toNatClampNeg) : Int32).toNatClampNeg))) 8 (.int (gE (p_7.2) 13 ((gE (p_7.2) 8 ((gE (σ) 8 (l_3 : Int32).toNatClampNeg) : Int32).toNatClampNeg) : Int32).toNatClampNeg))) 2 (.int (l_2 + 1))) 3 (.int (gE (p_7.2) 10 (l_3 : Int32).toNatClampNeg))) 4 (.int (l_4 + 1))) (nb_s1 (nb_s1 (nb_s1 (nb_s1 (nb_s1 (nb_s1 (nb_s1 hnb rfl) rfl) rfl) rfl) rfl) rfl) rfl) ((congrFun (congrFun e_7 42) 3).trans hr_42_3) ((congrFun (congrFun e_7 42) 4).trans hr_42_4) ((congrFun (congrFun e_7 62) 6).trans hr_62_6) H
              · refine ev_b2 (t := 136) (p' := 119) rfl rfl rfl (if_neg c_13) ?_
                exact J_119_119_ok (d := d) (Or.inl rfl) (vg_o (i := 8) (v := .int (gE (p_7.2) 13 ((gE (p_7.2) 8 ((gE (σ) 8 (l_3 : Int32).toNatClampNeg) : Int32).toNatClampNeg) : Int32).toNatClampNeg)) (vg_o (i := 7) (v := .int (gE (p_7.2) 12 ((gE (p_7.2) 8 ((gE (σ) 8 (l_3 : Int32).toNatClampNeg) : Int32).toNatClampNeg) : Int32).toNatClampNeg)) (vg_o (i := 6) (v := .int p_7.1) (vg_o (i := 5) (v := .int (gE (σ) 8 (l_3 : Int32).toNatClampNeg)) g_0 (by decide) (Or.inl rfl)) (by decide) (Or.inl rfl)) (by decide) (Or.inl rfl)) (by decide) (Or.inl rfl)) (vg_o (i := 8) (v := .int (gE (p_7.2) 13 ((gE (p_7.2) 8 ((gE (σ) 8 (l_3 : Int32).toNatClampNeg) : Int32).toNatClampNeg) : Int32).toNatClampNeg)) (vg_o (i := 7) (v := .int (gE (p_7.2) 12 ((gE (p_7.2) 8 ((gE (σ) 8 (l_3 : Int32).toNatClampNeg) : Int32).toNatClampNeg) : Int32).toNatClampNeg)) (vg_o (i := 6) (v := .int p_7.1) (vg_s (lv) 5 (.int (gE (σ) 8 (l_3 : Int32).toNatClampNeg))) (by decide) (Or.inl rfl)) (by decide) (Or.inl rfl)) (by decide) (Or.inl rfl)) (nb_s1 (nb_s1 (nb_s1 (nb_s1 hnb rfl) rfl) rfl) rfl) ((congrFun (congrFun e_7 42) 3).trans hr_42_3) ((congrFun (congrFun e_7 42) 4).trans hr_42_4) ((congrFun (congrFun e_7 62) 6).trans hr_62_6) H
          · refine ev_b0 (t := 67) (p' := 53) rfl rfl rfl (if_neg c_8) ?_
            refine ev_x (i := .aload_n 0) (len := 1) (p' := 54) (s' := [.ref 62]) rfl rfl (ld_a (vg_o (i := 6) (v := .int p_7.1) (vg_o (i := 5) (v := .int (gE (σ) 8 (l_3 : Int32).toNatClampNeg)) g_0 (by decide) (Or.inl rfl)) (by decide) (Or.inl rfl))) ?_
            refine ev_x (i := .iload 6) (len := 2) (p' := 56) (s' := [.int p_7.1, .ref 62]) rfl rfl (ld_i (vg_s (vz_s1 (lv) 5 (.int (gE (σ) 8 (l_3 : Int32).toNatClampNeg))) 6 (.int p_7.1))) ?_
            refine ev_x (i := .aload_n 0) (len := 1) (p' := 57) (s' := [.ref 62, .int p_7.1, .ref 62]) rfl rfl (ld_a (vg_o (i := 6) (v := .int p_7.1) (vg_o (i := 5) (v := .int (gE (σ) 8 (l_3 : Int32).toNatClampNeg)) g_0 (by decide) (Or.inl rfl)) (by decide) (Or.inl rfl))) ?_
            refine ev_gc (p' := 60) (v := 42) rfl rfl rfl ly_62 rfl rfl ?_
            refine ev_gi (p' := 63) (v := (gI p_7.2 42 6)) rfl rfl rfl ly_42 rfl rfl rfl ?_
            obtain ⟨p_17, G_17, H⟩ := F_bd H
            refine ev_cv (d := d + 4) (As := [.int p_7.1, .int (gI p_7.2 42 6)]) (a := 62) (p' := 66) rfl rfl rfl ly_62 rfl rfl rfl rfl rfl (nb_s1 (nb_s1 hnb rfl) rfl) rfl (F_116_ok (d := d + 3)   G_17) ?_
            refine ev_st (st' := [.int p_17.1]) rfl ?_
            have e_17 := F_116_R G_17
            obtain rfl := Option.some.inj H
            exact ev_iret rfl rfl rfl rfl
  · intro k
    induction k with
    | zero => intro l_1 l_2 l_3 l_4 σ lv p g_0 g_1 g_2 g_3 g_4 hnb hr_42_3 hr_42_4 hr_62_6 H; unfold L_119 at H; cases H
    | succ k ih =>
      intro l_1 l_2 l_3 l_4 σ lv p g_0 g_1 g_2 g_3 g_4 hnb hr_42_3 hr_42_4 hr_62_6 H
      unfold L_119 at H
      refine ev_x (i := .iload 4) (len := 2) (p' := 17) (s' := [.int l_4]) rfl rfl (ld_i g_4) ?_
      refine ev_x (i := .bipush 8) (len := 2) (p' := 19) (s' := [.int 8, .int l_4]) rfl rfl rfl ?_
      refine F_if H (fun c_2 H => ?_) (fun c_2 H => ?_)
      · refine ev_b2 (t := 173) (p' := 173) rfl rfl rfl (if_pos c_2) ?_
        refine ev_x (i := .aload_n 0) (len := 1) (p' := 174) (s' := [.ref 62]) rfl rfl (ld_a g_0) ?_
        refine ev_x (i := .iload_n 1) (len := 1) (p' := 175) (s' := [.int l_1, .ref 62]) rfl rfl (ld_i g_1) ?_
        refine ev_x (i := .iload_n 2) (len := 1) (p' := 176) (s' := [.int l_2, .int l_1, .ref 62]) rfl rfl (ld_i g_2) ?_
        obtain ⟨p_3, G_3, H⟩ := F_bd H
        refine ev_cv (d := d + 4) (As := [.int l_1, .int l_2]) (a := 62) (p' := 179) rfl rfl rfl ly_62 rfl rfl rfl rfl rfl hnb rfl (F_120_ok (d := d + 0) (ht := (Or.inr rfl)) (hr_62_6 := hr_62_6) G_3) ?_
        refine ev_st (st' := [.int p_3.1]) rfl ?_
        have e_3 := F_120_R G_3
        obtain rfl := Option.some.inj H
        exact ev_iret rfl rfl rfl rfl
      · refine ev_b2 (t := 173) (p' := 22) rfl rfl rfl (if_neg c_2) ?_
        refine ev_x (i := .iload_n 3) (len := 1) (p' := 23) (s' := [.int l_3]) rfl rfl (ld_i g_3) ?_
        refine F_if H (fun c_4 H => ?_) (fun c_4 H => ?_)
        · refine ev_b0 (t := 173) (p' := 173) rfl rfl rfl (if_pos c_4) ?_
          refine ev_x (i := .aload_n 0) (len := 1) (p' := 174) (s' := [.ref 62]) rfl rfl (ld_a g_0) ?_
          refine ev_x (i := .iload_n 1) (len := 1) (p' := 175) (s' := [.int l_1, .ref 62]) rfl rfl (ld_i g_1) ?_
          refine ev_x (i := .iload_n 2) (len := 1) (p' := 176) (s' := [.int l_2, .int l_1, .ref 62]) rfl rfl (ld_i g_2) ?_
          obtain ⟨p_5, G_5, H⟩ := F_bd H
          refine ev_cv (d := d + 4) (As := [.int l_1, .int l_2]) (a := 62) (p' := 179) rfl rfl rfl ly_62 rfl rfl rfl rfl rfl hnb rfl (F_120_ok (d := d + 0) (ht := (Or.inr rfl)) (hr_62_6 := hr_62_6) G_5) ?_
          refine ev_st (st' := [.int p_5.1]) rfl ?_
          have e_5 := F_120_R G_5
          obtain rfl := Option.some.inj H
          exact ev_iret rfl rfl rfl rfl
        · refine ev_b0 (t := 173) (p' := 26) rfl rfl rfl (if_neg c_4) ?_
          refine ev_x (i := .aload_n 0) (len := 1) (p' := 27) (s' := [.ref 62]) rfl rfl (ld_a g_0) ?_
          refine ev_gr (p' := 30) (v := 21) rfl rfl rfl ly_62 rfl rfl hr_62_6 ?_
          refine ev_gc (p' := 33) (v := 24) rfl rfl rfl ly_21 rfl rfl ?_
          refine ev_x (i := .iload_n 3) (len := 1) (p' := 34) (s' := [.int l_3, .ref 24]) rfl rfl (ld_i g_3) ?_
          obtain ⟨b_6, H⟩ := F_gd H
          refine ev_ga (p' := 35) (v := (gE (σ) 24 (l_3 : Int32).toNatClampNeg)) rfl rfl ly_24 rfl (gd_in b_6) rfl ?_
          refine ev_x (i := .istore 5) (len := 2) (p' := 37) (s' := []) (l' := vz_s1 (lv) 5 (.int (gE (σ) 24 (l_3 : Int32).toNatClampNeg))) rfl rfl rfl ?_
          refine ev_x (i := .aload_n 0) (len := 1) (p' := 38) (s' := [.ref 62]) rfl rfl (ld_a (vg_o (i := 5) (v := .int (gE (σ) 24 (l_3 : Int32).toNatClampNeg)) g_0 (by decide) (Or.inl rfl))) ?_
          refine ev_gc (p' := 41) (v := 42) rfl rfl rfl ly_62 rfl rfl ?_
          refine ev_x (i := .iload 5) (len := 2) (p' := 43) (s' := [.int (gE (σ) 24 (l_3 : Int32).toNatClampNeg), .ref 42]) rfl rfl (ld_i (vg_s (lv) 5 (.int (gE (σ) 24 (l_3 : Int32).toNatClampNeg)))) ?_
          obtain ⟨p_7, G_7, H⟩ := F_bd H
          refine ev_cv (d := d + 4) (As := [.int (gE (σ) 24 (l_3 : Int32).toNatClampNeg)]) (a := 42) (p' := 46) rfl rfl rfl ly_42 rfl rfl rfl rfl rfl (nb_s1 hnb rfl) rfl (F_70_ok (d := d + 1) (ht := (Or.inr rfl)) (hr_42_3 := hr_42_3) (hr_42_4 := hr_42_4) G_7) ?_
          refine ev_st (st' := [.int p_7.1]) rfl ?_
          have e_7 := F_70_R G_7
          refine ev_x (i := .istore 6) (len := 2) (p' := 48) (s' := []) (l' := vz_s1 (vz_s1 (lv) 5 (.int (gE (σ) 24 (l_3 : Int32).toNatClampNeg))) 6 (.int p_7.1)) rfl rfl rfl ?_
          refine ev_x (i := .iload 6) (len := 2) (p' := 50) (s' := [.int p_7.1]) rfl rfl (ld_i (vg_s (vz_s1 (lv) 5 (.int (gE (σ) 24 (l_3 : Int32).toNatClampNeg))) 6 (.int p_7.1))) ?_
          refine F_if H (fun c_8 H => ?_) (fun c_8 H => ?_)
          · refine ev_b0 (t := 67) (p' := 67) rfl rfl rfl (if_pos c_8) ?_
            refine ev_x (i := .aload_n 0) (len := 1) (p' := 68) (s' := [.ref 62]) rfl rfl (ld_a (vg_o (i := 6) (v := .int p_7.1) (vg_o (i := 5) (v := .int (gE (σ) 24 (l_3 : Int32).toNatClampNeg)) g_0 (by decide) (Or.inl rfl)) (by decide) (Or.inl rfl))) ?_
            refine ev_gr (p' := 71) (v := 21) rfl rfl rfl ly_62 rfl rfl ((congrFun (congrFun e_7 62) 6).trans hr_62_6) ?_
            refine ev_gc (p' := 74) (v := 28) rfl rfl rfl ly_21 rfl rfl ?_
            refine ev_x (i := .aload_n 0) (len := 1) (p' := 75) (s' := [.ref 62, .ref 28]) rfl rfl (ld_a (vg_o (i := 6) (v := .int p_7.1) (vg_o (i := 5) (v := .int (gE (σ) 24 (l_3 : Int32).toNatClampNeg)) g_0 (by decide) (Or.inl rfl)) (by decide) (Or.inl rfl))) ?_
            refine ev_gr (p' := 78) (v := 21) rfl rfl rfl ly_62 rfl rfl ((congrFun (congrFun e_7 62) 6).trans hr_62_6) ?_
            refine ev_gc (p' := 81) (v := 24) rfl rfl rfl ly_21 rfl rfl ?_
            refine ev_x (i := .iload 5) (len := 2) (p' := 83) (s' := [.int (gE (σ) 24 (l_3 : Int32).toNatClampNeg), .ref 24, .ref 28]) rfl rfl (ld_i (vg_o (i := 6) (v := .int p_7.1) (vg_s (lv) 5 (.int (gE (σ) 24 (l_3 : Int32).toNatClampNeg))) (by decide) (Or.inl rfl))) ?_
            obtain ⟨b_9, H⟩ := F_gd H
            refine ev_ga (p' := 84) (v := (gE (p_7.2) 24 ((gE (σ) 24 (l_3 : Int32).toNatClampNeg) : Int32).toNatClampNeg)) rfl rfl ly_24 rfl (gd_in b_9) rfl ?_
            obtain ⟨b_10, H⟩ := F_gd H
            refine ev_ga (p' := 85) (v := (gE (p_7.2) 28 ((gE (p_7.2) 24 ((gE (σ) 24 (l_3 : Int32).toNatClampNeg) : Int32).toNatClampNeg) : Int32).toNatClampNeg)) rfl rfl ly_28 rfl (gd_in b_10) rfl ?_
            refine ev_x (i := .istore 7) (len := 2) (p' := 87) (s' := []) (l' := vz_s1 (vz_s1 (vz_s1 (lv) 5 (.int (gE (σ) 24 (l_3 : Int32).toNatClampNeg))) 6 (.int p_7.1)) 7 (.int (gE (p_7.2) 28 ((gE (p_7.2) 24 ((gE (σ) 24 (l_3 : Int32).toNatClampNeg) : Int32).toNatClampNeg) : Int32).toNatClampNeg))) rfl rfl rfl ?_
            refine ev_x (i := .aload_n 0) (len := 1) (p' := 88) (s' := [.ref 62]) rfl rfl (ld_a (vg_o (i := 7) (v := .int (gE (p_7.2) 28 ((gE (p_7.2) 24 ((gE (σ) 24 (l_3 : Int32).toNatClampNeg) : Int32).toNatClampNeg) : Int32).toNatClampNeg)) (vg_o (i := 6) (v := .int p_7.1) (vg_o (i := 5) (v := .int (gE (σ) 24 (l_3 : Int32).toNatClampNeg)) g_0 (by decide) (Or.inl rfl)) (by decide) (Or.inl rfl)) (by decide) (Or.inl rfl))) ?_
            refine ev_gr (p' := 91) (v := 21) rfl rfl rfl ly_62 rfl rfl ((congrFun (congrFun e_7 62) 6).trans hr_62_6) ?_
            refine ev_gc (p' := 94) (v := 29) rfl rfl rfl ly_21 rfl rfl ?_
            refine ev_x (i := .aload_n 0) (len := 1) (p' := 95) (s' := [.ref 62, .ref 29]) rfl rfl (ld_a (vg_o (i := 7) (v := .int (gE (p_7.2) 28 ((gE (p_7.2) 24 ((gE (σ) 24 (l_3 : Int32).toNatClampNeg) : Int32).toNatClampNeg) : Int32).toNatClampNeg)) (vg_o (i := 6) (v := .int p_7.1) (vg_o (i := 5) (v := .int (gE (σ) 24 (l_3 : Int32).toNatClampNeg)) g_0 (by decide) (Or.inl rfl)) (by decide) (Or.inl rfl)) (by decide) (Or.inl rfl))) ?_
            refine ev_gr (p' := 98) (v := 21) rfl rfl rfl ly_62 rfl rfl ((congrFun (congrFun e_7 62) 6).trans hr_62_6) ?_
            refine ev_gc (p' := 101) (v := 24) rfl rfl rfl ly_21 rfl rfl ?_
            refine ev_x (i := .iload 5) (len := 2) (p' := 103) (s' := [.int (gE (σ) 24 (l_3 : Int32).toNatClampNeg), .ref 24, .ref 29]) rfl rfl (ld_i (vg_o (i := 7) (v := .int (gE (p_7.2) 28 ((gE (p_7.2) 24 ((gE (σ) 24 (l_3 : Int32).toNatClampNeg) : Int32).toNatClampNeg) : Int32).toNatClampNeg)) (vg_o (i := 6) (v := .int p_7.1) (vg_s (lv) 5 (.int (gE (σ) 24 (l_3 : Int32).toNatClampNeg))) (by decide) (Or.inl rfl)) (by decide) (Or.inl rfl))) ?_
            refine ev_ga (p' := 104) (v := (gE (p_7.2) 24 ((gE (σ) 24 (l_3 : Int32).toNatClampNeg) : Int32).toNatClampNeg)) rfl rfl ly_24 rfl (gd_in b_9) rfl ?_
            obtain ⟨b_11, H⟩ := F_gd H
            refine ev_ga (p' := 105) (v := (gE (p_7.2) 29 ((gE (p_7.2) 24 ((gE (σ) 24 (l_3 : Int32).toNatClampNeg) : Int32).toNatClampNeg) : Int32).toNatClampNeg)) rfl rfl ly_29 rfl (gd_in b_11) rfl ?_
            refine ev_x (i := .istore 8) (len := 2) (p' := 107) (s' := []) (l' := vz_s1 (vz_s1 (vz_s1 (vz_s1 (lv) 5 (.int (gE (σ) 24 (l_3 : Int32).toNatClampNeg))) 6 (.int p_7.1)) 7 (.int (gE (p_7.2) 28 ((gE (p_7.2) 24 ((gE (σ) 24 (l_3 : Int32).toNatClampNeg) : Int32).toNatClampNeg) : Int32).toNatClampNeg))) 8 (.int (gE (p_7.2) 29 ((gE (p_7.2) 24 ((gE (σ) 24 (l_3 : Int32).toNatClampNeg) : Int32).toNatClampNeg) : Int32).toNatClampNeg))) rfl rfl rfl ?_
            refine ev_x (i := .iload 7) (len := 2) (p' := 109) (s' := [.int (gE (p_7.2) 28 ((gE (p_7.2) 24 ((gE (σ) 24 (l_3 : Int32).toNatClampNeg) : Int32).toNatClampNeg) : Int32).toNatClampNeg)]) rfl rfl (ld_i (vg_o (i := 8) (v := .int (gE (p_7.2) 29 ((gE (p_7.2) 24 ((gE (σ) 24 (l_3 : Int32).toNatClampNeg) : Int32).toNatClampNeg) : Int32).toNatClampNeg)) (vg_s (vz_s1 (vz_s1 (lv) 5 (.int (gE (σ) 24 (l_3 : Int32).toNatClampNeg))) 6 (.int p_7.1)) 7 (.int (gE (p_7.2) 28 ((gE (p_7.2) 24 ((gE (σ) 24 (l_3 : Int32).toNatClampNeg) : Int32).toNatClampNeg) : Int32).toNatClampNeg))) (by decide) (Or.inl rfl))) ?_
            refine F_if H (fun c_12 H => ?_) (fun c_12 H => ?_)
            · refine ev_b0 (t := 119) (p' := 119) rfl rfl rfl (if_pos c_12) ?_
              exact J_119_119_ok (d := d) (Or.inr rfl) (vg_o (i := 8) (v := .int (gE (p_7.2) 29 ((gE (p_7.2) 24 ((gE (σ) 24 (l_3 : Int32).toNatClampNeg) : Int32).toNatClampNeg) : Int32).toNatClampNeg)) (vg_o (i := 7) (v := .int (gE (p_7.2) 28 ((gE (p_7.2) 24 ((gE (σ) 24 (l_3 : Int32).toNatClampNeg) : Int32).toNatClampNeg) : Int32).toNatClampNeg)) (vg_o (i := 6) (v := .int p_7.1) (vg_o (i := 5) (v := .int (gE (σ) 24 (l_3 : Int32).toNatClampNeg)) g_0 (by decide) (Or.inl rfl)) (by decide) (Or.inl rfl)) (by decide) (Or.inl rfl)) (by decide) (Or.inl rfl)) (vg_o (i := 8) (v := .int (gE (p_7.2) 29 ((gE (p_7.2) 24 ((gE (σ) 24 (l_3 : Int32).toNatClampNeg) : Int32).toNatClampNeg) : Int32).toNatClampNeg)) (vg_o (i := 7) (v := .int (gE (p_7.2) 28 ((gE (p_7.2) 24 ((gE (σ) 24 (l_3 : Int32).toNatClampNeg) : Int32).toNatClampNeg) : Int32).toNatClampNeg)) (vg_o (i := 6) (v := .int p_7.1) (vg_s (lv) 5 (.int (gE (σ) 24 (l_3 : Int32).toNatClampNeg))) (by decide) (Or.inl rfl)) (by decide) (Or.inl rfl)) (by decide) (Or.inl rfl)) (nb_s1 (nb_s1 (nb_s1 (nb_s1 hnb rfl) rfl) rfl) rfl) ((congrFun (congrFun e_7 42) 3).trans hr_42_3) ((congrFun (congrFun e_7 42) 4).trans hr_42_4) ((congrFun (congrFun e_7 62) 6).trans hr_62_6) H
            · refine ev_b0 (t := 119) (p' := 112) rfl rfl rfl (if_neg c_12) ?_
              refine ev_x (i := .iload 7) (len := 2) (p' := 114) (s' := [.int (gE (p_7.2) 28 ((gE (p_7.2) 24 ((gE (σ) 24 (l_3 : Int32).toNatClampNeg) : Int32).toNatClampNeg) : Int32).toNatClampNeg)]) rfl rfl (ld_i (vg_o (i := 8) (v := .int (gE (p_7.2) 29 ((gE (p_7.2) 24 ((gE (σ) 24 (l_3 : Int32).toNatClampNeg) : Int32).toNatClampNeg) : Int32).toNatClampNeg)) (vg_s (vz_s1 (vz_s1 (lv) 5 (.int (gE (σ) 24 (l_3 : Int32).toNatClampNeg))) 6 (.int p_7.1)) 7 (.int (gE (p_7.2) 28 ((gE (p_7.2) 24 ((gE (σ) 24 (l_3 : Int32).toNatClampNeg) : Int32).toNatClampNeg) : Int32).toNatClampNeg))) (by decide) (Or.inl rfl))) ?_
              refine ev_x (i := .iload 8) (len := 2) (p' := 116) (s' := [.int (gE (p_7.2) 29 ((gE (p_7.2) 24 ((gE (σ) 24 (l_3 : Int32).toNatClampNeg) : Int32).toNatClampNeg) : Int32).toNatClampNeg), .int (gE (p_7.2) 28 ((gE (p_7.2) 24 ((gE (σ) 24 (l_3 : Int32).toNatClampNeg) : Int32).toNatClampNeg) : Int32).toNatClampNeg)]) rfl rfl (ld_i (vg_s (vz_s1 (vz_s1 (vz_s1 (lv) 5 (.int (gE (σ) 24 (l_3 : Int32).toNatClampNeg))) 6 (.int p_7.1)) 7 (.int (gE (p_7.2) 28 ((gE (p_7.2) 24 ((gE (σ) 24 (l_3 : Int32).toNatClampNeg) : Int32).toNatClampNeg) : Int32).toNatClampNeg))) 8 (.int (gE (p_7.2) 29 ((gE (p_7.2) 24 ((gE (σ) 24 (l_3 : Int32).toNatClampNeg) : Int32).toNatClampNeg) : Int32).toNatClampNeg)))) ?_
              refine F_if H (fun c_13 H => ?_) (fun c_13 H => ?_)
              · refine ev_b2 (t := 136) (p' := 136) rfl rfl rfl (if_pos c_13) ?_
                refine ev_x (i := .aload_n 0) (len := 1) (p' := 137) (s' := [.ref 62]) rfl rfl (ld_a (vg_o (i := 8) (v := .int (gE (p_7.2) 29 ((gE (p_7.2) 24 ((gE (σ) 24 (l_3 : Int32).toNatClampNeg) : Int32).toNatClampNeg) : Int32).toNatClampNeg)) (vg_o (i := 7) (v := .int (gE (p_7.2) 28 ((gE (p_7.2) 24 ((gE (σ) 24 (l_3 : Int32).toNatClampNeg) : Int32).toNatClampNeg) : Int32).toNatClampNeg)) (vg_o (i := 6) (v := .int p_7.1) (vg_o (i := 5) (v := .int (gE (σ) 24 (l_3 : Int32).toNatClampNeg)) g_0 (by decide) (Or.inl rfl)) (by decide) (Or.inl rfl)) (by decide) (Or.inl rfl)) (by decide) (Or.inl rfl))) ?_
                refine ev_gc (p' := 140) (v := 63) rfl rfl rfl ly_62 rfl rfl ?_
                refine ev_x (i := .iload 4) (len := 2) (p' := 142) (s' := [.int l_4, .ref 63]) rfl rfl (ld_i (vg_o (i := 8) (v := .int (gE (p_7.2) 29 ((gE (p_7.2) 24 ((gE (σ) 24 (l_3 : Int32).toNatClampNeg) : Int32).toNatClampNeg) : Int32).toNatClampNeg)) (vg_o (i := 7) (v := .int (gE (p_7.2) 28 ((gE (p_7.2) 24 ((gE (σ) 24 (l_3 : Int32).toNatClampNeg) : Int32).toNatClampNeg) : Int32).toNatClampNeg)) (vg_o (i := 6) (v := .int p_7.1) (vg_o (i := 5) (v := .int (gE (σ) 24 (l_3 : Int32).toNatClampNeg)) g_4 (by decide) (Or.inl rfl)) (by decide) (Or.inl rfl)) (by decide) (Or.inl rfl)) (by decide) (Or.inl rfl))) ?_
                refine ev_x (i := .iload 7) (len := 2) (p' := 144) (s' := [.int (gE (p_7.2) 28 ((gE (p_7.2) 24 ((gE (σ) 24 (l_3 : Int32).toNatClampNeg) : Int32).toNatClampNeg) : Int32).toNatClampNeg), .int l_4, .ref 63]) rfl rfl (ld_i (vg_o (i := 8) (v := .int (gE (p_7.2) 29 ((gE (p_7.2) 24 ((gE (σ) 24 (l_3 : Int32).toNatClampNeg) : Int32).toNatClampNeg) : Int32).toNatClampNeg)) (vg_s (vz_s1 (vz_s1 (lv) 5 (.int (gE (σ) 24 (l_3 : Int32).toNatClampNeg))) 6 (.int p_7.1)) 7 (.int (gE (p_7.2) 28 ((gE (p_7.2) 24 ((gE (σ) 24 (l_3 : Int32).toNatClampNeg) : Int32).toNatClampNeg) : Int32).toNatClampNeg))) (by decide) (Or.inl rfl))) ?_
                obtain ⟨b_14, H⟩ := F_gd H
                refine ev_pa (j := (l_4 : Int32).toNatClampNeg) (p' := 145) rfl rfl ly_63 rfl (gd_in b_14) rfl ?_
                refine ev_x (i := .aload_n 0) (len := 1) (p' := 146) (s' := [.ref 62]) rfl rfl (ld_a (vg_o (i := 8) (v := .int (gE (p_7.2) 29 ((gE (p_7.2) 24 ((gE (σ) 24 (l_3 : Int32).toNatClampNeg) : Int32).toNatClampNeg) : Int32).toNatClampNeg)) (vg_o (i := 7) (v := .int (gE (p_7.2) 28 ((gE (p_7.2) 24 ((gE (σ) 24 (l_3 : Int32).toNatClampNeg) : Int32).toNatClampNeg) : Int32).toNatClampNeg)) (vg_o (i := 6) (v := .int p_7.1) (vg_o (i := 5) (v := .int (gE (σ) 24 (l_3 : Int32).toNatClampNeg)) g_0 (by decide) (Or.inl rfl)) (by decide) (Or.inl rfl)) (by decide) (Or.inl rfl)) (by decide) (Or.inl rfl))) ?_
                refine ev_gc (p' := 149) (v := 64) rfl rfl rfl ly_62 rfl rfl ?_
                refine ev_x (i := .iload 4) (len := 2) (p' := 151) (s' := [.int l_4, .ref 64]) rfl rfl (ld_i (vg_o (i := 8) (v := .int (gE (p_7.2) 29 ((gE (p_7.2) 24 ((gE (σ) 24 (l_3 : Int32).toNatClampNeg) : Int32).toNatClampNeg) : Int32).toNatClampNeg)) (vg_o (i := 7) (v := .int (gE (p_7.2) 28 ((gE (p_7.2) 24 ((gE (σ) 24 (l_3 : Int32).toNatClampNeg) : Int32).toNatClampNeg) : Int32).toNatClampNeg)) (vg_o (i := 6) (v := .int p_7.1) (vg_o (i := 5) (v := .int (gE (σ) 24 (l_3 : Int32).toNatClampNeg)) g_4 (by decide) (Or.inl rfl)) (by decide) (Or.inl rfl)) (by decide) (Or.inl rfl)) (by decide) (Or.inl rfl))) ?_
                refine ev_x (i := .iload 8) (len := 2) (p' := 153) (s' := [.int (gE (p_7.2) 29 ((gE (p_7.2) 24 ((gE (σ) 24 (l_3 : Int32).toNatClampNeg) : Int32).toNatClampNeg) : Int32).toNatClampNeg), .int l_4, .ref 64]) rfl rfl (ld_i (vg_s (vz_s1 (vz_s1 (vz_s1 (lv) 5 (.int (gE (σ) 24 (l_3 : Int32).toNatClampNeg))) 6 (.int p_7.1)) 7 (.int (gE (p_7.2) 28 ((gE (p_7.2) 24 ((gE (σ) 24 (l_3 : Int32).toNatClampNeg) : Int32).toNatClampNeg) : Int32).toNatClampNeg))) 8 (.int (gE (p_7.2) 29 ((gE (p_7.2) 24 ((gE (σ) 24 (l_3 : Int32).toNatClampNeg) : Int32).toNatClampNeg) : Int32).toNatClampNeg)))) ?_
                obtain ⟨b_15, H⟩ := F_gd H
                refine ev_pa (j := (l_4 : Int32).toNatClampNeg) (p' := 154) rfl rfl ly_64 rfl (gd_in b_15) rfl ?_
                refine ev_x (i := .iinc 2 1) (len := 3) (p' := 157) (s' := []) (l' := vz_s1 (vz_s1 (vz_s1 (vz_s1 (vz_s1 (lv) 5 (.int (gE (σ) 24 (l_3 : Int32).toNatClampNeg))) 6 (.int p_7.1)) 7 (.int (gE (p_7.2) 28 ((gE (p_7.2) 24 ((gE (σ) 24 (l_3 : Int32).toNatClampNeg) : Int32).toNatClampNeg) : Int32).toNatClampNeg))) 8 (.int (gE (p_7.2) 29 ((gE (p_7.2) 24 ((gE (σ) 24 (l_3 : Int32).toNatClampNeg) : Int32).toNatClampNeg) : Int32).toNatClampNeg))) 2 (.int (l_2 + 1))) rfl rfl (ld_inc (vg_o (i := 8) (v := .int (gE (p_7.2) 29 ((gE (p_7.2) 24 ((gE (σ) 24 (l_3 : Int32).toNatClampNeg) : Int32).toNatClampNeg) : Int32).toNatClampNeg)) (vg_o (i := 7) (v := .int (gE (p_7.2) 28 ((gE (p_7.2) 24 ((gE (σ) 24 (l_3 : Int32).toNatClampNeg) : Int32).toNatClampNeg) : Int32).toNatClampNeg)) (vg_o (i := 6) (v := .int p_7.1) (vg_o (i := 5) (v := .int (gE (σ) 24 (l_3 : Int32).toNatClampNeg)) g_2 (by decide) (Or.inl rfl)) (by decide) (Or.inl rfl)) (by decide) (Or.inl rfl)) (by decide) (Or.inl rfl)) rfl) ?_
                refine ev_x (i := .aload_n 0) (len := 1) (p' := 158) (s' := [.ref 62]) rfl rfl (ld_a (vg_o (i := 2) (v := .int (l_2 + 1)) (vg_o (i := 8) (v := .int (gE (p_7.2) 29 ((gE (p_7.2) 24 ((gE (σ) 24 (l_3 : Int32).toNatClampNeg) : Int32).toNatClampNeg) : Int32).toNatClampNeg)) (vg_o (i := 7) (v := .int (gE (p_7.2) 28 ((gE (p_7.2) 24 ((gE (σ) 24 (l_3 : Int32).toNatClampNeg) : Int32).toNatClampNeg) : Int32).toNatClampNeg)) (vg_o (i := 6) (v := .int p_7.1) (vg_o (i := 5) (v := .int (gE (σ) 24 (l_3 : Int32).toNatClampNeg)) g_0 (by decide) (Or.inl rfl)) (by decide) (Or.inl rfl)) (by decide) (Or.inl rfl)) (by decide) (Or.inl rfl)) (by decide) (Or.inl rfl))) ?_
                refine ev_gr (p' := 161) (v := 21) rfl rfl rfl ly_62 rfl rfl ((congrFun (congrFun e_7 62) 6).trans hr_62_6) ?_
                refine ev_gc (p' := 164) (v := 26) rfl rfl rfl ly_21 rfl rfl ?_
                refine ev_x (i := .iload_n 3) (len := 1) (p' := 165) (s' := [.int l_3, .ref 26]) rfl rfl (ld_i (vg_o (i := 2) (v := .int (l_2 + 1)) (vg_o (i := 8) (v := .int (gE (p_7.2) 29 ((gE (p_7.2) 24 ((gE (σ) 24 (l_3 : Int32).toNatClampNeg) : Int32).toNatClampNeg) : Int32).toNatClampNeg)) (vg_o (i := 7) (v := .int (gE (p_7.2) 28 ((gE (p_7.2) 24 ((gE (σ) 24 (l_3 : Int32).toNatClampNeg) : Int32).toNatClampNeg) : Int32).toNatClampNeg)) (vg_o (i := 6) (v := .int p_7.1) (vg_o (i := 5) (v := .int (gE (σ) 24 (l_3 : Int32).toNatClampNeg)) g_3 (by decide) (Or.inl rfl)) (by decide) (Or.inl rfl)) (by decide) (Or.inl rfl)) (by decide) (Or.inl rfl)) (by decide) (Or.inl rfl))) ?_
                obtain ⟨b_16, H⟩ := F_gd H
                refine ev_ga (p' := 166) (v := (gE (p_7.2) 26 (l_3 : Int32).toNatClampNeg)) rfl rfl ly_26 rfl (gd_in b_16) rfl ?_
                refine ev_x (i := .istore_n 3) (len := 1) (p' := 167) (s' := []) (l' := vz_s1 (vz_s1 (vz_s1 (vz_s1 (vz_s1 (vz_s1 (lv) 5 (.int (gE (σ) 24 (l_3 : Int32).toNatClampNeg))) 6 (.int p_7.1)) 7 (.int (gE (p_7.2) 28 ((gE (p_7.2) 24 ((gE (σ) 24 (l_3 : Int32).toNatClampNeg) : Int32).toNatClampNeg) : Int32).toNatClampNeg))) 8 (.int (gE (p_7.2) 29 ((gE (p_7.2) 24 ((gE (σ) 24 (l_3 : Int32).toNatClampNeg) : Int32).toNatClampNeg) : Int32).toNatClampNeg))) 2 (.int (l_2 + 1))) 3 (.int (gE (p_7.2) 26 (l_3 : Int32).toNatClampNeg))) rfl rfl rfl ?_
                refine ev_x (i := .iinc 4 1) (len := 3) (p' := 170) (s' := []) (l' := vz_s1 (vz_s1 (vz_s1 (vz_s1 (vz_s1 (vz_s1 (vz_s1 (lv) 5 (.int (gE (σ) 24 (l_3 : Int32).toNatClampNeg))) 6 (.int p_7.1)) 7 (.int (gE (p_7.2) 28 ((gE (p_7.2) 24 ((gE (σ) 24 (l_3 : Int32).toNatClampNeg) : Int32).toNatClampNeg) : Int32).toNatClampNeg))) 8 (.int (gE (p_7.2) 29 ((gE (p_7.2) 24 ((gE (σ) 24 (l_3 : Int32).toNatClampNeg) : Int32).toNatClampNeg) : Int32).toNatClampNeg))) 2 (.int (l_2 + 1))) 3 (.int (gE (p_7.2) 26 (l_3 : Int32).toNatClampNeg))) 4 (.int (l_4 + 1))) rfl rfl (ld_inc (vg_o (i := 3) (v := .int (gE (p_7.2) 26 (l_3 : Int32).toNatClampNeg)) (vg_o (i := 2) (v := .int (l_2 + 1)) (vg_o (i := 8) (v := .int (gE (p_7.2) 29 ((gE (p_7.2) 24 ((gE (σ) 24 (l_3 : Int32).toNatClampNeg) : Int32).toNatClampNeg) : Int32).toNatClampNeg)) (vg_o (i := 7) (v := .int (gE (p_7.2) 28 ((gE (p_7.2) 24 ((gE (σ) 24 (l_3 : Int32).toNatClampNeg) : Int32).toNatClampNeg) : Int32).toNatClampNeg)) (vg_o (i := 6) (v := .int p_7.1) (vg_o (i := 5) (v := .int (gE (σ) 24 (l_3 : Int32).toNatClampNeg)) g_4 (by decide) (Or.inl rfl)) (by decide) (Or.inl rfl)) (by decide) (Or.inl rfl)) (by decide) (Or.inl rfl)) (by decide) (Or.inl rfl)) (by decide) (Or.inl rfl)) rfl) ?_
                refine ev_x (i := .goto (-155)) (len := 3) (p' := 15) (s' := []) rfl rfl rfl ?_
                exact ih _ _ _ _ _ _ _ (vg_o (i := 4) (v := .int (l_4 + 1)) (vg_o (i := 3) (v := .int (gE (p_7.2) 26 (l_3 : Int32).toNatClampNeg)) (vg_o (i := 2) (v := .int (l_2 + 1)) (vg_o (i := 8) (v := .int (gE (p_7.2) 29 ((gE (p_7.2) 24 ((gE (σ) 24 (l_3 : Int32).toNatClampNeg) : Int32).toNatClampNeg) : Int32).toNatClampNeg)) (vg_o (i := 7) (v := .int (gE (p_7.2) 28 ((gE (p_7.2) 24 ((gE (σ) 24 (l_3 : Int32).toNatClampNeg) : Int32).toNatClampNeg) : Int32).toNatClampNeg)) (vg_o (i := 6) (v := .int p_7.1) (vg_o (i := 5) (v := .int (gE (σ) 24 (l_3 : Int32).toNatClampNeg)) g_0 (by decide) (Or.inl rfl)) (by decide) (Or.inl rfl)) (by decide) (Or.inl rfl)) (by decide) (Or.inl rfl)) (by decide) (Or.inl rfl)) (by decide) (Or.inl rfl)) (by decide) (Or.inl rfl)) (vg_o (i := 4) (v := .int (l_4 + 1)) (vg_o (i := 3) (v := .int (gE (p_7.2) 26 (l_3 : Int32).toNatClampNeg)) (vg_o (i := 2) (v := .int (l_2 + 1)) (vg_o (i := 8) (v := .int (gE (p_7.2) 29 ((gE (p_7.2) 24 ((gE (σ) 24 (l_3 : Int32).toNatClampNeg) : Int32).toNatClampNeg) : Int32).toNatClampNeg)) (vg_o (i := 7) (v := .int (gE (p_7.2) 28 ((gE (p_7.2) 24 ((gE (σ) 24 (l_3 : Int32).toNatClampNeg) : Int32).toNatClampNeg) : Int32).toNatClampNeg)) (vg_o (i := 6) (v := .int p_7.1) (vg_o (i := 5) (v := .int (gE (σ) 24 (l_3 : Int32).toNatClampNeg)) g_1 (by decide) (Or.inl rfl)) (by decide) (Or.inl rfl)) (by decide) (Or.inl rfl)) (by decide) (Or.inl rfl)) (by decide) (Or.inl rfl)) (by decide) (Or.inl rfl)) (by decide) (Or.inl rfl)) (vg_o (i := 4) (v := .int (l_4 + 1)) (vg_o (i := 3) (v := .int (gE (p_7.2) 26 (l_3 : Int32).toNatClampNeg)) (vg_s (vz_s1 (vz_s1 (vz_s1 (vz_s1 (lv) 5 (.int (gE (σ) 24 (l_3 : Int32).toNatClampNeg))) 6 (.int p_7.1)) 7 (.int (gE (p_7.2) 28 ((gE (p_7.2) 24 ((gE (σ) 24 (l_3 : Int32).toNatClampNeg) : Int32).toNatClampNeg) : Int32).toNatClampNeg))) 8 (.int (gE (p_7.2) 29 ((gE (p_7.2) 24 ((gE (σ) 24 (l_3 : Int32).toNatClampNeg) : Int32).toNatClampNeg) : Int32).toNatClampNeg))) 2 (.int (l_2 + 1))) (by decide) (Or.inl rfl)) (by decide) (Or.inl rfl)) (vg_o (i := 4) (v := .int (l_4 + 1)) (vg_s (vz_s1 (vz_s1 (vz_s1 (vz_s1 (vz_s1 (lv) 5 (.int (gE (σ) 24 (l_3 : Int32).toNatClampNeg))) 6 (.int p_7.1)) 7 (.int (gE (p_7.2) 28 ((gE (p_7.2) 24 ((gE (σ) 24 (l_3 : Int32).toNatClampNeg) : Int32).toNatClampNeg) : Int32).toNatClampNeg))) 8 (.int (gE (p_7.2) 29 ((gE (p_7.2) 24 ((gE (σ) 24 (l_3 : Int32).toNatClampNeg) : Int32).toNatClampNeg) : Int32).toNatClampNeg))) 2 (.int (l_2 + 1))) 3 (.int (gE (p_7.2) 26 (l_3 : Int32).toNatClampNeg))) (by decide) (Or.inl rfl)) (vg_s (vz_s1 (vz_s1 (vz_s1 (vz_s1 (vz_s1 (vz_s1 (lv) 5 (.int (gE (σ) 24 (l_3 : Int32).toNatClampNeg))) 6 (.int p_7.1)) 7 (.int (gE (p_7.2) 28 ((gE (p_7.2) 24 ((gE (σ) 24 (l_3 : Int32).toNatClampNeg) : Int32).toNatClampNeg) : Int32).toNatClampNeg))) 8 (.int (gE (p_7.2) 29 ((gE (p_7.2) 24 ((gE (σ) 24 (l_3 : Int32).toNatClampNeg) : Int32).toNatClampNeg) : Int32).toNatClampNeg))) 2 (.int (l_2 + 1))) 3 (.int (gE (p_7.2) 26 (l_3 : Int32).toNatClampNeg))) 4 (.int (l_4 + 1))) (nb_s1 (nb_s1 (nb_s1 (nb_s1 (nb_s1 (nb_s1 (nb_s1 hnb rfl) rfl) rfl) rfl) rfl) rfl) rfl) ((congrFun (congrFun e_7 42) 3).trans hr_42_3) ((congrFun (congrFun e_7 42) 4).trans hr_42_4) ((congrFun (congrFun e_7 62) 6).trans hr_62_6) H
              · refine ev_b2 (t := 136) (p' := 119) rfl rfl rfl (if_neg c_13) ?_
                exact J_119_119_ok (d := d) (Or.inr rfl) (vg_o (i := 8) (v := .int (gE (p_7.2) 29 ((gE (p_7.2) 24 ((gE (σ) 24 (l_3 : Int32).toNatClampNeg) : Int32).toNatClampNeg) : Int32).toNatClampNeg)) (vg_o (i := 7) (v := .int (gE (p_7.2) 28 ((gE (p_7.2) 24 ((gE (σ) 24 (l_3 : Int32).toNatClampNeg) : Int32).toNatClampNeg) : Int32).toNatClampNeg)) (vg_o (i := 6) (v := .int p_7.1) (vg_o (i := 5) (v := .int (gE (σ) 24 (l_3 : Int32).toNatClampNeg)) g_0 (by decide) (Or.inl rfl)) (by decide) (Or.inl rfl)) (by decide) (Or.inl rfl)) (by decide) (Or.inl rfl)) (vg_o (i := 8) (v := .int (gE (p_7.2) 29 ((gE (p_7.2) 24 ((gE (σ) 24 (l_3 : Int32).toNatClampNeg) : Int32).toNatClampNeg) : Int32).toNatClampNeg)) (vg_o (i := 7) (v := .int (gE (p_7.2) 28 ((gE (p_7.2) 24 ((gE (σ) 24 (l_3 : Int32).toNatClampNeg) : Int32).toNatClampNeg) : Int32).toNatClampNeg)) (vg_o (i := 6) (v := .int p_7.1) (vg_s (lv) 5 (.int (gE (σ) 24 (l_3 : Int32).toNatClampNeg))) (by decide) (Or.inl rfl)) (by decide) (Or.inl rfl)) (by decide) (Or.inl rfl)) (nb_s1 (nb_s1 (nb_s1 (nb_s1 hnb rfl) rfl) rfl) rfl) ((congrFun (congrFun e_7 42) 3).trans hr_42_3) ((congrFun (congrFun e_7 42) 4).trans hr_42_4) ((congrFun (congrFun e_7 62) 6).trans hr_62_6) H
          · refine ev_b0 (t := 67) (p' := 53) rfl rfl rfl (if_neg c_8) ?_
            refine ev_x (i := .aload_n 0) (len := 1) (p' := 54) (s' := [.ref 62]) rfl rfl (ld_a (vg_o (i := 6) (v := .int p_7.1) (vg_o (i := 5) (v := .int (gE (σ) 24 (l_3 : Int32).toNatClampNeg)) g_0 (by decide) (Or.inl rfl)) (by decide) (Or.inl rfl))) ?_
            refine ev_x (i := .iload 6) (len := 2) (p' := 56) (s' := [.int p_7.1, .ref 62]) rfl rfl (ld_i (vg_s (vz_s1 (lv) 5 (.int (gE (σ) 24 (l_3 : Int32).toNatClampNeg))) 6 (.int p_7.1))) ?_
            refine ev_x (i := .aload_n 0) (len := 1) (p' := 57) (s' := [.ref 62, .int p_7.1, .ref 62]) rfl rfl (ld_a (vg_o (i := 6) (v := .int p_7.1) (vg_o (i := 5) (v := .int (gE (σ) 24 (l_3 : Int32).toNatClampNeg)) g_0 (by decide) (Or.inl rfl)) (by decide) (Or.inl rfl))) ?_
            refine ev_gc (p' := 60) (v := 42) rfl rfl rfl ly_62 rfl rfl ?_
            refine ev_gi (p' := 63) (v := (gI p_7.2 42 6)) rfl rfl rfl ly_42 rfl rfl rfl ?_
            obtain ⟨p_17, G_17, H⟩ := F_bd H
            refine ev_cv (d := d + 4) (As := [.int p_7.1, .int (gI p_7.2 42 6)]) (a := 62) (p' := 66) rfl rfl rfl ly_62 rfl rfl rfl rfl rfl (nb_s1 (nb_s1 hnb rfl) rfl) rfl (F_116_ok (d := d + 3)   G_17) ?_
            refine ev_st (st' := [.int p_17.1]) rfl ?_
            have e_17 := F_116_R G_17
            obtain rfl := Option.some.inj H
            exact ev_iret rfl rfl rfl rfl
/-- GameText$Explorer.worksOutChances(I)I -/
def F_119 (N : Nat) (t : Nat) (x_1 : Int32) (σ : st_S) : Option (Int32 × st_S) :=
  if aB x_1 (gN σ (t + 6)) then
  L_119 N t N x_1 0 (gE (σ) (t + 6) (x_1 : Int32).toNatClampNeg) 0 (σ)
  else none
set_option maxRecDepth 100000 in
theorem F_119_R {N : Nat} {t : Nat} {x_1 : Int32} {σ : st_S} {p : Int32 × st_S} (H : F_119 N t x_1 σ = some p) : gR p.2 = gR σ := by
  unfold F_119 at H
  obtain ⟨_, H⟩ := F_gd H
  exact (((L_119_R _ _ _ _ _ _ _ H)).trans rfl)
set_option maxHeartbeats 4000000 in
set_option maxRecDepth 100000 in
theorem F_119_ok {N d : Nat} {t : Nat} (ht : t = 4 ∨ t = 20) {x_1 : Int32} {σ : st_S} {p : Int32 × st_S} (hr_42_3 : gR σ 42 3 = t) (hr_42_4 : gR σ 42 4 = (t + 1)) (hr_62_6 : gR σ 62 6 = (t + 1)) (H : F_119 N t x_1 σ = some p) : vz_ev P0 (d + 5) 119 0 (lv_args 0 [.ref 62, .int x_1]) [] (hp σ) (.inl (some (.int p.1)), hp p.2) := by
  unfold F_119 at H
  rcases ht with rfl | rfl
  · refine ev_x (i := .iconst 0) (len := 1) (p' := 1) (s' := [.int 0]) rfl rfl rfl ?_
    refine ev_x (i := .istore_n 2) (len := 1) (p' := 2) (s' := []) (l' := [(2, .int 0), (0, .ref 62), (1, .int x_1)]) rfl rfl rfl ?_
    refine ev_x (i := .aload_n 0) (len := 1) (p' := 3) (s' := [.ref 62]) rfl rfl rfl ?_
    refine ev_gr (p' := 6) (v := 5) rfl rfl rfl ly_62 rfl rfl hr_62_6 ?_
    refine ev_gc (p' := 9) (v := 10) rfl rfl rfl ly_5 rfl rfl ?_
    refine ev_x (i := .iload_n 1) (len := 1) (p' := 10) (s' := [.int x_1, .ref 10]) rfl rfl rfl ?_
    obtain ⟨b_1, H⟩ := F_gd H
    refine ev_ga (p' := 11) (v := (gE (σ) 10 (x_1 : Int32).toNatClampNeg)) rfl rfl ly_10 rfl (gd_in b_1) rfl ?_
    refine ev_x (i := .istore_n 3) (len := 1) (p' := 12) (s' := []) (l' := [(3, .int (gE (σ) 10 (x_1 : Int32).toNatClampNeg)), (2, .int 0), (0, .ref 62), (1, .int x_1)]) rfl rfl rfl ?_
    refine ev_x (i := .iconst 0) (len := 1) (p' := 13) (s' := [.int 0]) rfl rfl rfl ?_
    refine ev_x (i := .istore 4) (len := 2) (p' := 15) (s' := []) (l' := [(4, .int 0), (3, .int (gE (σ) 10 (x_1 : Int32).toNatClampNeg)), (2, .int 0), (0, .ref 62), (1, .int x_1)]) rfl rfl rfl ?_
    exact (L_119_ok (d := d) (Or.inl rfl) N) _ _ _ _ _ _ _ rfl rfl rfl rfl rfl rfl hr_42_3 hr_42_4 hr_62_6 H
  · refine ev_x (i := .iconst 0) (len := 1) (p' := 1) (s' := [.int 0]) rfl rfl rfl ?_
    refine ev_x (i := .istore_n 2) (len := 1) (p' := 2) (s' := []) (l' := [(2, .int 0), (0, .ref 62), (1, .int x_1)]) rfl rfl rfl ?_
    refine ev_x (i := .aload_n 0) (len := 1) (p' := 3) (s' := [.ref 62]) rfl rfl rfl ?_
    refine ev_gr (p' := 6) (v := 21) rfl rfl rfl ly_62 rfl rfl hr_62_6 ?_
    refine ev_gc (p' := 9) (v := 26) rfl rfl rfl ly_21 rfl rfl ?_
    refine ev_x (i := .iload_n 1) (len := 1) (p' := 10) (s' := [.int x_1, .ref 26]) rfl rfl rfl ?_
    obtain ⟨b_1, H⟩ := F_gd H
    refine ev_ga (p' := 11) (v := (gE (σ) 26 (x_1 : Int32).toNatClampNeg)) rfl rfl ly_26 rfl (gd_in b_1) rfl ?_
    refine ev_x (i := .istore_n 3) (len := 1) (p' := 12) (s' := []) (l' := [(3, .int (gE (σ) 26 (x_1 : Int32).toNatClampNeg)), (2, .int 0), (0, .ref 62), (1, .int x_1)]) rfl rfl rfl ?_
    refine ev_x (i := .iconst 0) (len := 1) (p' := 13) (s' := [.int 0]) rfl rfl rfl ?_
    refine ev_x (i := .istore 4) (len := 2) (p' := 15) (s' := []) (l' := [(4, .int 0), (3, .int (gE (σ) 26 (x_1 : Int32).toNatClampNeg)), (2, .int 0), (0, .ref 62), (1, .int x_1)]) rfl rfl rfl ?_
    exact (L_119_ok (d := d) (Or.inr rfl) N) _ _ _ _ _ _ _ rfl rfl rfl rfl rfl rfl hr_42_3 hr_42_4 hr_62_6 H
/-- GameText$Explorer.follows(III)I, from 236 -/
def J_122_236 (N : Nat) (t : Nat) (l_1 : Int32) (l_2 : Int32) (l_3 : Int32) (σ : st_S) : Option (Int32 × st_S) :=
  (F_110 N (σ)).bind fun p_24 =>
  if 0 ≤ p_24.1 then
    if aB l_3 (gN p_24.2 63) then
    if aB l_3 (gN p_24.2 64) then
    (F_123 N p_24.1 (gE (p_24.2) 63 (l_3 : Int32).toNatClampNeg) (gE (p_24.2) 64 (l_3 : Int32).toNatClampNeg) (p_24.2)).bind fun p_28 =>
    if p_28.1 = 0 then
      if aB l_1 (gN p_28.2 (t + 3)) then
      (F_116 N 5 (gE (p_28.2) (t + 3) (l_1 : Int32).toNatClampNeg) (p_28.2)).bind fun p_31 =>
      some (p_31.1, p_31.2)
      else none
    else
      some (0, p_28.2)
    else none
    else none
  else
    if aB l_2 (gN p_24.2 (t + 3)) then
    (F_116 N 5 (gE (p_24.2) (t + 3) (l_2 : Int32).toNatClampNeg) (p_24.2)).bind fun p_33 =>
    some (p_33.1, p_33.2)
    else none
set_option maxRecDepth 100000 in
theorem J_122_236_R {N : Nat} {t : Nat} {l_1 : Int32} {l_2 : Int32} {l_3 : Int32} {σ : st_S} {p : Int32 × st_S} (H : J_122_236 N t l_1 l_2 l_3 σ = some p) : gR p.2 = gR σ := by
  unfold J_122_236 at H
  obtain ⟨p_24, G_24, H⟩ := F_bd H
  refine F_if H (fun _ H => ?_) (fun _ H => ?_)
  · obtain ⟨_, H⟩ := F_gd H
    obtain ⟨_, H⟩ := F_gd H
    obtain ⟨p_28, G_28, H⟩ := F_bd H
    refine F_if H (fun _ H => ?_) (fun _ H => ?_)
    · obtain ⟨_, H⟩ := F_gd H
      obtain ⟨p_31, G_31, H⟩ := F_bd H
      obtain rfl := Option.some.inj H
      exact ((F_116_R G_31).trans ((F_123_R G_28).trans ((F_110_R G_24).trans rfl)))
    · obtain rfl := Option.some.inj H
      exact ((F_123_R G_28).trans ((F_110_R G_24).trans rfl))
  · obtain ⟨_, H⟩ := F_gd H
    obtain ⟨p_33, G_33, H⟩ := F_bd H
    obtain rfl := Option.some.inj H
    exact ((F_116_R G_33).trans ((F_110_R G_24).trans rfl))
set_option maxHeartbeats 4000000 in
set_option maxRecDepth 100000 in
theorem J_122_236_ok {N d : Nat} {t : Nat} (ht : t = 4 ∨ t = 20) {l_1 : Int32} {l_2 : Int32} {l_3 : Int32} {σ : st_S} {lv : vz_L} {p : Int32 × st_S} (g_0 : vz_g lv 0 = some (.ref 62)) (g_1 : vz_g lv 1 = some (.int l_1)) (g_2 : vz_g lv 2 = some (.int l_2)) (g_3 : vz_g lv 3 = some (.int l_3)) (hnb : vz_nbL (vz_gr P0) lv = true) (hr_42_3 : gR σ 42 3 = t) (hr_42_4 : gR σ 42 4 = (t + 1)) (hr_62_5 : gR σ 62 5 = t) (hr_62_6 : gR σ 62 6 = (t + 1)) (H : J_122_236 N t l_1 l_2 l_3 σ = some p) : vz_ev P0 (d + 7) 122 236 lv [] (hp σ) (.inl (some (.int p.1)), hp p.2) := by
  unfold J_122_236 at H
  rcases ht with rfl | rfl
  · refine ev_x (i := .aload_n 0) (len := 1) (p' := 237) (s' := [.ref 62]) rfl rfl (ld_a g_0) ?_
    refine ev_gc (p' := 240) (v := 52) rfl rfl rfl ly_62 rfl rfl ?_
    refine ev_x (i := .aload_n 0) (len := 1) (p' := 241) (s' := [.ref 62, .ref 52]) rfl rfl (ld_a g_0) ?_
    refine ev_gc (p' := 244) (v := 65) rfl rfl rfl ly_62 rfl rfl ?_
    obtain ⟨p_24, G_24, H⟩ := F_bd H
    refine ev_cv (d := d + 6) (As := [.ref 65]) (a := 52) (p' := 247) rfl rfl rfl ly_52 rfl rfl rfl rfl rfl hnb rfl (F_110_ok (d := d + 0)   G_24) ?_
    refine ev_st (st' := [.int p_24.1]) rfl ?_
    have e_24 := F_110_R G_24
    refine ev_x (i := .istore 5) (len := 2) (p' := 249) (s' := []) (l' := vz_s1 (lv) 5 (.int p_24.1)) rfl rfl rfl ?_
    refine ev_x (i := .iload 5) (len := 2) (p' := 251) (s' := [.int p_24.1]) rfl rfl (ld_i (vg_s (lv) 5 (.int p_24.1))) ?_
    refine F_if H (fun c_25 H => ?_) (fun c_25 H => ?_)
    · refine ev_b0 (t := 269) (p' := 269) rfl rfl rfl (if_pos c_25) ?_
      refine ev_x (i := .aload_n 0) (len := 1) (p' := 270) (s' := [.ref 62]) rfl rfl (ld_a (vg_o (i := 5) (v := .int p_24.1) g_0 (by decide) (Or.inl rfl))) ?_
      refine ev_gc (p' := 273) (v := 52) rfl rfl rfl ly_62 rfl rfl ?_
      refine ev_x (i := .iload 5) (len := 2) (p' := 275) (s' := [.int p_24.1, .ref 52]) rfl rfl (ld_i (vg_s (lv) 5 (.int p_24.1))) ?_
      refine ev_x (i := .aload_n 0) (len := 1) (p' := 276) (s' := [.ref 62, .int p_24.1, .ref 52]) rfl rfl (ld_a (vg_o (i := 5) (v := .int p_24.1) g_0 (by decide) (Or.inl rfl))) ?_
      refine ev_gc (p' := 279) (v := 63) rfl rfl rfl ly_62 rfl rfl ?_
      refine ev_x (i := .iload_n 3) (len := 1) (p' := 280) (s' := [.int l_3, .ref 63, .int p_24.1, .ref 52]) rfl rfl (ld_i (vg_o (i := 5) (v := .int p_24.1) g_3 (by decide) (Or.inl rfl))) ?_
      obtain ⟨b_26, H⟩ := F_gd H
      refine ev_ga (p' := 281) (v := (gE (p_24.2) 63 (l_3 : Int32).toNatClampNeg)) rfl rfl ly_63 rfl (gd_in b_26) rfl ?_
      refine ev_x (i := .aload_n 0) (len := 1) (p' := 282) (s' := [.ref 62, .int (gE (p_24.2) 63 (l_3 : Int32).toNatClampNeg), .int p_24.1, .ref 52]) rfl rfl (ld_a (vg_o (i := 5) (v := .int p_24.1) g_0 (by decide) (Or.inl rfl))) ?_
      refine ev_gc (p' := 285) (v := 64) rfl rfl rfl ly_62 rfl rfl ?_
      refine ev_x (i := .iload_n 3) (len := 1) (p' := 286) (s' := [.int l_3, .ref 64, .int (gE (p_24.2) 63 (l_3 : Int32).toNatClampNeg), .int p_24.1, .ref 52]) rfl rfl (ld_i (vg_o (i := 5) (v := .int p_24.1) g_3 (by decide) (Or.inl rfl))) ?_
      obtain ⟨b_27, H⟩ := F_gd H
      refine ev_ga (p' := 287) (v := (gE (p_24.2) 64 (l_3 : Int32).toNatClampNeg)) rfl rfl ly_64 rfl (gd_in b_27) rfl ?_
      obtain ⟨p_28, G_28, H⟩ := F_bd H
      refine ev_cv (d := d + 6) (As := [.int p_24.1, .int (gE (p_24.2) 63 (l_3 : Int32).toNatClampNeg), .int (gE (p_24.2) 64 (l_3 : Int32).toNatClampNeg)]) (a := 52) (p' := 290) rfl rfl rfl ly_52 rfl rfl rfl rfl rfl (nb_s1 hnb rfl) rfl (F_123_ok (d := d + 1)   G_28) ?_
      refine ev_st (st' := [.int p_28.1]) rfl ?_
      have e_28 := F_123_R G_28
      refine F_if H (fun c_29 H => ?_) (fun c_29 H => ?_)
      · refine ev_b0 (t := 308) (p' := 293) rfl rfl rfl (if_neg (fun q => q c_29)) ?_
        refine ev_x (i := .aload_n 0) (len := 1) (p' := 294) (s' := [.ref 62]) rfl rfl (ld_a (vg_o (i := 5) (v := .int p_24.1) g_0 (by decide) (Or.inl rfl))) ?_
        refine ev_x (i := .iconst 5) (len := 1) (p' := 295) (s' := [.int 5, .ref 62]) rfl rfl rfl ?_
        refine ev_x (i := .aload_n 0) (len := 1) (p' := 296) (s' := [.ref 62, .int 5, .ref 62]) rfl rfl (ld_a (vg_o (i := 5) (v := .int p_24.1) g_0 (by decide) (Or.inl rfl))) ?_
        refine ev_gr (p' := 299) (v := 5) rfl rfl rfl ly_62 rfl rfl ((congrFun (congrFun e_28 62) 6).trans ((congrFun (congrFun e_24 62) 6).trans hr_62_6)) ?_
        refine ev_gc (p' := 302) (v := 7) rfl rfl rfl ly_5 rfl rfl ?_
        refine ev_x (i := .iload_n 1) (len := 1) (p' := 303) (s' := [.int l_1, .ref 7, .int 5, .ref 62]) rfl rfl (ld_i (vg_o (i := 5) (v := .int p_24.1) g_1 (by decide) (Or.inl rfl))) ?_
        obtain ⟨b_30, H⟩ := F_gd H
        refine ev_ga (p' := 304) (v := (gE (p_28.2) 7 (l_1 : Int32).toNatClampNeg)) rfl rfl ly_7 rfl (gd_in b_30) rfl ?_
        obtain ⟨p_31, G_31, H⟩ := F_bd H
        refine ev_cv (d := d + 6) (As := [.int 5, .int (gE (p_28.2) 7 (l_1 : Int32).toNatClampNeg)]) (a := 62) (p' := 307) rfl rfl rfl ly_62 rfl rfl rfl rfl rfl (nb_s1 hnb rfl) rfl (F_116_ok (d := d + 5)   G_31) ?_
        refine ev_st (st' := [.int p_31.1]) rfl ?_
        have e_31 := F_116_R G_31
        obtain rfl := Option.some.inj H
        exact ev_iret rfl rfl rfl rfl
      · refine ev_b0 (t := 308) (p' := 308) rfl rfl rfl (if_pos c_29) ?_
        refine ev_x (i := .iconst 0) (len := 1) (p' := 309) (s' := [.int 0]) rfl rfl rfl ?_
        obtain rfl := Option.some.inj H
        exact ev_iret rfl rfl rfl rfl
    · refine ev_b0 (t := 269) (p' := 254) rfl rfl rfl (if_neg c_25) ?_
      refine ev_x (i := .aload_n 0) (len := 1) (p' := 255) (s' := [.ref 62]) rfl rfl (ld_a (vg_o (i := 5) (v := .int p_24.1) g_0 (by decide) (Or.inl rfl))) ?_
      refine ev_x (i := .iconst 5) (len := 1) (p' := 256) (s' := [.int 5, .ref 62]) rfl rfl rfl ?_
      refine ev_x (i := .aload_n 0) (len := 1) (p' := 257) (s' := [.ref 62, .int 5, .ref 62]) rfl rfl (ld_a (vg_o (i := 5) (v := .int p_24.1) g_0 (by decide) (Or.inl rfl))) ?_
      refine ev_gr (p' := 260) (v := 5) rfl rfl rfl ly_62 rfl rfl ((congrFun (congrFun e_24 62) 6).trans hr_62_6) ?_
      refine ev_gc (p' := 263) (v := 7) rfl rfl rfl ly_5 rfl rfl ?_
      refine ev_x (i := .iload_n 2) (len := 1) (p' := 264) (s' := [.int l_2, .ref 7, .int 5, .ref 62]) rfl rfl (ld_i (vg_o (i := 5) (v := .int p_24.1) g_2 (by decide) (Or.inl rfl))) ?_
      obtain ⟨b_32, H⟩ := F_gd H
      refine ev_ga (p' := 265) (v := (gE (p_24.2) 7 (l_2 : Int32).toNatClampNeg)) rfl rfl ly_7 rfl (gd_in b_32) rfl ?_
      obtain ⟨p_33, G_33, H⟩ := F_bd H
      refine ev_cv (d := d + 6) (As := [.int 5, .int (gE (p_24.2) 7 (l_2 : Int32).toNatClampNeg)]) (a := 62) (p' := 268) rfl rfl rfl ly_62 rfl rfl rfl rfl rfl (nb_s1 hnb rfl) rfl (F_116_ok (d := d + 5)   G_33) ?_
      refine ev_st (st' := [.int p_33.1]) rfl ?_
      have e_33 := F_116_R G_33
      obtain rfl := Option.some.inj H
      exact ev_iret rfl rfl rfl rfl
  · refine ev_x (i := .aload_n 0) (len := 1) (p' := 237) (s' := [.ref 62]) rfl rfl (ld_a g_0) ?_
    refine ev_gc (p' := 240) (v := 52) rfl rfl rfl ly_62 rfl rfl ?_
    refine ev_x (i := .aload_n 0) (len := 1) (p' := 241) (s' := [.ref 62, .ref 52]) rfl rfl (ld_a g_0) ?_
    refine ev_gc (p' := 244) (v := 65) rfl rfl rfl ly_62 rfl rfl ?_
    obtain ⟨p_24, G_24, H⟩ := F_bd H
    refine ev_cv (d := d + 6) (As := [.ref 65]) (a := 52) (p' := 247) rfl rfl rfl ly_52 rfl rfl rfl rfl rfl hnb rfl (F_110_ok (d := d + 0)   G_24) ?_
    refine ev_st (st' := [.int p_24.1]) rfl ?_
    have e_24 := F_110_R G_24
    refine ev_x (i := .istore 5) (len := 2) (p' := 249) (s' := []) (l' := vz_s1 (lv) 5 (.int p_24.1)) rfl rfl rfl ?_
    refine ev_x (i := .iload 5) (len := 2) (p' := 251) (s' := [.int p_24.1]) rfl rfl (ld_i (vg_s (lv) 5 (.int p_24.1))) ?_
    refine F_if H (fun c_25 H => ?_) (fun c_25 H => ?_)
    · refine ev_b0 (t := 269) (p' := 269) rfl rfl rfl (if_pos c_25) ?_
      refine ev_x (i := .aload_n 0) (len := 1) (p' := 270) (s' := [.ref 62]) rfl rfl (ld_a (vg_o (i := 5) (v := .int p_24.1) g_0 (by decide) (Or.inl rfl))) ?_
      refine ev_gc (p' := 273) (v := 52) rfl rfl rfl ly_62 rfl rfl ?_
      refine ev_x (i := .iload 5) (len := 2) (p' := 275) (s' := [.int p_24.1, .ref 52]) rfl rfl (ld_i (vg_s (lv) 5 (.int p_24.1))) ?_
      refine ev_x (i := .aload_n 0) (len := 1) (p' := 276) (s' := [.ref 62, .int p_24.1, .ref 52]) rfl rfl (ld_a (vg_o (i := 5) (v := .int p_24.1) g_0 (by decide) (Or.inl rfl))) ?_
      refine ev_gc (p' := 279) (v := 63) rfl rfl rfl ly_62 rfl rfl ?_
      refine ev_x (i := .iload_n 3) (len := 1) (p' := 280) (s' := [.int l_3, .ref 63, .int p_24.1, .ref 52]) rfl rfl (ld_i (vg_o (i := 5) (v := .int p_24.1) g_3 (by decide) (Or.inl rfl))) ?_
      obtain ⟨b_26, H⟩ := F_gd H
      refine ev_ga (p' := 281) (v := (gE (p_24.2) 63 (l_3 : Int32).toNatClampNeg)) rfl rfl ly_63 rfl (gd_in b_26) rfl ?_
      refine ev_x (i := .aload_n 0) (len := 1) (p' := 282) (s' := [.ref 62, .int (gE (p_24.2) 63 (l_3 : Int32).toNatClampNeg), .int p_24.1, .ref 52]) rfl rfl (ld_a (vg_o (i := 5) (v := .int p_24.1) g_0 (by decide) (Or.inl rfl))) ?_
      refine ev_gc (p' := 285) (v := 64) rfl rfl rfl ly_62 rfl rfl ?_
      refine ev_x (i := .iload_n 3) (len := 1) (p' := 286) (s' := [.int l_3, .ref 64, .int (gE (p_24.2) 63 (l_3 : Int32).toNatClampNeg), .int p_24.1, .ref 52]) rfl rfl (ld_i (vg_o (i := 5) (v := .int p_24.1) g_3 (by decide) (Or.inl rfl))) ?_
      obtain ⟨b_27, H⟩ := F_gd H
      refine ev_ga (p' := 287) (v := (gE (p_24.2) 64 (l_3 : Int32).toNatClampNeg)) rfl rfl ly_64 rfl (gd_in b_27) rfl ?_
      obtain ⟨p_28, G_28, H⟩ := F_bd H
      refine ev_cv (d := d + 6) (As := [.int p_24.1, .int (gE (p_24.2) 63 (l_3 : Int32).toNatClampNeg), .int (gE (p_24.2) 64 (l_3 : Int32).toNatClampNeg)]) (a := 52) (p' := 290) rfl rfl rfl ly_52 rfl rfl rfl rfl rfl (nb_s1 hnb rfl) rfl (F_123_ok (d := d + 1)   G_28) ?_
      refine ev_st (st' := [.int p_28.1]) rfl ?_
      have e_28 := F_123_R G_28
      refine F_if H (fun c_29 H => ?_) (fun c_29 H => ?_)
      · refine ev_b0 (t := 308) (p' := 293) rfl rfl rfl (if_neg (fun q => q c_29)) ?_
        refine ev_x (i := .aload_n 0) (len := 1) (p' := 294) (s' := [.ref 62]) rfl rfl (ld_a (vg_o (i := 5) (v := .int p_24.1) g_0 (by decide) (Or.inl rfl))) ?_
        refine ev_x (i := .iconst 5) (len := 1) (p' := 295) (s' := [.int 5, .ref 62]) rfl rfl rfl ?_
        refine ev_x (i := .aload_n 0) (len := 1) (p' := 296) (s' := [.ref 62, .int 5, .ref 62]) rfl rfl (ld_a (vg_o (i := 5) (v := .int p_24.1) g_0 (by decide) (Or.inl rfl))) ?_
        refine ev_gr (p' := 299) (v := 21) rfl rfl rfl ly_62 rfl rfl ((congrFun (congrFun e_28 62) 6).trans ((congrFun (congrFun e_24 62) 6).trans hr_62_6)) ?_
        refine ev_gc (p' := 302) (v := 23) rfl rfl rfl ly_21 rfl rfl ?_
        refine ev_x (i := .iload_n 1) (len := 1) (p' := 303) (s' := [.int l_1, .ref 23, .int 5, .ref 62]) rfl rfl (ld_i (vg_o (i := 5) (v := .int p_24.1) g_1 (by decide) (Or.inl rfl))) ?_
        obtain ⟨b_30, H⟩ := F_gd H
        refine ev_ga (p' := 304) (v := (gE (p_28.2) 23 (l_1 : Int32).toNatClampNeg)) rfl rfl ly_23 rfl (gd_in b_30) rfl ?_
        obtain ⟨p_31, G_31, H⟩ := F_bd H
        refine ev_cv (d := d + 6) (As := [.int 5, .int (gE (p_28.2) 23 (l_1 : Int32).toNatClampNeg)]) (a := 62) (p' := 307) rfl rfl rfl ly_62 rfl rfl rfl rfl rfl (nb_s1 hnb rfl) rfl (F_116_ok (d := d + 5)   G_31) ?_
        refine ev_st (st' := [.int p_31.1]) rfl ?_
        have e_31 := F_116_R G_31
        obtain rfl := Option.some.inj H
        exact ev_iret rfl rfl rfl rfl
      · refine ev_b0 (t := 308) (p' := 308) rfl rfl rfl (if_pos c_29) ?_
        refine ev_x (i := .iconst 0) (len := 1) (p' := 309) (s' := [.int 0]) rfl rfl rfl ?_
        obtain rfl := Option.some.inj H
        exact ev_iret rfl rfl rfl rfl
    · refine ev_b0 (t := 269) (p' := 254) rfl rfl rfl (if_neg c_25) ?_
      refine ev_x (i := .aload_n 0) (len := 1) (p' := 255) (s' := [.ref 62]) rfl rfl (ld_a (vg_o (i := 5) (v := .int p_24.1) g_0 (by decide) (Or.inl rfl))) ?_
      refine ev_x (i := .iconst 5) (len := 1) (p' := 256) (s' := [.int 5, .ref 62]) rfl rfl rfl ?_
      refine ev_x (i := .aload_n 0) (len := 1) (p' := 257) (s' := [.ref 62, .int 5, .ref 62]) rfl rfl (ld_a (vg_o (i := 5) (v := .int p_24.1) g_0 (by decide) (Or.inl rfl))) ?_
      refine ev_gr (p' := 260) (v := 21) rfl rfl rfl ly_62 rfl rfl ((congrFun (congrFun e_24 62) 6).trans hr_62_6) ?_
      refine ev_gc (p' := 263) (v := 23) rfl rfl rfl ly_21 rfl rfl ?_
      refine ev_x (i := .iload_n 2) (len := 1) (p' := 264) (s' := [.int l_2, .ref 23, .int 5, .ref 62]) rfl rfl (ld_i (vg_o (i := 5) (v := .int p_24.1) g_2 (by decide) (Or.inl rfl))) ?_
      obtain ⟨b_32, H⟩ := F_gd H
      refine ev_ga (p' := 265) (v := (gE (p_24.2) 23 (l_2 : Int32).toNatClampNeg)) rfl rfl ly_23 rfl (gd_in b_32) rfl ?_
      obtain ⟨p_33, G_33, H⟩ := F_bd H
      refine ev_cv (d := d + 6) (As := [.int 5, .int (gE (p_24.2) 23 (l_2 : Int32).toNatClampNeg)]) (a := 62) (p' := 268) rfl rfl rfl ly_62 rfl rfl rfl rfl rfl (nb_s1 hnb rfl) rfl (F_116_ok (d := d + 5)   G_33) ?_
      refine ev_st (st' := [.int p_33.1]) rfl ?_
      have e_33 := F_116_R G_33
      obtain rfl := Option.some.inj H
      exact ev_iret rfl rfl rfl rfl
/-- GameText$Explorer.follows(III)I, from 192 -/
def J_122_192 (N : Nat) (t : Nat) (l_4 : Int32) (σ : st_S) : Option (Int32 × st_S) :=
  if aB l_4 (gN σ (t + 3)) then
  (F_116 N 12 (gE (σ) (t + 3) (l_4 : Int32).toNatClampNeg) (σ)).bind fun p_23 =>
  some (p_23.1, p_23.2)
  else none
set_option maxRecDepth 100000 in
theorem J_122_192_R {N : Nat} {t : Nat} {l_4 : Int32} {σ : st_S} {p : Int32 × st_S} (H : J_122_192 N t l_4 σ = some p) : gR p.2 = gR σ := by
  unfold J_122_192 at H
  obtain ⟨_, H⟩ := F_gd H
  obtain ⟨p_23, G_23, H⟩ := F_bd H
  obtain rfl := Option.some.inj H
  exact ((F_116_R G_23).trans rfl)
set_option maxHeartbeats 4000000 in
set_option maxRecDepth 100000 in
theorem J_122_192_ok {N d : Nat} {t : Nat} (ht : t = 4 ∨ t = 20) {l_4 : Int32} {σ : st_S} {lv : vz_L} {p : Int32 × st_S} (g_0 : vz_g lv 0 = some (.ref 62)) (g_4 : vz_g lv 4 = some (.int l_4)) (hnb : vz_nbL (vz_gr P0) lv = true) (hr_42_3 : gR σ 42 3 = t) (hr_42_4 : gR σ 42 4 = (t + 1)) (hr_62_5 : gR σ 62 5 = t) (hr_62_6 : gR σ 62 6 = (t + 1)) (H : J_122_192 N t l_4 σ = some p) : vz_ev P0 (d + 7) 122 192 lv [] (hp σ) (.inl (some (.int p.1)), hp p.2) := by
  unfold J_122_192 at H
  rcases ht with rfl | rfl
  · refine ev_x (i := .aload_n 0) (len := 1) (p' := 193) (s' := [.ref 62]) rfl rfl (ld_a g_0) ?_
    refine ev_x (i := .bipush 12) (len := 2) (p' := 195) (s' := [.int 12, .ref 62]) rfl rfl rfl ?_
    refine ev_x (i := .aload_n 0) (len := 1) (p' := 196) (s' := [.ref 62, .int 12, .ref 62]) rfl rfl (ld_a g_0) ?_
    refine ev_gr (p' := 199) (v := 5) rfl rfl rfl ly_62 rfl rfl hr_62_6 ?_
    refine ev_gc (p' := 202) (v := 7) rfl rfl rfl ly_5 rfl rfl ?_
    refine ev_x (i := .iload 4) (len := 2) (p' := 204) (s' := [.int l_4, .ref 7, .int 12, .ref 62]) rfl rfl (ld_i g_4) ?_
    obtain ⟨b_22, H⟩ := F_gd H
    refine ev_ga (p' := 205) (v := (gE (σ) 7 (l_4 : Int32).toNatClampNeg)) rfl rfl ly_7 rfl (gd_in b_22) rfl ?_
    obtain ⟨p_23, G_23, H⟩ := F_bd H
    refine ev_cv (d := d + 6) (As := [.int 12, .int (gE (σ) 7 (l_4 : Int32).toNatClampNeg)]) (a := 62) (p' := 208) rfl rfl rfl ly_62 rfl rfl rfl rfl rfl hnb rfl (F_116_ok (d := d + 5)   G_23) ?_
    refine ev_st (st' := [.int p_23.1]) rfl ?_
    have e_23 := F_116_R G_23
    obtain rfl := Option.some.inj H
    exact ev_iret rfl rfl rfl rfl
  · refine ev_x (i := .aload_n 0) (len := 1) (p' := 193) (s' := [.ref 62]) rfl rfl (ld_a g_0) ?_
    refine ev_x (i := .bipush 12) (len := 2) (p' := 195) (s' := [.int 12, .ref 62]) rfl rfl rfl ?_
    refine ev_x (i := .aload_n 0) (len := 1) (p' := 196) (s' := [.ref 62, .int 12, .ref 62]) rfl rfl (ld_a g_0) ?_
    refine ev_gr (p' := 199) (v := 21) rfl rfl rfl ly_62 rfl rfl hr_62_6 ?_
    refine ev_gc (p' := 202) (v := 23) rfl rfl rfl ly_21 rfl rfl ?_
    refine ev_x (i := .iload 4) (len := 2) (p' := 204) (s' := [.int l_4, .ref 23, .int 12, .ref 62]) rfl rfl (ld_i g_4) ?_
    obtain ⟨b_22, H⟩ := F_gd H
    refine ev_ga (p' := 205) (v := (gE (σ) 23 (l_4 : Int32).toNatClampNeg)) rfl rfl ly_23 rfl (gd_in b_22) rfl ?_
    obtain ⟨p_23, G_23, H⟩ := F_bd H
    refine ev_cv (d := d + 6) (As := [.int 12, .int (gE (σ) 23 (l_4 : Int32).toNatClampNeg)]) (a := 62) (p' := 208) rfl rfl rfl ly_62 rfl rfl rfl rfl rfl hnb rfl (F_116_ok (d := d + 5)   G_23) ?_
    refine ev_st (st' := [.int p_23.1]) rfl ?_
    have e_23 := F_116_R G_23
    obtain rfl := Option.some.inj H
    exact ev_iret rfl rfl rfl rfl
/-- GameText$Explorer.follows(III)I, its loops -/
def L_122 (N : Nat) (t : Nat) : Nat → Int32 → Int32 → Int32 → Int32 → Int32 → st_S → Option (Int32 × st_S)
  | 0, _, _, _, _, _, _ => none
  | k + 1, l_1, l_2, l_3, l_4, l_5, σ =>
      if 12 ≤ l_5 then
        J_122_236 N t l_1 l_2 l_3 (σ)
      else
        if l_4 < 0 then
          J_122_236 N t l_1 l_2 l_3 (σ)
        else
          if aB l_4 (gN σ (t + 5)) then
          (F_70 N t (gE (σ) (t + 5) (l_4 : Int32).toNatClampNeg) (σ)).bind fun p_6 =>
          if p_6.1 = 0 then
            if aB (gE (σ) (t + 5) (l_4 : Int32).toNatClampNeg) (gN p_6.2 (t + 4)) then
            if aB (gE (p_6.2) (t + 4) ((gE (σ) (t + 5) (l_4 : Int32).toNatClampNeg) : Int32).toNatClampNeg) (gN p_6.2 (t + 8)) then
            if aB l_4 (gN p_6.2 (t + 4)) then
            if aB (gE (p_6.2) (t + 4) ((gE (σ) (t + 5) (l_4 : Int32).toNatClampNeg) : Int32).toNatClampNeg) (gN p_6.2 (t + 9)) then
            if (gE (p_6.2) (t + 9) ((gE (p_6.2) (t + 4) ((gE (σ) (t + 5) (l_4 : Int32).toNatClampNeg) : Int32).toNatClampNeg) : Int32).toNatClampNeg) = 1 then
              if aB (gE (p_6.2) (t + 4) (l_4 : Int32).toNatClampNeg) (gN p_6.2 (t + 10)) then
              if (gE (p_6.2) (t + 8) ((gE (p_6.2) (t + 4) ((gE (σ) (t + 5) (l_4 : Int32).toNatClampNeg) : Int32).toNatClampNeg) : Int32).toNatClampNeg) < (gE (p_6.2) (t + 10) ((gE (p_6.2) (t + 4) (l_4 : Int32).toNatClampNeg) : Int32).toNatClampNeg) then
                J_122_192 N t l_4 (p_6.2)
              else
                if aB (gE (p_6.2) (t + 4) (l_4 : Int32).toNatClampNeg) (gN p_6.2 (t + 11)) then
                if (gE (p_6.2) (t + 8) ((gE (p_6.2) (t + 4) ((gE (σ) (t + 5) (l_4 : Int32).toNatClampNeg) : Int32).toNatClampNeg) : Int32).toNatClampNeg) ≤ (gE (p_6.2) (t + 11) ((gE (p_6.2) (t + 4) (l_4 : Int32).toNatClampNeg) : Int32).toNatClampNeg) then
                  if aB (gE (p_6.2) (t + 4) (l_4 : Int32).toNatClampNeg) (gN p_6.2 65) then
                  if aB l_4 (gN p_6.2 (t + 6)) then
                  L_122 N t k l_1 l_2 l_3 (gE (p_6.2) (t + 6) (l_4 : Int32).toNatClampNeg) (l_5 + 1) (st_e (p_6.2) 65 (((gE (p_6.2) (t + 4) (l_4 : Int32).toNatClampNeg) : Int32).toNatClampNeg) (gE (p_6.2) (t + 8) ((gE (p_6.2) (t + 4) ((gE (σ) (t + 5) (l_4 : Int32).toNatClampNeg) : Int32).toNatClampNeg) : Int32).toNatClampNeg))
                  else none
                  else none
                else
                  J_122_192 N t l_4 (p_6.2)
                else none
              else none
            else
              if aB l_4 (gN p_6.2 (t + 3)) then
              (F_116 N 8 (gE (p_6.2) (t + 3) (l_4 : Int32).toNatClampNeg) (p_6.2)).bind fun p_20 =>
              some (p_20.1, p_20.2)
              else none
            else none
            else none
            else none
            else none
          else
            (F_116 N p_6.1 (gI p_6.2 42 6) (p_6.2)).bind fun p_21 =>
            some (p_21.1, p_21.2)
          else none
set_option maxRecDepth 100000 in
theorem L_122_R {N : Nat} {t : Nat} : ∀ (k : Nat) (l_1 : Int32) (l_2 : Int32) (l_3 : Int32) (l_4 : Int32) (l_5 : Int32) (σ : st_S) (p : Int32 × st_S), L_122 N t k l_1 l_2 l_3 l_4 l_5 σ = some p → gR p.2 = gR σ := by
  intro k
  induction k with
  | zero => intro l_1 l_2 l_3 l_4 l_5 σ p H; unfold L_122 at H; cases H
  | succ k ih =>
    intro l_1 l_2 l_3 l_4 l_5 σ p H
    unfold L_122 at H
    refine F_if H (fun _ H => ?_) (fun _ H => ?_)
    · exact (((J_122_236_R H)).trans rfl)
    · refine F_if H (fun _ H => ?_) (fun _ H => ?_)
      · exact (((J_122_236_R H)).trans rfl)
      · obtain ⟨_, H⟩ := F_gd H
        obtain ⟨p_6, G_6, H⟩ := F_bd H
        refine F_if H (fun _ H => ?_) (fun _ H => ?_)
        · obtain ⟨_, H⟩ := F_gd H
          obtain ⟨_, H⟩ := F_gd H
          obtain ⟨_, H⟩ := F_gd H
          obtain ⟨_, H⟩ := F_gd H
          refine F_if H (fun _ H => ?_) (fun _ H => ?_)
          · obtain ⟨_, H⟩ := F_gd H
            refine F_if H (fun _ H => ?_) (fun _ H => ?_)
            · exact (((J_122_192_R H)).trans ((F_70_R G_6).trans rfl))
            · obtain ⟨_, H⟩ := F_gd H
              refine F_if H (fun _ H => ?_) (fun _ H => ?_)
              · obtain ⟨_, H⟩ := F_gd H
                obtain ⟨_, H⟩ := F_gd H
                exact (((ih _ _ _ _ _ _ _ H)).trans ((F_70_R G_6).trans rfl))
              · exact (((J_122_192_R H)).trans ((F_70_R G_6).trans rfl))
          · obtain ⟨_, H⟩ := F_gd H
            obtain ⟨p_20, G_20, H⟩ := F_bd H
            obtain rfl := Option.some.inj H
            exact ((F_116_R G_20).trans ((F_70_R G_6).trans rfl))
        · obtain ⟨p_21, G_21, H⟩ := F_bd H
          obtain rfl := Option.some.inj H
          exact ((F_116_R G_21).trans ((F_70_R G_6).trans rfl))
set_option maxHeartbeats 4000000 in
set_option maxRecDepth 100000 in
theorem L_122_ok {N d : Nat} {t : Nat} (ht : t = 4 ∨ t = 20) : ∀ k : Nat, ∀ (l_1 : Int32) (l_2 : Int32) (l_3 : Int32) (l_4 : Int32) (l_5 : Int32) (σ : st_S) (lv : vz_L) (p : Int32 × st_S), vz_g lv 0 = some (.ref 62) → vz_g lv 1 = some (.int l_1) → vz_g lv 2 = some (.int l_2) → vz_g lv 3 = some (.int l_3) → vz_g lv 4 = some (.int l_4) → vz_g lv 5 = some (.int l_5) → vz_nbL (vz_gr P0) lv = true → gR σ 42 3 = t → gR σ 42 4 = (t + 1) → gR σ 62 5 = t → gR σ 62 6 = (t + 1) → L_122 N t k l_1 l_2 l_3 l_4 l_5 σ = some p → vz_ev P0 (d + 7) 122 37 lv [] (hp σ) (.inl (some (.int p.1)), hp p.2) := by
  rcases ht with rfl | rfl
  · intro k
    induction k with
    | zero => intro l_1 l_2 l_3 l_4 l_5 σ lv p g_0 g_1 g_2 g_3 g_4 g_5 hnb hr_42_3 hr_42_4 hr_62_5 hr_62_6 H; unfold L_122 at H; cases H
    | succ k ih =>
      intro l_1 l_2 l_3 l_4 l_5 σ lv p g_0 g_1 g_2 g_3 g_4 g_5 hnb hr_42_3 hr_42_4 hr_62_5 hr_62_6 H
      unfold L_122 at H
      refine ev_x (i := .iload 5) (len := 2) (p' := 39) (s' := [.int l_5]) rfl rfl (ld_i g_5) ?_
      refine ev_x (i := .bipush 12) (len := 2) (p' := 41) (s' := [.int 12, .int l_5]) rfl rfl rfl ?_
      refine F_if H (fun c_3 H => ?_) (fun c_3 H => ?_)
      · refine ev_b2 (t := 236) (p' := 236) rfl rfl rfl (if_pos c_3) ?_
        exact J_122_236_ok (d := d) (Or.inl rfl) g_0 g_1 g_2 g_3 hnb hr_42_3 hr_42_4 hr_62_5 hr_62_6 H
      · refine ev_b2 (t := 236) (p' := 44) rfl rfl rfl (if_neg c_3) ?_
        refine ev_x (i := .iload 4) (len := 2) (p' := 46) (s' := [.int l_4]) rfl rfl (ld_i g_4) ?_
        refine F_if H (fun c_4 H => ?_) (fun c_4 H => ?_)
        · refine ev_b0 (t := 236) (p' := 236) rfl rfl rfl (if_pos c_4) ?_
          exact J_122_236_ok (d := d) (Or.inl rfl) g_0 g_1 g_2 g_3 hnb hr_42_3 hr_42_4 hr_62_5 hr_62_6 H
        · refine ev_b0 (t := 236) (p' := 49) rfl rfl rfl (if_neg c_4) ?_
          refine ev_x (i := .aload_n 0) (len := 1) (p' := 50) (s' := [.ref 62]) rfl rfl (ld_a g_0) ?_
          refine ev_gr (p' := 53) (v := 5) rfl rfl rfl ly_62 rfl rfl hr_62_6 ?_
          refine ev_gc (p' := 56) (v := 9) rfl rfl rfl ly_5 rfl rfl ?_
          refine ev_x (i := .iload 4) (len := 2) (p' := 58) (s' := [.int l_4, .ref 9]) rfl rfl (ld_i g_4) ?_
          obtain ⟨b_5, H⟩ := F_gd H
          refine ev_ga (p' := 59) (v := (gE (σ) 9 (l_4 : Int32).toNatClampNeg)) rfl rfl ly_9 rfl (gd_in b_5) rfl ?_
          refine ev_x (i := .istore 6) (len := 2) (p' := 61) (s' := []) (l' := vz_s1 (lv) 6 (.int (gE (σ) 9 (l_4 : Int32).toNatClampNeg))) rfl rfl rfl ?_
          refine ev_x (i := .aload_n 0) (len := 1) (p' := 62) (s' := [.ref 62]) rfl rfl (ld_a (vg_o (i := 6) (v := .int (gE (σ) 9 (l_4 : Int32).toNatClampNeg)) g_0 (by decide) (Or.inl rfl))) ?_
          refine ev_gc (p' := 65) (v := 42) rfl rfl rfl ly_62 rfl rfl ?_
          refine ev_x (i := .iload 6) (len := 2) (p' := 67) (s' := [.int (gE (σ) 9 (l_4 : Int32).toNatClampNeg), .ref 42]) rfl rfl (ld_i (vg_s (lv) 6 (.int (gE (σ) 9 (l_4 : Int32).toNatClampNeg)))) ?_
          obtain ⟨p_6, G_6, H⟩ := F_bd H
          refine ev_cv (d := d + 6) (As := [.int (gE (σ) 9 (l_4 : Int32).toNatClampNeg)]) (a := 42) (p' := 70) rfl rfl rfl ly_42 rfl rfl rfl rfl rfl (nb_s1 hnb rfl) rfl (F_70_ok (d := d + 3) (ht := (Or.inl rfl)) (hr_42_3 := hr_42_3) (hr_42_4 := hr_42_4) G_6) ?_
          refine ev_st (st' := [.int p_6.1]) rfl ?_
          have e_6 := F_70_R G_6
          refine ev_x (i := .istore 7) (len := 2) (p' := 72) (s' := []) (l' := vz_s1 (vz_s1 (lv) 6 (.int (gE (σ) 9 (l_4 : Int32).toNatClampNeg))) 7 (.int p_6.1)) rfl rfl rfl ?_
          refine ev_x (i := .iload 7) (len := 2) (p' := 74) (s' := [.int p_6.1]) rfl rfl (ld_i (vg_s (vz_s1 (lv) 6 (.int (gE (σ) 9 (l_4 : Int32).toNatClampNeg))) 7 (.int p_6.1))) ?_
          refine F_if H (fun c_7 H => ?_) (fun c_7 H => ?_)
          · refine ev_b0 (t := 91) (p' := 91) rfl rfl rfl (if_pos c_7) ?_
            refine ev_x (i := .aload_n 0) (len := 1) (p' := 92) (s' := [.ref 62]) rfl rfl (ld_a (vg_o (i := 7) (v := .int p_6.1) (vg_o (i := 6) (v := .int (gE (σ) 9 (l_4 : Int32).toNatClampNeg)) g_0 (by decide) (Or.inl rfl)) (by decide) (Or.inl rfl))) ?_
            refine ev_gr (p' := 95) (v := 5) rfl rfl rfl ly_62 rfl rfl ((congrFun (congrFun e_6 62) 6).trans hr_62_6) ?_
            refine ev_gc (p' := 98) (v := 12) rfl rfl rfl ly_5 rfl rfl ?_
            refine ev_x (i := .aload_n 0) (len := 1) (p' := 99) (s' := [.ref 62, .ref 12]) rfl rfl (ld_a (vg_o (i := 7) (v := .int p_6.1) (vg_o (i := 6) (v := .int (gE (σ) 9 (l_4 : Int32).toNatClampNeg)) g_0 (by decide) (Or.inl rfl)) (by decide) (Or.inl rfl))) ?_
            refine ev_gr (p' := 102) (v := 5) rfl rfl rfl ly_62 rfl rfl ((congrFun (congrFun e_6 62) 6).trans hr_62_6) ?_
            refine ev_gc (p' := 105) (v := 8) rfl rfl rfl ly_5 rfl rfl ?_
            refine ev_x (i := .iload 6) (len := 2) (p' := 107) (s' := [.int (gE (σ) 9 (l_4 : Int32).toNatClampNeg), .ref 8, .ref 12]) rfl rfl (ld_i (vg_o (i := 7) (v := .int p_6.1) (vg_s (lv) 6 (.int (gE (σ) 9 (l_4 : Int32).toNatClampNeg))) (by decide) (Or.inl rfl))) ?_
            obtain ⟨b_8, H⟩ := F_gd H
            refine ev_ga (p' := 108) (v := (gE (p_6.2) 8 ((gE (σ) 9 (l_4 : Int32).toNatClampNeg) : Int32).toNatClampNeg)) rfl rfl ly_8 rfl (gd_in b_8) rfl ?_
            obtain ⟨b_9, H⟩ := F_gd H
            refine ev_ga (p' := 109) (v := (gE (p_6.2) 12 ((gE (p_6.2) 8 ((gE (σ) 9 (l_4 : Int32).toNatClampNeg) : Int32).toNatClampNeg) : Int32).toNatClampNeg)) rfl rfl ly_12 rfl (gd_in b_9) rfl ?_
            refine ev_x (i := .istore 8) (len := 2) (p' := 111) (s' := []) (l' := vz_s1 (vz_s1 (vz_s1 (lv) 6 (.int (gE (σ) 9 (l_4 : Int32).toNatClampNeg))) 7 (.int p_6.1)) 8 (.int (gE (p_6.2) 12 ((gE (p_6.2) 8 ((gE (σ) 9 (l_4 : Int32).toNatClampNeg) : Int32).toNatClampNeg) : Int32).toNatClampNeg))) rfl rfl rfl ?_
            refine ev_x (i := .aload_n 0) (len := 1) (p' := 112) (s' := [.ref 62]) rfl rfl (ld_a (vg_o (i := 8) (v := .int (gE (p_6.2) 12 ((gE (p_6.2) 8 ((gE (σ) 9 (l_4 : Int32).toNatClampNeg) : Int32).toNatClampNeg) : Int32).toNatClampNeg)) (vg_o (i := 7) (v := .int p_6.1) (vg_o (i := 6) (v := .int (gE (σ) 9 (l_4 : Int32).toNatClampNeg)) g_0 (by decide) (Or.inl rfl)) (by decide) (Or.inl rfl)) (by decide) (Or.inl rfl))) ?_
            refine ev_gr (p' := 115) (v := 5) rfl rfl rfl ly_62 rfl rfl ((congrFun (congrFun e_6 62) 6).trans hr_62_6) ?_
            refine ev_gc (p' := 118) (v := 8) rfl rfl rfl ly_5 rfl rfl ?_
            refine ev_x (i := .iload 4) (len := 2) (p' := 120) (s' := [.int l_4, .ref 8]) rfl rfl (ld_i (vg_o (i := 8) (v := .int (gE (p_6.2) 12 ((gE (p_6.2) 8 ((gE (σ) 9 (l_4 : Int32).toNatClampNeg) : Int32).toNatClampNeg) : Int32).toNatClampNeg)) (vg_o (i := 7) (v := .int p_6.1) (vg_o (i := 6) (v := .int (gE (σ) 9 (l_4 : Int32).toNatClampNeg)) g_4 (by decide) (Or.inl rfl)) (by decide) (Or.inl rfl)) (by decide) (Or.inl rfl))) ?_
            obtain ⟨b_10, H⟩ := F_gd H
            refine ev_ga (p' := 121) (v := (gE (p_6.2) 8 (l_4 : Int32).toNatClampNeg)) rfl rfl ly_8 rfl (gd_in b_10) rfl ?_
            refine ev_x (i := .istore 9) (len := 2) (p' := 123) (s' := []) (l' := vz_s1 (vz_s1 (vz_s1 (vz_s1 (lv) 6 (.int (gE (σ) 9 (l_4 : Int32).toNatClampNeg))) 7 (.int p_6.1)) 8 (.int (gE (p_6.2) 12 ((gE (p_6.2) 8 ((gE (σ) 9 (l_4 : Int32).toNatClampNeg) : Int32).toNatClampNeg) : Int32).toNatClampNeg))) 9 (.int (gE (p_6.2) 8 (l_4 : Int32).toNatClampNeg))) rfl rfl rfl ?_
            refine ev_x (i := .aload_n 0) (len := 1) (p' := 124) (s' := [.ref 62]) rfl rfl (ld_a (vg_o (i := 9) (v := .int (gE (p_6.2) 8 (l_4 : Int32).toNatClampNeg)) (vg_o (i := 8) (v := .int (gE (p_6.2) 12 ((gE (p_6.2) 8 ((gE (σ) 9 (l_4 : Int32).toNatClampNeg) : Int32).toNatClampNeg) : Int32).toNatClampNeg)) (vg_o (i := 7) (v := .int p_6.1) (vg_o (i := 6) (v := .int (gE (σ) 9 (l_4 : Int32).toNatClampNeg)) g_0 (by decide) (Or.inl rfl)) (by decide) (Or.inl rfl)) (by decide) (Or.inl rfl)) (by decide) (Or.inl rfl))) ?_
            refine ev_gr (p' := 127) (v := 5) rfl rfl rfl ly_62 rfl rfl ((congrFun (congrFun e_6 62) 6).trans hr_62_6) ?_
            refine ev_gc (p' := 130) (v := 13) rfl rfl rfl ly_5 rfl rfl ?_
            refine ev_x (i := .aload_n 0) (len := 1) (p' := 131) (s' := [.ref 62, .ref 13]) rfl rfl (ld_a (vg_o (i := 9) (v := .int (gE (p_6.2) 8 (l_4 : Int32).toNatClampNeg)) (vg_o (i := 8) (v := .int (gE (p_6.2) 12 ((gE (p_6.2) 8 ((gE (σ) 9 (l_4 : Int32).toNatClampNeg) : Int32).toNatClampNeg) : Int32).toNatClampNeg)) (vg_o (i := 7) (v := .int p_6.1) (vg_o (i := 6) (v := .int (gE (σ) 9 (l_4 : Int32).toNatClampNeg)) g_0 (by decide) (Or.inl rfl)) (by decide) (Or.inl rfl)) (by decide) (Or.inl rfl)) (by decide) (Or.inl rfl))) ?_
            refine ev_gr (p' := 134) (v := 5) rfl rfl rfl ly_62 rfl rfl ((congrFun (congrFun e_6 62) 6).trans hr_62_6) ?_
            refine ev_gc (p' := 137) (v := 8) rfl rfl rfl ly_5 rfl rfl ?_
            refine ev_x (i := .iload 6) (len := 2) (p' := 139) (s' := [.int (gE (σ) 9 (l_4 : Int32).toNatClampNeg), .ref 8, .ref 13]) rfl rfl (ld_i (vg_o (i := 9) (v := .int (gE (p_6.2) 8 (l_4 : Int32).toNatClampNeg)) (vg_o (i := 8) (v := .int (gE (p_6.2) 12 ((gE (p_6.2) 8 ((gE (σ) 9 (l_4 : Int32).toNatClampNeg) : Int32).toNatClampNeg) : Int32).toNatClampNeg)) (vg_o (i := 7) (v := .int p_6.1) (vg_s (lv) 6 (.int (gE (σ) 9 (l_4 : Int32).toNatClampNeg))) (by decide) (Or.inl rfl)) (by decide) (Or.inl rfl)) (by decide) (Or.inl rfl))) ?_
            refine ev_ga (p' := 140) (v := (gE (p_6.2) 8 ((gE (σ) 9 (l_4 : Int32).toNatClampNeg) : Int32).toNatClampNeg)) rfl rfl ly_8 rfl (gd_in b_8) rfl ?_
            obtain ⟨b_11, H⟩ := F_gd H
            refine ev_ga (p' := 141) (v := (gE (p_6.2) 13 ((gE (p_6.2) 8 ((gE (σ) 9 (l_4 : Int32).toNatClampNeg) : Int32).toNatClampNeg) : Int32).toNatClampNeg)) rfl rfl ly_13 rfl (gd_in b_11) rfl ?_
            refine ev_x (i := .iconst 1) (len := 1) (p' := 142) (s' := [.int 1, .int (gE (p_6.2) 13 ((gE (p_6.2) 8 ((gE (σ) 9 (l_4 : Int32).toNatClampNeg) : Int32).toNatClampNeg) : Int32).toNatClampNeg)]) rfl rfl rfl ?_
            refine F_if H (fun c_12 H => ?_) (fun c_12 H => ?_)
            · refine ev_b2 (t := 162) (p' := 162) rfl rfl rfl (if_pos c_12) ?_
              refine ev_x (i := .iload 8) (len := 2) (p' := 164) (s' := [.int (gE (p_6.2) 12 ((gE (p_6.2) 8 ((gE (σ) 9 (l_4 : Int32).toNatClampNeg) : Int32).toNatClampNeg) : Int32).toNatClampNeg)]) rfl rfl (ld_i (vg_o (i := 9) (v := .int (gE (p_6.2) 8 (l_4 : Int32).toNatClampNeg)) (vg_s (vz_s1 (vz_s1 (lv) 6 (.int (gE (σ) 9 (l_4 : Int32).toNatClampNeg))) 7 (.int p_6.1)) 8 (.int (gE (p_6.2) 12 ((gE (p_6.2) 8 ((gE (σ) 9 (l_4 : Int32).toNatClampNeg) : Int32).toNatClampNeg) : Int32).toNatClampNeg))) (by decide) (Or.inl rfl))) ?_
              refine ev_x (i := .aload_n 0) (len := 1) (p' := 165) (s' := [.ref 62, .int (gE (p_6.2) 12 ((gE (p_6.2) 8 ((gE (σ) 9 (l_4 : Int32).toNatClampNeg) : Int32).toNatClampNeg) : Int32).toNatClampNeg)]) rfl rfl (ld_a (vg_o (i := 9) (v := .int (gE (p_6.2) 8 (l_4 : Int32).toNatClampNeg)) (vg_o (i := 8) (v := .int (gE (p_6.2) 12 ((gE (p_6.2) 8 ((gE (σ) 9 (l_4 : Int32).toNatClampNeg) : Int32).toNatClampNeg) : Int32).toNatClampNeg)) (vg_o (i := 7) (v := .int p_6.1) (vg_o (i := 6) (v := .int (gE (σ) 9 (l_4 : Int32).toNatClampNeg)) g_0 (by decide) (Or.inl rfl)) (by decide) (Or.inl rfl)) (by decide) (Or.inl rfl)) (by decide) (Or.inl rfl))) ?_
              refine ev_gr (p' := 168) (v := 4) rfl rfl rfl ly_62 rfl rfl ((congrFun (congrFun e_6 62) 5).trans hr_62_5) ?_
              refine ev_gc (p' := 171) (v := 14) rfl rfl rfl ly_4 rfl rfl ?_
              refine ev_x (i := .iload 9) (len := 2) (p' := 173) (s' := [.int (gE (p_6.2) 8 (l_4 : Int32).toNatClampNeg), .ref 14, .int (gE (p_6.2) 12 ((gE (p_6.2) 8 ((gE (σ) 9 (l_4 : Int32).toNatClampNeg) : Int32).toNatClampNeg) : Int32).toNatClampNeg)]) rfl rfl (ld_i (vg_s (vz_s1 (vz_s1 (vz_s1 (lv) 6 (.int (gE (σ) 9 (l_4 : Int32).toNatClampNeg))) 7 (.int p_6.1)) 8 (.int (gE (p_6.2) 12 ((gE (p_6.2) 8 ((gE (σ) 9 (l_4 : Int32).toNatClampNeg) : Int32).toNatClampNeg) : Int32).toNatClampNeg))) 9 (.int (gE (p_6.2) 8 (l_4 : Int32).toNatClampNeg)))) ?_
              obtain ⟨b_13, H⟩ := F_gd H
              refine ev_ga (p' := 174) (v := (gE (p_6.2) 14 ((gE (p_6.2) 8 (l_4 : Int32).toNatClampNeg) : Int32).toNatClampNeg)) rfl rfl ly_14 rfl (gd_in b_13) rfl ?_
              refine F_if H (fun c_14 H => ?_) (fun c_14 H => ?_)
              · refine ev_b2 (t := 192) (p' := 192) rfl rfl rfl (if_pos c_14) ?_
                exact J_122_192_ok (d := d) (Or.inl rfl) (vg_o (i := 9) (v := .int (gE (p_6.2) 8 (l_4 : Int32).toNatClampNeg)) (vg_o (i := 8) (v := .int (gE (p_6.2) 12 ((gE (p_6.2) 8 ((gE (σ) 9 (l_4 : Int32).toNatClampNeg) : Int32).toNatClampNeg) : Int32).toNatClampNeg)) (vg_o (i := 7) (v := .int p_6.1) (vg_o (i := 6) (v := .int (gE (σ) 9 (l_4 : Int32).toNatClampNeg)) g_0 (by decide) (Or.inl rfl)) (by decide) (Or.inl rfl)) (by decide) (Or.inl rfl)) (by decide) (Or.inl rfl)) (vg_o (i := 9) (v := .int (gE (p_6.2) 8 (l_4 : Int32).toNatClampNeg)) (vg_o (i := 8) (v := .int (gE (p_6.2) 12 ((gE (p_6.2) 8 ((gE (σ) 9 (l_4 : Int32).toNatClampNeg) : Int32).toNatClampNeg) : Int32).toNatClampNeg)) (vg_o (i := 7) (v := .int p_6.1) (vg_o (i := 6) (v := .int (gE (σ) 9 (l_4 : Int32).toNatClampNeg)) g_4 (by decide) (Or.inl rfl)) (by decide) (Or.inl rfl)) (by decide) (Or.inl rfl)) (by decide) (Or.inl rfl)) (nb_s1 (nb_s1 (nb_s1 (nb_s1 hnb rfl) rfl) rfl) rfl) ((congrFun (congrFun e_6 42) 3).trans hr_42_3) ((congrFun (congrFun e_6 42) 4).trans hr_42_4) ((congrFun (congrFun e_6 62) 5).trans hr_62_5) ((congrFun (congrFun e_6 62) 6).trans hr_62_6) H
              · refine ev_b2 (t := 192) (p' := 177) rfl rfl rfl (if_neg c_14) ?_
                refine ev_x (i := .iload 8) (len := 2) (p' := 179) (s' := [.int (gE (p_6.2) 12 ((gE (p_6.2) 8 ((gE (σ) 9 (l_4 : Int32).toNatClampNeg) : Int32).toNatClampNeg) : Int32).toNatClampNeg)]) rfl rfl (ld_i (vg_o (i := 9) (v := .int (gE (p_6.2) 8 (l_4 : Int32).toNatClampNeg)) (vg_s (vz_s1 (vz_s1 (lv) 6 (.int (gE (σ) 9 (l_4 : Int32).toNatClampNeg))) 7 (.int p_6.1)) 8 (.int (gE (p_6.2) 12 ((gE (p_6.2) 8 ((gE (σ) 9 (l_4 : Int32).toNatClampNeg) : Int32).toNatClampNeg) : Int32).toNatClampNeg))) (by decide) (Or.inl rfl))) ?_
                refine ev_x (i := .aload_n 0) (len := 1) (p' := 180) (s' := [.ref 62, .int (gE (p_6.2) 12 ((gE (p_6.2) 8 ((gE (σ) 9 (l_4 : Int32).toNatClampNeg) : Int32).toNatClampNeg) : Int32).toNatClampNeg)]) rfl rfl (ld_a (vg_o (i := 9) (v := .int (gE (p_6.2) 8 (l_4 : Int32).toNatClampNeg)) (vg_o (i := 8) (v := .int (gE (p_6.2) 12 ((gE (p_6.2) 8 ((gE (σ) 9 (l_4 : Int32).toNatClampNeg) : Int32).toNatClampNeg) : Int32).toNatClampNeg)) (vg_o (i := 7) (v := .int p_6.1) (vg_o (i := 6) (v := .int (gE (σ) 9 (l_4 : Int32).toNatClampNeg)) g_0 (by decide) (Or.inl rfl)) (by decide) (Or.inl rfl)) (by decide) (Or.inl rfl)) (by decide) (Or.inl rfl))) ?_
                refine ev_gr (p' := 183) (v := 4) rfl rfl rfl ly_62 rfl rfl ((congrFun (congrFun e_6 62) 5).trans hr_62_5) ?_
                refine ev_gc (p' := 186) (v := 15) rfl rfl rfl ly_4 rfl rfl ?_
                refine ev_x (i := .iload 9) (len := 2) (p' := 188) (s' := [.int (gE (p_6.2) 8 (l_4 : Int32).toNatClampNeg), .ref 15, .int (gE (p_6.2) 12 ((gE (p_6.2) 8 ((gE (σ) 9 (l_4 : Int32).toNatClampNeg) : Int32).toNatClampNeg) : Int32).toNatClampNeg)]) rfl rfl (ld_i (vg_s (vz_s1 (vz_s1 (vz_s1 (lv) 6 (.int (gE (σ) 9 (l_4 : Int32).toNatClampNeg))) 7 (.int p_6.1)) 8 (.int (gE (p_6.2) 12 ((gE (p_6.2) 8 ((gE (σ) 9 (l_4 : Int32).toNatClampNeg) : Int32).toNatClampNeg) : Int32).toNatClampNeg))) 9 (.int (gE (p_6.2) 8 (l_4 : Int32).toNatClampNeg)))) ?_
                obtain ⟨b_15, H⟩ := F_gd H
                refine ev_ga (p' := 189) (v := (gE (p_6.2) 15 ((gE (p_6.2) 8 (l_4 : Int32).toNatClampNeg) : Int32).toNatClampNeg)) rfl rfl ly_15 rfl (gd_in b_15) rfl ?_
                refine F_if H (fun c_16 H => ?_) (fun c_16 H => ?_)
                · refine ev_b2 (t := 209) (p' := 209) rfl rfl rfl (if_pos c_16) ?_
                  refine ev_x (i := .aload_n 0) (len := 1) (p' := 210) (s' := [.ref 62]) rfl rfl (ld_a (vg_o (i := 9) (v := .int (gE (p_6.2) 8 (l_4 : Int32).toNatClampNeg)) (vg_o (i := 8) (v := .int (gE (p_6.2) 12 ((gE (p_6.2) 8 ((gE (σ) 9 (l_4 : Int32).toNatClampNeg) : Int32).toNatClampNeg) : Int32).toNatClampNeg)) (vg_o (i := 7) (v := .int p_6.1) (vg_o (i := 6) (v := .int (gE (σ) 9 (l_4 : Int32).toNatClampNeg)) g_0 (by decide) (Or.inl rfl)) (by decide) (Or.inl rfl)) (by decide) (Or.inl rfl)) (by decide) (Or.inl rfl))) ?_
                  refine ev_gc (p' := 213) (v := 65) rfl rfl rfl ly_62 rfl rfl ?_
                  refine ev_x (i := .iload 9) (len := 2) (p' := 215) (s' := [.int (gE (p_6.2) 8 (l_4 : Int32).toNatClampNeg), .ref 65]) rfl rfl (ld_i (vg_s (vz_s1 (vz_s1 (vz_s1 (lv) 6 (.int (gE (σ) 9 (l_4 : Int32).toNatClampNeg))) 7 (.int p_6.1)) 8 (.int (gE (p_6.2) 12 ((gE (p_6.2) 8 ((gE (σ) 9 (l_4 : Int32).toNatClampNeg) : Int32).toNatClampNeg) : Int32).toNatClampNeg))) 9 (.int (gE (p_6.2) 8 (l_4 : Int32).toNatClampNeg)))) ?_
                  refine ev_x (i := .iload 8) (len := 2) (p' := 217) (s' := [.int (gE (p_6.2) 12 ((gE (p_6.2) 8 ((gE (σ) 9 (l_4 : Int32).toNatClampNeg) : Int32).toNatClampNeg) : Int32).toNatClampNeg), .int (gE (p_6.2) 8 (l_4 : Int32).toNatClampNeg), .ref 65]) rfl rfl (ld_i (vg_o (i := 9) (v := .int (gE (p_6.2) 8 (l_4 : Int32).toNatClampNeg)) (vg_s (vz_s1 (vz_s1 (lv) 6 (.int (gE (σ) 9 (l_4 : Int32).toNatClampNeg))) 7 (.int p_6.1)) 8 (.int (gE (p_6.2) 12 ((gE (p_6.2) 8 ((gE (σ) 9 (l_4 : Int32).toNatClampNeg) : Int32).toNatClampNeg) : Int32).toNatClampNeg))) (by decide) (Or.inl rfl))) ?_
                  obtain ⟨b_17, H⟩ := F_gd H
                  refine ev_pa (j := ((gE (p_6.2) 8 (l_4 : Int32).toNatClampNeg) : Int32).toNatClampNeg) (p' := 218) rfl rfl ly_65 rfl (gd_in b_17) rfl ?_
                  refine ev_x (i := .aload_n 0) (len := 1) (p' := 219) (s' := [.ref 62]) rfl rfl (ld_a (vg_o (i := 9) (v := .int (gE (p_6.2) 8 (l_4 : Int32).toNatClampNeg)) (vg_o (i := 8) (v := .int (gE (p_6.2) 12 ((gE (p_6.2) 8 ((gE (σ) 9 (l_4 : Int32).toNatClampNeg) : Int32).toNatClampNeg) : Int32).toNatClampNeg)) (vg_o (i := 7) (v := .int p_6.1) (vg_o (i := 6) (v := .int (gE (σ) 9 (l_4 : Int32).toNatClampNeg)) g_0 (by decide) (Or.inl rfl)) (by decide) (Or.inl rfl)) (by decide) (Or.inl rfl)) (by decide) (Or.inl rfl))) ?_
                  refine ev_gr (p' := 222) (v := 5) rfl rfl rfl ly_62 rfl rfl ((congrFun (congrFun e_6 62) 6).trans hr_62_6) ?_
                  refine ev_gc (p' := 225) (v := 10) rfl rfl rfl ly_5 rfl rfl ?_
                  refine ev_x (i := .iload 4) (len := 2) (p' := 227) (s' := [.int l_4, .ref 10]) rfl rfl (ld_i (vg_o (i := 9) (v := .int (gE (p_6.2) 8 (l_4 : Int32).toNatClampNeg)) (vg_o (i := 8) (v := .int (gE (p_6.2) 12 ((gE (p_6.2) 8 ((gE (σ) 9 (l_4 : Int32).toNatClampNeg) : Int32).toNatClampNeg) : Int32).toNatClampNeg)) (vg_o (i := 7) (v := .int p_6.1) (vg_o (i := 6) (v := .int (gE (σ) 9 (l_4 : Int32).toNatClampNeg)) g_4 (by decide) (Or.inl rfl)) (by decide) (Or.inl rfl)) (by decide) (Or.inl rfl)) (by decide) (Or.inl rfl))) ?_
                  obtain ⟨b_18, H⟩ := F_gd H
                  refine ev_ga (p' := 228) (v := (gE (p_6.2) 10 (l_4 : Int32).toNatClampNeg)) rfl rfl ly_10 rfl (gd_in b_18) rfl ?_
                  refine ev_x (i := .istore 4) (len := 2) (p' := 230) (s' := []) (l' := vz_s1 (vz_s1 (vz_s1 (vz_s1 (vz_s1 (lv) 6 (.int (gE (σ) 9 (l_4 : Int32).toNatClampNeg))) 7 (.int p_6.1)) 8 (.int (gE (p_6.2) 12 ((gE (p_6.2) 8 ((gE (σ) 9 (l_4 : Int32).toNatClampNeg) : Int32).toNatClampNeg) : Int32).toNatClampNeg))) 9 (.int (gE (p_6.2) 8 (l_4 : Int32).toNatClampNeg))) 4 (.int (gE (p_6.2) 10 (l_4 : Int32).toNatClampNeg))) rfl rfl rfl ?_
                  refine ev_x (i := .iinc 5 1) (len := 3) (p' := 233) (s' := []) (l' := vz_s1 (vz_s1 (vz_s1 (vz_s1 (vz_s1 (vz_s1 (lv) 6 (.int (gE (σ) 9 (l_4 : Int32).toNatClampNeg))) 7 (.int p_6.1)) 8 (.int (gE (p_6.2) 12 ((gE (p_6.2) 8 ((gE (σ) 9 (l_4 : Int32).toNatClampNeg) : Int32).toNatClampNeg) : Int32).toNatClampNeg))) 9 (.int (gE (p_6.2) 8 (l_4 : Int32).toNatClampNeg))) 4 (.int (gE (p_6.2) 10 (l_4 : Int32).toNatClampNeg))) 5 (.int (l_5 + 1))) rfl rfl (ld_inc (vg_o (i := 4) (v := .int (gE (p_6.2) 10 (l_4 : Int32).toNatClampNeg)) (vg_o (i := 9) (v := .int (gE (p_6.2) 8 (l_4 : Int32).toNatClampNeg)) (vg_o (i := 8) (v := .int (gE (p_6.2) 12 ((gE (p_6.2) 8 ((gE (σ) 9 (l_4 : Int32).toNatClampNeg) : Int32).toNatClampNeg) : Int32).toNatClampNeg)) (vg_o (i := 7) (v := .int p_6.1) (vg_o (i := 6) (v := .int (gE (σ) 9 (l_4 : Int32).toNatClampNeg)) g_5 (by decide) (Or.inl rfl)) (by decide) (Or.inl rfl)) (by decide) (Or.inl rfl)) (by decide) (Or.inl rfl)) (by decide) (Or.inl rfl)) rfl) ?_
                  refine ev_x (i := .goto (-196)) (len := 3) (p' := 37) (s' := []) rfl rfl rfl ?_
                  exact ih _ _ _ _ _ _ _ _ (vg_o (i := 5) (v := .int (l_5 + 1)) (vg_o (i := 4) (v := .int (gE (p_6.2) 10 (l_4 : Int32).toNatClampNeg)) (vg_o (i := 9) (v := .int (gE (p_6.2) 8 (l_4 : Int32).toNatClampNeg)) (vg_o (i := 8) (v := .int (gE (p_6.2) 12 ((gE (p_6.2) 8 ((gE (σ) 9 (l_4 : Int32).toNatClampNeg) : Int32).toNatClampNeg) : Int32).toNatClampNeg)) (vg_o (i := 7) (v := .int p_6.1) (vg_o (i := 6) (v := .int (gE (σ) 9 (l_4 : Int32).toNatClampNeg)) g_0 (by decide) (Or.inl rfl)) (by decide) (Or.inl rfl)) (by decide) (Or.inl rfl)) (by decide) (Or.inl rfl)) (by decide) (Or.inl rfl)) (by decide) (Or.inl rfl)) (vg_o (i := 5) (v := .int (l_5 + 1)) (vg_o (i := 4) (v := .int (gE (p_6.2) 10 (l_4 : Int32).toNatClampNeg)) (vg_o (i := 9) (v := .int (gE (p_6.2) 8 (l_4 : Int32).toNatClampNeg)) (vg_o (i := 8) (v := .int (gE (p_6.2) 12 ((gE (p_6.2) 8 ((gE (σ) 9 (l_4 : Int32).toNatClampNeg) : Int32).toNatClampNeg) : Int32).toNatClampNeg)) (vg_o (i := 7) (v := .int p_6.1) (vg_o (i := 6) (v := .int (gE (σ) 9 (l_4 : Int32).toNatClampNeg)) g_1 (by decide) (Or.inl rfl)) (by decide) (Or.inl rfl)) (by decide) (Or.inl rfl)) (by decide) (Or.inl rfl)) (by decide) (Or.inl rfl)) (by decide) (Or.inl rfl)) (vg_o (i := 5) (v := .int (l_5 + 1)) (vg_o (i := 4) (v := .int (gE (p_6.2) 10 (l_4 : Int32).toNatClampNeg)) (vg_o (i := 9) (v := .int (gE (p_6.2) 8 (l_4 : Int32).toNatClampNeg)) (vg_o (i := 8) (v := .int (gE (p_6.2) 12 ((gE (p_6.2) 8 ((gE (σ) 9 (l_4 : Int32).toNatClampNeg) : Int32).toNatClampNeg) : Int32).toNatClampNeg)) (vg_o (i := 7) (v := .int p_6.1) (vg_o (i := 6) (v := .int (gE (σ) 9 (l_4 : Int32).toNatClampNeg)) g_2 (by decide) (Or.inl rfl)) (by decide) (Or.inl rfl)) (by decide) (Or.inl rfl)) (by decide) (Or.inl rfl)) (by decide) (Or.inl rfl)) (by decide) (Or.inl rfl)) (vg_o (i := 5) (v := .int (l_5 + 1)) (vg_o (i := 4) (v := .int (gE (p_6.2) 10 (l_4 : Int32).toNatClampNeg)) (vg_o (i := 9) (v := .int (gE (p_6.2) 8 (l_4 : Int32).toNatClampNeg)) (vg_o (i := 8) (v := .int (gE (p_6.2) 12 ((gE (p_6.2) 8 ((gE (σ) 9 (l_4 : Int32).toNatClampNeg) : Int32).toNatClampNeg) : Int32).toNatClampNeg)) (vg_o (i := 7) (v := .int p_6.1) (vg_o (i := 6) (v := .int (gE (σ) 9 (l_4 : Int32).toNatClampNeg)) g_3 (by decide) (Or.inl rfl)) (by decide) (Or.inl rfl)) (by decide) (Or.inl rfl)) (by decide) (Or.inl rfl)) (by decide) (Or.inl rfl)) (by decide) (Or.inl rfl)) (vg_o (i := 5) (v := .int (l_5 + 1)) (vg_s (vz_s1 (vz_s1 (vz_s1 (vz_s1 (lv) 6 (.int (gE (σ) 9 (l_4 : Int32).toNatClampNeg))) 7 (.int p_6.1)) 8 (.int (gE (p_6.2) 12 ((gE (p_6.2) 8 ((gE (σ) 9 (l_4 : Int32).toNatClampNeg) : Int32).toNatClampNeg) : Int32).toNatClampNeg))) 9 (.int (gE (p_6.2) 8 (l_4 : Int32).toNatClampNeg))) 4 (.int (gE (p_6.2) 10 (l_4 : Int32).toNatClampNeg))) (by decide) (Or.inl rfl)) (vg_s (vz_s1 (vz_s1 (vz_s1 (vz_s1 (vz_s1 (lv) 6 (.int (gE (σ) 9 (l_4 : Int32).toNatClampNeg))) 7 (.int p_6.1)) 8 (.int (gE (p_6.2) 12 ((gE (p_6.2) 8 ((gE (σ) 9 (l_4 : Int32).toNatClampNeg) : Int32).toNatClampNeg) : Int32).toNatClampNeg))) 9 (.int (gE (p_6.2) 8 (l_4 : Int32).toNatClampNeg))) 4 (.int (gE (p_6.2) 10 (l_4 : Int32).toNatClampNeg))) 5 (.int (l_5 + 1))) (nb_s1 (nb_s1 (nb_s1 (nb_s1 (nb_s1 (nb_s1 hnb rfl) rfl) rfl) rfl) rfl) rfl) ((congrFun (congrFun e_6 42) 3).trans hr_42_3) ((congrFun (congrFun e_6 42) 4).trans hr_42_4) ((congrFun (congrFun e_6 62) 5).trans hr_62_5) ((congrFun (congrFun e_6 62) 6).trans hr_62_6) H
                · refine ev_b2 (t := 209) (p' := 192) rfl rfl rfl (if_neg c_16) ?_
                  exact J_122_192_ok (d := d) (Or.inl rfl) (vg_o (i := 9) (v := .int (gE (p_6.2) 8 (l_4 : Int32).toNatClampNeg)) (vg_o (i := 8) (v := .int (gE (p_6.2) 12 ((gE (p_6.2) 8 ((gE (σ) 9 (l_4 : Int32).toNatClampNeg) : Int32).toNatClampNeg) : Int32).toNatClampNeg)) (vg_o (i := 7) (v := .int p_6.1) (vg_o (i := 6) (v := .int (gE (σ) 9 (l_4 : Int32).toNatClampNeg)) g_0 (by decide) (Or.inl rfl)) (by decide) (Or.inl rfl)) (by decide) (Or.inl rfl)) (by decide) (Or.inl rfl)) (vg_o (i := 9) (v := .int (gE (p_6.2) 8 (l_4 : Int32).toNatClampNeg)) (vg_o (i := 8) (v := .int (gE (p_6.2) 12 ((gE (p_6.2) 8 ((gE (σ) 9 (l_4 : Int32).toNatClampNeg) : Int32).toNatClampNeg) : Int32).toNatClampNeg)) (vg_o (i := 7) (v := .int p_6.1) (vg_o (i := 6) (v := .int (gE (σ) 9 (l_4 : Int32).toNatClampNeg)) g_4 (by decide) (Or.inl rfl)) (by decide) (Or.inl rfl)) (by decide) (Or.inl rfl)) (by decide) (Or.inl rfl)) (nb_s1 (nb_s1 (nb_s1 (nb_s1 hnb rfl) rfl) rfl) rfl) ((congrFun (congrFun e_6 42) 3).trans hr_42_3) ((congrFun (congrFun e_6 42) 4).trans hr_42_4) ((congrFun (congrFun e_6 62) 5).trans hr_62_5) ((congrFun (congrFun e_6 62) 6).trans hr_62_6) H
            · refine ev_b2 (t := 162) (p' := 145) rfl rfl rfl (if_neg c_12) ?_
              refine ev_x (i := .aload_n 0) (len := 1) (p' := 146) (s' := [.ref 62]) rfl rfl (ld_a (vg_o (i := 9) (v := .int (gE (p_6.2) 8 (l_4 : Int32).toNatClampNeg)) (vg_o (i := 8) (v := .int (gE (p_6.2) 12 ((gE (p_6.2) 8 ((gE (σ) 9 (l_4 : Int32).toNatClampNeg) : Int32).toNatClampNeg) : Int32).toNatClampNeg)) (vg_o (i := 7) (v := .int p_6.1) (vg_o (i := 6) (v := .int (gE (σ) 9 (l_4 : Int32).toNatClampNeg)) g_0 (by decide) (Or.inl rfl)) (by decide) (Or.inl rfl)) (by decide) (Or.inl rfl)) (by decide) (Or.inl rfl))) ?_
              refine ev_x (i := .bipush 8) (len := 2) (p' := 148) (s' := [.int 8, .ref 62]) rfl rfl rfl ?_
              refine ev_x (i := .aload_n 0) (len := 1) (p' := 149) (s' := [.ref 62, .int 8, .ref 62]) rfl rfl (ld_a (vg_o (i := 9) (v := .int (gE (p_6.2) 8 (l_4 : Int32).toNatClampNeg)) (vg_o (i := 8) (v := .int (gE (p_6.2) 12 ((gE (p_6.2) 8 ((gE (σ) 9 (l_4 : Int32).toNatClampNeg) : Int32).toNatClampNeg) : Int32).toNatClampNeg)) (vg_o (i := 7) (v := .int p_6.1) (vg_o (i := 6) (v := .int (gE (σ) 9 (l_4 : Int32).toNatClampNeg)) g_0 (by decide) (Or.inl rfl)) (by decide) (Or.inl rfl)) (by decide) (Or.inl rfl)) (by decide) (Or.inl rfl))) ?_
              refine ev_gr (p' := 152) (v := 5) rfl rfl rfl ly_62 rfl rfl ((congrFun (congrFun e_6 62) 6).trans hr_62_6) ?_
              refine ev_gc (p' := 155) (v := 7) rfl rfl rfl ly_5 rfl rfl ?_
              refine ev_x (i := .iload 4) (len := 2) (p' := 157) (s' := [.int l_4, .ref 7, .int 8, .ref 62]) rfl rfl (ld_i (vg_o (i := 9) (v := .int (gE (p_6.2) 8 (l_4 : Int32).toNatClampNeg)) (vg_o (i := 8) (v := .int (gE (p_6.2) 12 ((gE (p_6.2) 8 ((gE (σ) 9 (l_4 : Int32).toNatClampNeg) : Int32).toNatClampNeg) : Int32).toNatClampNeg)) (vg_o (i := 7) (v := .int p_6.1) (vg_o (i := 6) (v := .int (gE (σ) 9 (l_4 : Int32).toNatClampNeg)) g_4 (by decide) (Or.inl rfl)) (by decide) (Or.inl rfl)) (by decide) (Or.inl rfl)) (by decide) (Or.inl rfl))) ?_
              obtain ⟨b_19, H⟩ := F_gd H
              refine ev_ga (p' := 158) (v := (gE (p_6.2) 7 (l_4 : Int32).toNatClampNeg)) rfl rfl ly_7 rfl (gd_in b_19) rfl ?_
              obtain ⟨p_20, G_20, H⟩ := F_bd H
              refine ev_cv (d := d + 6) (As := [.int 8, .int (gE (p_6.2) 7 (l_4 : Int32).toNatClampNeg)]) (a := 62) (p' := 161) rfl rfl rfl ly_62 rfl rfl rfl rfl rfl (nb_s1 (nb_s1 (nb_s1 (nb_s1 hnb rfl) rfl) rfl) rfl) rfl (F_116_ok (d := d + 5)   G_20) ?_
              refine ev_st (st' := [.int p_20.1]) rfl ?_
              have e_20 := F_116_R G_20
              obtain rfl := Option.some.inj H
              exact ev_iret rfl rfl rfl rfl
          · refine ev_b0 (t := 91) (p' := 77) rfl rfl rfl (if_neg c_7) ?_
            refine ev_x (i := .aload_n 0) (len := 1) (p' := 78) (s' := [.ref 62]) rfl rfl (ld_a (vg_o (i := 7) (v := .int p_6.1) (vg_o (i := 6) (v := .int (gE (σ) 9 (l_4 : Int32).toNatClampNeg)) g_0 (by decide) (Or.inl rfl)) (by decide) (Or.inl rfl))) ?_
            refine ev_x (i := .iload 7) (len := 2) (p' := 80) (s' := [.int p_6.1, .ref 62]) rfl rfl (ld_i (vg_s (vz_s1 (lv) 6 (.int (gE (σ) 9 (l_4 : Int32).toNatClampNeg))) 7 (.int p_6.1))) ?_
            refine ev_x (i := .aload_n 0) (len := 1) (p' := 81) (s' := [.ref 62, .int p_6.1, .ref 62]) rfl rfl (ld_a (vg_o (i := 7) (v := .int p_6.1) (vg_o (i := 6) (v := .int (gE (σ) 9 (l_4 : Int32).toNatClampNeg)) g_0 (by decide) (Or.inl rfl)) (by decide) (Or.inl rfl))) ?_
            refine ev_gc (p' := 84) (v := 42) rfl rfl rfl ly_62 rfl rfl ?_
            refine ev_gi (p' := 87) (v := (gI p_6.2 42 6)) rfl rfl rfl ly_42 rfl rfl rfl ?_
            obtain ⟨p_21, G_21, H⟩ := F_bd H
            refine ev_cv (d := d + 6) (As := [.int p_6.1, .int (gI p_6.2 42 6)]) (a := 62) (p' := 90) rfl rfl rfl ly_62 rfl rfl rfl rfl rfl (nb_s1 (nb_s1 hnb rfl) rfl) rfl (F_116_ok (d := d + 5)   G_21) ?_
            refine ev_st (st' := [.int p_21.1]) rfl ?_
            have e_21 := F_116_R G_21
            obtain rfl := Option.some.inj H
            exact ev_iret rfl rfl rfl rfl
  · intro k
    induction k with
    | zero => intro l_1 l_2 l_3 l_4 l_5 σ lv p g_0 g_1 g_2 g_3 g_4 g_5 hnb hr_42_3 hr_42_4 hr_62_5 hr_62_6 H; unfold L_122 at H; cases H
    | succ k ih =>
      intro l_1 l_2 l_3 l_4 l_5 σ lv p g_0 g_1 g_2 g_3 g_4 g_5 hnb hr_42_3 hr_42_4 hr_62_5 hr_62_6 H
      unfold L_122 at H
      refine ev_x (i := .iload 5) (len := 2) (p' := 39) (s' := [.int l_5]) rfl rfl (ld_i g_5) ?_
      refine ev_x (i := .bipush 12) (len := 2) (p' := 41) (s' := [.int 12, .int l_5]) rfl rfl rfl ?_
      refine F_if H (fun c_3 H => ?_) (fun c_3 H => ?_)
      · refine ev_b2 (t := 236) (p' := 236) rfl rfl rfl (if_pos c_3) ?_
        exact J_122_236_ok (d := d) (Or.inr rfl) g_0 g_1 g_2 g_3 hnb hr_42_3 hr_42_4 hr_62_5 hr_62_6 H
      · refine ev_b2 (t := 236) (p' := 44) rfl rfl rfl (if_neg c_3) ?_
        refine ev_x (i := .iload 4) (len := 2) (p' := 46) (s' := [.int l_4]) rfl rfl (ld_i g_4) ?_
        refine F_if H (fun c_4 H => ?_) (fun c_4 H => ?_)
        · refine ev_b0 (t := 236) (p' := 236) rfl rfl rfl (if_pos c_4) ?_
          exact J_122_236_ok (d := d) (Or.inr rfl) g_0 g_1 g_2 g_3 hnb hr_42_3 hr_42_4 hr_62_5 hr_62_6 H
        · refine ev_b0 (t := 236) (p' := 49) rfl rfl rfl (if_neg c_4) ?_
          refine ev_x (i := .aload_n 0) (len := 1) (p' := 50) (s' := [.ref 62]) rfl rfl (ld_a g_0) ?_
          refine ev_gr (p' := 53) (v := 21) rfl rfl rfl ly_62 rfl rfl hr_62_6 ?_
          refine ev_gc (p' := 56) (v := 25) rfl rfl rfl ly_21 rfl rfl ?_
          refine ev_x (i := .iload 4) (len := 2) (p' := 58) (s' := [.int l_4, .ref 25]) rfl rfl (ld_i g_4) ?_
          obtain ⟨b_5, H⟩ := F_gd H
          refine ev_ga (p' := 59) (v := (gE (σ) 25 (l_4 : Int32).toNatClampNeg)) rfl rfl ly_25 rfl (gd_in b_5) rfl ?_
          refine ev_x (i := .istore 6) (len := 2) (p' := 61) (s' := []) (l' := vz_s1 (lv) 6 (.int (gE (σ) 25 (l_4 : Int32).toNatClampNeg))) rfl rfl rfl ?_
          refine ev_x (i := .aload_n 0) (len := 1) (p' := 62) (s' := [.ref 62]) rfl rfl (ld_a (vg_o (i := 6) (v := .int (gE (σ) 25 (l_4 : Int32).toNatClampNeg)) g_0 (by decide) (Or.inl rfl))) ?_
          refine ev_gc (p' := 65) (v := 42) rfl rfl rfl ly_62 rfl rfl ?_
          refine ev_x (i := .iload 6) (len := 2) (p' := 67) (s' := [.int (gE (σ) 25 (l_4 : Int32).toNatClampNeg), .ref 42]) rfl rfl (ld_i (vg_s (lv) 6 (.int (gE (σ) 25 (l_4 : Int32).toNatClampNeg)))) ?_
          obtain ⟨p_6, G_6, H⟩ := F_bd H
          refine ev_cv (d := d + 6) (As := [.int (gE (σ) 25 (l_4 : Int32).toNatClampNeg)]) (a := 42) (p' := 70) rfl rfl rfl ly_42 rfl rfl rfl rfl rfl (nb_s1 hnb rfl) rfl (F_70_ok (d := d + 3) (ht := (Or.inr rfl)) (hr_42_3 := hr_42_3) (hr_42_4 := hr_42_4) G_6) ?_
          refine ev_st (st' := [.int p_6.1]) rfl ?_
          have e_6 := F_70_R G_6
          refine ev_x (i := .istore 7) (len := 2) (p' := 72) (s' := []) (l' := vz_s1 (vz_s1 (lv) 6 (.int (gE (σ) 25 (l_4 : Int32).toNatClampNeg))) 7 (.int p_6.1)) rfl rfl rfl ?_
          refine ev_x (i := .iload 7) (len := 2) (p' := 74) (s' := [.int p_6.1]) rfl rfl (ld_i (vg_s (vz_s1 (lv) 6 (.int (gE (σ) 25 (l_4 : Int32).toNatClampNeg))) 7 (.int p_6.1))) ?_
          refine F_if H (fun c_7 H => ?_) (fun c_7 H => ?_)
          · refine ev_b0 (t := 91) (p' := 91) rfl rfl rfl (if_pos c_7) ?_
            refine ev_x (i := .aload_n 0) (len := 1) (p' := 92) (s' := [.ref 62]) rfl rfl (ld_a (vg_o (i := 7) (v := .int p_6.1) (vg_o (i := 6) (v := .int (gE (σ) 25 (l_4 : Int32).toNatClampNeg)) g_0 (by decide) (Or.inl rfl)) (by decide) (Or.inl rfl))) ?_
            refine ev_gr (p' := 95) (v := 21) rfl rfl rfl ly_62 rfl rfl ((congrFun (congrFun e_6 62) 6).trans hr_62_6) ?_
            refine ev_gc (p' := 98) (v := 28) rfl rfl rfl ly_21 rfl rfl ?_
            refine ev_x (i := .aload_n 0) (len := 1) (p' := 99) (s' := [.ref 62, .ref 28]) rfl rfl (ld_a (vg_o (i := 7) (v := .int p_6.1) (vg_o (i := 6) (v := .int (gE (σ) 25 (l_4 : Int32).toNatClampNeg)) g_0 (by decide) (Or.inl rfl)) (by decide) (Or.inl rfl))) ?_
            refine ev_gr (p' := 102) (v := 21) rfl rfl rfl ly_62 rfl rfl ((congrFun (congrFun e_6 62) 6).trans hr_62_6) ?_
            refine ev_gc (p' := 105) (v := 24) rfl rfl rfl ly_21 rfl rfl ?_
            refine ev_x (i := .iload 6) (len := 2) (p' := 107) (s' := [.int (gE (σ) 25 (l_4 : Int32).toNatClampNeg), .ref 24, .ref 28]) rfl rfl (ld_i (vg_o (i := 7) (v := .int p_6.1) (vg_s (lv) 6 (.int (gE (σ) 25 (l_4 : Int32).toNatClampNeg))) (by decide) (Or.inl rfl))) ?_
            obtain ⟨b_8, H⟩ := F_gd H
            refine ev_ga (p' := 108) (v := (gE (p_6.2) 24 ((gE (σ) 25 (l_4 : Int32).toNatClampNeg) : Int32).toNatClampNeg)) rfl rfl ly_24 rfl (gd_in b_8) rfl ?_
            obtain ⟨b_9, H⟩ := F_gd H
            refine ev_ga (p' := 109) (v := (gE (p_6.2) 28 ((gE (p_6.2) 24 ((gE (σ) 25 (l_4 : Int32).toNatClampNeg) : Int32).toNatClampNeg) : Int32).toNatClampNeg)) rfl rfl ly_28 rfl (gd_in b_9) rfl ?_
            refine ev_x (i := .istore 8) (len := 2) (p' := 111) (s' := []) (l' := vz_s1 (vz_s1 (vz_s1 (lv) 6 (.int (gE (σ) 25 (l_4 : Int32).toNatClampNeg))) 7 (.int p_6.1)) 8 (.int (gE (p_6.2) 28 ((gE (p_6.2) 24 ((gE (σ) 25 (l_4 : Int32).toNatClampNeg) : Int32).toNatClampNeg) : Int32).toNatClampNeg))) rfl rfl rfl ?_
            refine ev_x (i := .aload_n 0) (len := 1) (p' := 112) (s' := [.ref 62]) rfl rfl (ld_a (vg_o (i := 8) (v := .int (gE (p_6.2) 28 ((gE (p_6.2) 24 ((gE (σ) 25 (l_4 : Int32).toNatClampNeg) : Int32).toNatClampNeg) : Int32).toNatClampNeg)) (vg_o (i := 7) (v := .int p_6.1) (vg_o (i := 6) (v := .int (gE (σ) 25 (l_4 : Int32).toNatClampNeg)) g_0 (by decide) (Or.inl rfl)) (by decide) (Or.inl rfl)) (by decide) (Or.inl rfl))) ?_
            refine ev_gr (p' := 115) (v := 21) rfl rfl rfl ly_62 rfl rfl ((congrFun (congrFun e_6 62) 6).trans hr_62_6) ?_
            refine ev_gc (p' := 118) (v := 24) rfl rfl rfl ly_21 rfl rfl ?_
            refine ev_x (i := .iload 4) (len := 2) (p' := 120) (s' := [.int l_4, .ref 24]) rfl rfl (ld_i (vg_o (i := 8) (v := .int (gE (p_6.2) 28 ((gE (p_6.2) 24 ((gE (σ) 25 (l_4 : Int32).toNatClampNeg) : Int32).toNatClampNeg) : Int32).toNatClampNeg)) (vg_o (i := 7) (v := .int p_6.1) (vg_o (i := 6) (v := .int (gE (σ) 25 (l_4 : Int32).toNatClampNeg)) g_4 (by decide) (Or.inl rfl)) (by decide) (Or.inl rfl)) (by decide) (Or.inl rfl))) ?_
            obtain ⟨b_10, H⟩ := F_gd H
            refine ev_ga (p' := 121) (v := (gE (p_6.2) 24 (l_4 : Int32).toNatClampNeg)) rfl rfl ly_24 rfl (gd_in b_10) rfl ?_
            refine ev_x (i := .istore 9) (len := 2) (p' := 123) (s' := []) (l' := vz_s1 (vz_s1 (vz_s1 (vz_s1 (lv) 6 (.int (gE (σ) 25 (l_4 : Int32).toNatClampNeg))) 7 (.int p_6.1)) 8 (.int (gE (p_6.2) 28 ((gE (p_6.2) 24 ((gE (σ) 25 (l_4 : Int32).toNatClampNeg) : Int32).toNatClampNeg) : Int32).toNatClampNeg))) 9 (.int (gE (p_6.2) 24 (l_4 : Int32).toNatClampNeg))) rfl rfl rfl ?_
            refine ev_x (i := .aload_n 0) (len := 1) (p' := 124) (s' := [.ref 62]) rfl rfl (ld_a (vg_o (i := 9) (v := .int (gE (p_6.2) 24 (l_4 : Int32).toNatClampNeg)) (vg_o (i := 8) (v := .int (gE (p_6.2) 28 ((gE (p_6.2) 24 ((gE (σ) 25 (l_4 : Int32).toNatClampNeg) : Int32).toNatClampNeg) : Int32).toNatClampNeg)) (vg_o (i := 7) (v := .int p_6.1) (vg_o (i := 6) (v := .int (gE (σ) 25 (l_4 : Int32).toNatClampNeg)) g_0 (by decide) (Or.inl rfl)) (by decide) (Or.inl rfl)) (by decide) (Or.inl rfl)) (by decide) (Or.inl rfl))) ?_
            refine ev_gr (p' := 127) (v := 21) rfl rfl rfl ly_62 rfl rfl ((congrFun (congrFun e_6 62) 6).trans hr_62_6) ?_
            refine ev_gc (p' := 130) (v := 29) rfl rfl rfl ly_21 rfl rfl ?_
            refine ev_x (i := .aload_n 0) (len := 1) (p' := 131) (s' := [.ref 62, .ref 29]) rfl rfl (ld_a (vg_o (i := 9) (v := .int (gE (p_6.2) 24 (l_4 : Int32).toNatClampNeg)) (vg_o (i := 8) (v := .int (gE (p_6.2) 28 ((gE (p_6.2) 24 ((gE (σ) 25 (l_4 : Int32).toNatClampNeg) : Int32).toNatClampNeg) : Int32).toNatClampNeg)) (vg_o (i := 7) (v := .int p_6.1) (vg_o (i := 6) (v := .int (gE (σ) 25 (l_4 : Int32).toNatClampNeg)) g_0 (by decide) (Or.inl rfl)) (by decide) (Or.inl rfl)) (by decide) (Or.inl rfl)) (by decide) (Or.inl rfl))) ?_
            refine ev_gr (p' := 134) (v := 21) rfl rfl rfl ly_62 rfl rfl ((congrFun (congrFun e_6 62) 6).trans hr_62_6) ?_
            refine ev_gc (p' := 137) (v := 24) rfl rfl rfl ly_21 rfl rfl ?_
            refine ev_x (i := .iload 6) (len := 2) (p' := 139) (s' := [.int (gE (σ) 25 (l_4 : Int32).toNatClampNeg), .ref 24, .ref 29]) rfl rfl (ld_i (vg_o (i := 9) (v := .int (gE (p_6.2) 24 (l_4 : Int32).toNatClampNeg)) (vg_o (i := 8) (v := .int (gE (p_6.2) 28 ((gE (p_6.2) 24 ((gE (σ) 25 (l_4 : Int32).toNatClampNeg) : Int32).toNatClampNeg) : Int32).toNatClampNeg)) (vg_o (i := 7) (v := .int p_6.1) (vg_s (lv) 6 (.int (gE (σ) 25 (l_4 : Int32).toNatClampNeg))) (by decide) (Or.inl rfl)) (by decide) (Or.inl rfl)) (by decide) (Or.inl rfl))) ?_
            refine ev_ga (p' := 140) (v := (gE (p_6.2) 24 ((gE (σ) 25 (l_4 : Int32).toNatClampNeg) : Int32).toNatClampNeg)) rfl rfl ly_24 rfl (gd_in b_8) rfl ?_
            obtain ⟨b_11, H⟩ := F_gd H
            refine ev_ga (p' := 141) (v := (gE (p_6.2) 29 ((gE (p_6.2) 24 ((gE (σ) 25 (l_4 : Int32).toNatClampNeg) : Int32).toNatClampNeg) : Int32).toNatClampNeg)) rfl rfl ly_29 rfl (gd_in b_11) rfl ?_
            refine ev_x (i := .iconst 1) (len := 1) (p' := 142) (s' := [.int 1, .int (gE (p_6.2) 29 ((gE (p_6.2) 24 ((gE (σ) 25 (l_4 : Int32).toNatClampNeg) : Int32).toNatClampNeg) : Int32).toNatClampNeg)]) rfl rfl rfl ?_
            refine F_if H (fun c_12 H => ?_) (fun c_12 H => ?_)
            · refine ev_b2 (t := 162) (p' := 162) rfl rfl rfl (if_pos c_12) ?_
              refine ev_x (i := .iload 8) (len := 2) (p' := 164) (s' := [.int (gE (p_6.2) 28 ((gE (p_6.2) 24 ((gE (σ) 25 (l_4 : Int32).toNatClampNeg) : Int32).toNatClampNeg) : Int32).toNatClampNeg)]) rfl rfl (ld_i (vg_o (i := 9) (v := .int (gE (p_6.2) 24 (l_4 : Int32).toNatClampNeg)) (vg_s (vz_s1 (vz_s1 (lv) 6 (.int (gE (σ) 25 (l_4 : Int32).toNatClampNeg))) 7 (.int p_6.1)) 8 (.int (gE (p_6.2) 28 ((gE (p_6.2) 24 ((gE (σ) 25 (l_4 : Int32).toNatClampNeg) : Int32).toNatClampNeg) : Int32).toNatClampNeg))) (by decide) (Or.inl rfl))) ?_
              refine ev_x (i := .aload_n 0) (len := 1) (p' := 165) (s' := [.ref 62, .int (gE (p_6.2) 28 ((gE (p_6.2) 24 ((gE (σ) 25 (l_4 : Int32).toNatClampNeg) : Int32).toNatClampNeg) : Int32).toNatClampNeg)]) rfl rfl (ld_a (vg_o (i := 9) (v := .int (gE (p_6.2) 24 (l_4 : Int32).toNatClampNeg)) (vg_o (i := 8) (v := .int (gE (p_6.2) 28 ((gE (p_6.2) 24 ((gE (σ) 25 (l_4 : Int32).toNatClampNeg) : Int32).toNatClampNeg) : Int32).toNatClampNeg)) (vg_o (i := 7) (v := .int p_6.1) (vg_o (i := 6) (v := .int (gE (σ) 25 (l_4 : Int32).toNatClampNeg)) g_0 (by decide) (Or.inl rfl)) (by decide) (Or.inl rfl)) (by decide) (Or.inl rfl)) (by decide) (Or.inl rfl))) ?_
              refine ev_gr (p' := 168) (v := 20) rfl rfl rfl ly_62 rfl rfl ((congrFun (congrFun e_6 62) 5).trans hr_62_5) ?_
              refine ev_gc (p' := 171) (v := 30) rfl rfl rfl ly_20 rfl rfl ?_
              refine ev_x (i := .iload 9) (len := 2) (p' := 173) (s' := [.int (gE (p_6.2) 24 (l_4 : Int32).toNatClampNeg), .ref 30, .int (gE (p_6.2) 28 ((gE (p_6.2) 24 ((gE (σ) 25 (l_4 : Int32).toNatClampNeg) : Int32).toNatClampNeg) : Int32).toNatClampNeg)]) rfl rfl (ld_i (vg_s (vz_s1 (vz_s1 (vz_s1 (lv) 6 (.int (gE (σ) 25 (l_4 : Int32).toNatClampNeg))) 7 (.int p_6.1)) 8 (.int (gE (p_6.2) 28 ((gE (p_6.2) 24 ((gE (σ) 25 (l_4 : Int32).toNatClampNeg) : Int32).toNatClampNeg) : Int32).toNatClampNeg))) 9 (.int (gE (p_6.2) 24 (l_4 : Int32).toNatClampNeg)))) ?_
              obtain ⟨b_13, H⟩ := F_gd H
              refine ev_ga (p' := 174) (v := (gE (p_6.2) 30 ((gE (p_6.2) 24 (l_4 : Int32).toNatClampNeg) : Int32).toNatClampNeg)) rfl rfl ly_30 rfl (gd_in b_13) rfl ?_
              refine F_if H (fun c_14 H => ?_) (fun c_14 H => ?_)
              · refine ev_b2 (t := 192) (p' := 192) rfl rfl rfl (if_pos c_14) ?_
                exact J_122_192_ok (d := d) (Or.inr rfl) (vg_o (i := 9) (v := .int (gE (p_6.2) 24 (l_4 : Int32).toNatClampNeg)) (vg_o (i := 8) (v := .int (gE (p_6.2) 28 ((gE (p_6.2) 24 ((gE (σ) 25 (l_4 : Int32).toNatClampNeg) : Int32).toNatClampNeg) : Int32).toNatClampNeg)) (vg_o (i := 7) (v := .int p_6.1) (vg_o (i := 6) (v := .int (gE (σ) 25 (l_4 : Int32).toNatClampNeg)) g_0 (by decide) (Or.inl rfl)) (by decide) (Or.inl rfl)) (by decide) (Or.inl rfl)) (by decide) (Or.inl rfl)) (vg_o (i := 9) (v := .int (gE (p_6.2) 24 (l_4 : Int32).toNatClampNeg)) (vg_o (i := 8) (v := .int (gE (p_6.2) 28 ((gE (p_6.2) 24 ((gE (σ) 25 (l_4 : Int32).toNatClampNeg) : Int32).toNatClampNeg) : Int32).toNatClampNeg)) (vg_o (i := 7) (v := .int p_6.1) (vg_o (i := 6) (v := .int (gE (σ) 25 (l_4 : Int32).toNatClampNeg)) g_4 (by decide) (Or.inl rfl)) (by decide) (Or.inl rfl)) (by decide) (Or.inl rfl)) (by decide) (Or.inl rfl)) (nb_s1 (nb_s1 (nb_s1 (nb_s1 hnb rfl) rfl) rfl) rfl) ((congrFun (congrFun e_6 42) 3).trans hr_42_3) ((congrFun (congrFun e_6 42) 4).trans hr_42_4) ((congrFun (congrFun e_6 62) 5).trans hr_62_5) ((congrFun (congrFun e_6 62) 6).trans hr_62_6) H
              · refine ev_b2 (t := 192) (p' := 177) rfl rfl rfl (if_neg c_14) ?_
                refine ev_x (i := .iload 8) (len := 2) (p' := 179) (s' := [.int (gE (p_6.2) 28 ((gE (p_6.2) 24 ((gE (σ) 25 (l_4 : Int32).toNatClampNeg) : Int32).toNatClampNeg) : Int32).toNatClampNeg)]) rfl rfl (ld_i (vg_o (i := 9) (v := .int (gE (p_6.2) 24 (l_4 : Int32).toNatClampNeg)) (vg_s (vz_s1 (vz_s1 (lv) 6 (.int (gE (σ) 25 (l_4 : Int32).toNatClampNeg))) 7 (.int p_6.1)) 8 (.int (gE (p_6.2) 28 ((gE (p_6.2) 24 ((gE (σ) 25 (l_4 : Int32).toNatClampNeg) : Int32).toNatClampNeg) : Int32).toNatClampNeg))) (by decide) (Or.inl rfl))) ?_
                refine ev_x (i := .aload_n 0) (len := 1) (p' := 180) (s' := [.ref 62, .int (gE (p_6.2) 28 ((gE (p_6.2) 24 ((gE (σ) 25 (l_4 : Int32).toNatClampNeg) : Int32).toNatClampNeg) : Int32).toNatClampNeg)]) rfl rfl (ld_a (vg_o (i := 9) (v := .int (gE (p_6.2) 24 (l_4 : Int32).toNatClampNeg)) (vg_o (i := 8) (v := .int (gE (p_6.2) 28 ((gE (p_6.2) 24 ((gE (σ) 25 (l_4 : Int32).toNatClampNeg) : Int32).toNatClampNeg) : Int32).toNatClampNeg)) (vg_o (i := 7) (v := .int p_6.1) (vg_o (i := 6) (v := .int (gE (σ) 25 (l_4 : Int32).toNatClampNeg)) g_0 (by decide) (Or.inl rfl)) (by decide) (Or.inl rfl)) (by decide) (Or.inl rfl)) (by decide) (Or.inl rfl))) ?_
                refine ev_gr (p' := 183) (v := 20) rfl rfl rfl ly_62 rfl rfl ((congrFun (congrFun e_6 62) 5).trans hr_62_5) ?_
                refine ev_gc (p' := 186) (v := 31) rfl rfl rfl ly_20 rfl rfl ?_
                refine ev_x (i := .iload 9) (len := 2) (p' := 188) (s' := [.int (gE (p_6.2) 24 (l_4 : Int32).toNatClampNeg), .ref 31, .int (gE (p_6.2) 28 ((gE (p_6.2) 24 ((gE (σ) 25 (l_4 : Int32).toNatClampNeg) : Int32).toNatClampNeg) : Int32).toNatClampNeg)]) rfl rfl (ld_i (vg_s (vz_s1 (vz_s1 (vz_s1 (lv) 6 (.int (gE (σ) 25 (l_4 : Int32).toNatClampNeg))) 7 (.int p_6.1)) 8 (.int (gE (p_6.2) 28 ((gE (p_6.2) 24 ((gE (σ) 25 (l_4 : Int32).toNatClampNeg) : Int32).toNatClampNeg) : Int32).toNatClampNeg))) 9 (.int (gE (p_6.2) 24 (l_4 : Int32).toNatClampNeg)))) ?_
                obtain ⟨b_15, H⟩ := F_gd H
                refine ev_ga (p' := 189) (v := (gE (p_6.2) 31 ((gE (p_6.2) 24 (l_4 : Int32).toNatClampNeg) : Int32).toNatClampNeg)) rfl rfl ly_31 rfl (gd_in b_15) rfl ?_
                refine F_if H (fun c_16 H => ?_) (fun c_16 H => ?_)
                · refine ev_b2 (t := 209) (p' := 209) rfl rfl rfl (if_pos c_16) ?_
                  refine ev_x (i := .aload_n 0) (len := 1) (p' := 210) (s' := [.ref 62]) rfl rfl (ld_a (vg_o (i := 9) (v := .int (gE (p_6.2) 24 (l_4 : Int32).toNatClampNeg)) (vg_o (i := 8) (v := .int (gE (p_6.2) 28 ((gE (p_6.2) 24 ((gE (σ) 25 (l_4 : Int32).toNatClampNeg) : Int32).toNatClampNeg) : Int32).toNatClampNeg)) (vg_o (i := 7) (v := .int p_6.1) (vg_o (i := 6) (v := .int (gE (σ) 25 (l_4 : Int32).toNatClampNeg)) g_0 (by decide) (Or.inl rfl)) (by decide) (Or.inl rfl)) (by decide) (Or.inl rfl)) (by decide) (Or.inl rfl))) ?_
                  refine ev_gc (p' := 213) (v := 65) rfl rfl rfl ly_62 rfl rfl ?_
                  refine ev_x (i := .iload 9) (len := 2) (p' := 215) (s' := [.int (gE (p_6.2) 24 (l_4 : Int32).toNatClampNeg), .ref 65]) rfl rfl (ld_i (vg_s (vz_s1 (vz_s1 (vz_s1 (lv) 6 (.int (gE (σ) 25 (l_4 : Int32).toNatClampNeg))) 7 (.int p_6.1)) 8 (.int (gE (p_6.2) 28 ((gE (p_6.2) 24 ((gE (σ) 25 (l_4 : Int32).toNatClampNeg) : Int32).toNatClampNeg) : Int32).toNatClampNeg))) 9 (.int (gE (p_6.2) 24 (l_4 : Int32).toNatClampNeg)))) ?_
                  refine ev_x (i := .iload 8) (len := 2) (p' := 217) (s' := [.int (gE (p_6.2) 28 ((gE (p_6.2) 24 ((gE (σ) 25 (l_4 : Int32).toNatClampNeg) : Int32).toNatClampNeg) : Int32).toNatClampNeg), .int (gE (p_6.2) 24 (l_4 : Int32).toNatClampNeg), .ref 65]) rfl rfl (ld_i (vg_o (i := 9) (v := .int (gE (p_6.2) 24 (l_4 : Int32).toNatClampNeg)) (vg_s (vz_s1 (vz_s1 (lv) 6 (.int (gE (σ) 25 (l_4 : Int32).toNatClampNeg))) 7 (.int p_6.1)) 8 (.int (gE (p_6.2) 28 ((gE (p_6.2) 24 ((gE (σ) 25 (l_4 : Int32).toNatClampNeg) : Int32).toNatClampNeg) : Int32).toNatClampNeg))) (by decide) (Or.inl rfl))) ?_
                  obtain ⟨b_17, H⟩ := F_gd H
                  refine ev_pa (j := ((gE (p_6.2) 24 (l_4 : Int32).toNatClampNeg) : Int32).toNatClampNeg) (p' := 218) rfl rfl ly_65 rfl (gd_in b_17) rfl ?_
                  refine ev_x (i := .aload_n 0) (len := 1) (p' := 219) (s' := [.ref 62]) rfl rfl (ld_a (vg_o (i := 9) (v := .int (gE (p_6.2) 24 (l_4 : Int32).toNatClampNeg)) (vg_o (i := 8) (v := .int (gE (p_6.2) 28 ((gE (p_6.2) 24 ((gE (σ) 25 (l_4 : Int32).toNatClampNeg) : Int32).toNatClampNeg) : Int32).toNatClampNeg)) (vg_o (i := 7) (v := .int p_6.1) (vg_o (i := 6) (v := .int (gE (σ) 25 (l_4 : Int32).toNatClampNeg)) g_0 (by decide) (Or.inl rfl)) (by decide) (Or.inl rfl)) (by decide) (Or.inl rfl)) (by decide) (Or.inl rfl))) ?_
                  refine ev_gr (p' := 222) (v := 21) rfl rfl rfl ly_62 rfl rfl ((congrFun (congrFun e_6 62) 6).trans hr_62_6) ?_
                  refine ev_gc (p' := 225) (v := 26) rfl rfl rfl ly_21 rfl rfl ?_
                  refine ev_x (i := .iload 4) (len := 2) (p' := 227) (s' := [.int l_4, .ref 26]) rfl rfl (ld_i (vg_o (i := 9) (v := .int (gE (p_6.2) 24 (l_4 : Int32).toNatClampNeg)) (vg_o (i := 8) (v := .int (gE (p_6.2) 28 ((gE (p_6.2) 24 ((gE (σ) 25 (l_4 : Int32).toNatClampNeg) : Int32).toNatClampNeg) : Int32).toNatClampNeg)) (vg_o (i := 7) (v := .int p_6.1) (vg_o (i := 6) (v := .int (gE (σ) 25 (l_4 : Int32).toNatClampNeg)) g_4 (by decide) (Or.inl rfl)) (by decide) (Or.inl rfl)) (by decide) (Or.inl rfl)) (by decide) (Or.inl rfl))) ?_
                  obtain ⟨b_18, H⟩ := F_gd H
                  refine ev_ga (p' := 228) (v := (gE (p_6.2) 26 (l_4 : Int32).toNatClampNeg)) rfl rfl ly_26 rfl (gd_in b_18) rfl ?_
                  refine ev_x (i := .istore 4) (len := 2) (p' := 230) (s' := []) (l' := vz_s1 (vz_s1 (vz_s1 (vz_s1 (vz_s1 (lv) 6 (.int (gE (σ) 25 (l_4 : Int32).toNatClampNeg))) 7 (.int p_6.1)) 8 (.int (gE (p_6.2) 28 ((gE (p_6.2) 24 ((gE (σ) 25 (l_4 : Int32).toNatClampNeg) : Int32).toNatClampNeg) : Int32).toNatClampNeg))) 9 (.int (gE (p_6.2) 24 (l_4 : Int32).toNatClampNeg))) 4 (.int (gE (p_6.2) 26 (l_4 : Int32).toNatClampNeg))) rfl rfl rfl ?_
                  refine ev_x (i := .iinc 5 1) (len := 3) (p' := 233) (s' := []) (l' := vz_s1 (vz_s1 (vz_s1 (vz_s1 (vz_s1 (vz_s1 (lv) 6 (.int (gE (σ) 25 (l_4 : Int32).toNatClampNeg))) 7 (.int p_6.1)) 8 (.int (gE (p_6.2) 28 ((gE (p_6.2) 24 ((gE (σ) 25 (l_4 : Int32).toNatClampNeg) : Int32).toNatClampNeg) : Int32).toNatClampNeg))) 9 (.int (gE (p_6.2) 24 (l_4 : Int32).toNatClampNeg))) 4 (.int (gE (p_6.2) 26 (l_4 : Int32).toNatClampNeg))) 5 (.int (l_5 + 1))) rfl rfl (ld_inc (vg_o (i := 4) (v := .int (gE (p_6.2) 26 (l_4 : Int32).toNatClampNeg)) (vg_o (i := 9) (v := .int (gE (p_6.2) 24 (l_4 : Int32).toNatClampNeg)) (vg_o (i := 8) (v := .int (gE (p_6.2) 28 ((gE (p_6.2) 24 ((gE (σ) 25 (l_4 : Int32).toNatClampNeg) : Int32).toNatClampNeg) : Int32).toNatClampNeg)) (vg_o (i := 7) (v := .int p_6.1) (vg_o (i := 6) (v := .int (gE (σ) 25 (l_4 : Int32).toNatClampNeg)) g_5 (by decide) (Or.inl rfl)) (by decide) (Or.inl rfl)) (by decide) (Or.inl rfl)) (by decide) (Or.inl rfl)) (by decide) (Or.inl rfl)) rfl) ?_
                  refine ev_x (i := .goto (-196)) (len := 3) (p' := 37) (s' := []) rfl rfl rfl ?_
                  exact ih _ _ _ _ _ _ _ _ (vg_o (i := 5) (v := .int (l_5 + 1)) (vg_o (i := 4) (v := .int (gE (p_6.2) 26 (l_4 : Int32).toNatClampNeg)) (vg_o (i := 9) (v := .int (gE (p_6.2) 24 (l_4 : Int32).toNatClampNeg)) (vg_o (i := 8) (v := .int (gE (p_6.2) 28 ((gE (p_6.2) 24 ((gE (σ) 25 (l_4 : Int32).toNatClampNeg) : Int32).toNatClampNeg) : Int32).toNatClampNeg)) (vg_o (i := 7) (v := .int p_6.1) (vg_o (i := 6) (v := .int (gE (σ) 25 (l_4 : Int32).toNatClampNeg)) g_0 (by decide) (Or.inl rfl)) (by decide) (Or.inl rfl)) (by decide) (Or.inl rfl)) (by decide) (Or.inl rfl)) (by decide) (Or.inl rfl)) (by decide) (Or.inl rfl)) (vg_o (i := 5) (v := .int (l_5 + 1)) (vg_o (i := 4) (v := .int (gE (p_6.2) 26 (l_4 : Int32).toNatClampNeg)) (vg_o (i := 9) (v := .int (gE (p_6.2) 24 (l_4 : Int32).toNatClampNeg)) (vg_o (i := 8) (v := .int (gE (p_6.2) 28 ((gE (p_6.2) 24 ((gE (σ) 25 (l_4 : Int32).toNatClampNeg) : Int32).toNatClampNeg) : Int32).toNatClampNeg)) (vg_o (i := 7) (v := .int p_6.1) (vg_o (i := 6) (v := .int (gE (σ) 25 (l_4 : Int32).toNatClampNeg)) g_1 (by decide) (Or.inl rfl)) (by decide) (Or.inl rfl)) (by decide) (Or.inl rfl)) (by decide) (Or.inl rfl)) (by decide) (Or.inl rfl)) (by decide) (Or.inl rfl)) (vg_o (i := 5) (v := .int (l_5 + 1)) (vg_o (i := 4) (v := .int (gE (p_6.2) 26 (l_4 : Int32).toNatClampNeg)) (vg_o (i := 9) (v := .int (gE (p_6.2) 24 (l_4 : Int32).toNatClampNeg)) (vg_o (i := 8) (v := .int (gE (p_6.2) 28 ((gE (p_6.2) 24 ((gE (σ) 25 (l_4 : Int32).toNatClampNeg) : Int32).toNatClampNeg) : Int32).toNatClampNeg)) (vg_o (i := 7) (v := .int p_6.1) (vg_o (i := 6) (v := .int (gE (σ) 25 (l_4 : Int32).toNatClampNeg)) g_2 (by decide) (Or.inl rfl)) (by decide) (Or.inl rfl)) (by decide) (Or.inl rfl)) (by decide) (Or.inl rfl)) (by decide) (Or.inl rfl)) (by decide) (Or.inl rfl)) (vg_o (i := 5) (v := .int (l_5 + 1)) (vg_o (i := 4) (v := .int (gE (p_6.2) 26 (l_4 : Int32).toNatClampNeg)) (vg_o (i := 9) (v := .int (gE (p_6.2) 24 (l_4 : Int32).toNatClampNeg)) (vg_o (i := 8) (v := .int (gE (p_6.2) 28 ((gE (p_6.2) 24 ((gE (σ) 25 (l_4 : Int32).toNatClampNeg) : Int32).toNatClampNeg) : Int32).toNatClampNeg)) (vg_o (i := 7) (v := .int p_6.1) (vg_o (i := 6) (v := .int (gE (σ) 25 (l_4 : Int32).toNatClampNeg)) g_3 (by decide) (Or.inl rfl)) (by decide) (Or.inl rfl)) (by decide) (Or.inl rfl)) (by decide) (Or.inl rfl)) (by decide) (Or.inl rfl)) (by decide) (Or.inl rfl)) (vg_o (i := 5) (v := .int (l_5 + 1)) (vg_s (vz_s1 (vz_s1 (vz_s1 (vz_s1 (lv) 6 (.int (gE (σ) 25 (l_4 : Int32).toNatClampNeg))) 7 (.int p_6.1)) 8 (.int (gE (p_6.2) 28 ((gE (p_6.2) 24 ((gE (σ) 25 (l_4 : Int32).toNatClampNeg) : Int32).toNatClampNeg) : Int32).toNatClampNeg))) 9 (.int (gE (p_6.2) 24 (l_4 : Int32).toNatClampNeg))) 4 (.int (gE (p_6.2) 26 (l_4 : Int32).toNatClampNeg))) (by decide) (Or.inl rfl)) (vg_s (vz_s1 (vz_s1 (vz_s1 (vz_s1 (vz_s1 (lv) 6 (.int (gE (σ) 25 (l_4 : Int32).toNatClampNeg))) 7 (.int p_6.1)) 8 (.int (gE (p_6.2) 28 ((gE (p_6.2) 24 ((gE (σ) 25 (l_4 : Int32).toNatClampNeg) : Int32).toNatClampNeg) : Int32).toNatClampNeg))) 9 (.int (gE (p_6.2) 24 (l_4 : Int32).toNatClampNeg))) 4 (.int (gE (p_6.2) 26 (l_4 : Int32).toNatClampNeg))) 5 (.int (l_5 + 1))) (nb_s1 (nb_s1 (nb_s1 (nb_s1 (nb_s1 (nb_s1 hnb rfl) rfl) rfl) rfl) rfl) rfl) ((congrFun (congrFun e_6 42) 3).trans hr_42_3) ((congrFun (congrFun e_6 42) 4).trans hr_42_4) ((congrFun (congrFun e_6 62) 5).trans hr_62_5) ((congrFun (congrFun e_6 62) 6).trans hr_62_6) H
                · refine ev_b2 (t := 209) (p' := 192) rfl rfl rfl (if_neg c_16) ?_
                  exact J_122_192_ok (d := d) (Or.inr rfl) (vg_o (i := 9) (v := .int (gE (p_6.2) 24 (l_4 : Int32).toNatClampNeg)) (vg_o (i := 8) (v := .int (gE (p_6.2) 28 ((gE (p_6.2) 24 ((gE (σ) 25 (l_4 : Int32).toNatClampNeg) : Int32).toNatClampNeg) : Int32).toNatClampNeg)) (vg_o (i := 7) (v := .int p_6.1) (vg_o (i := 6) (v := .int (gE (σ) 25 (l_4 : Int32).toNatClampNeg)) g_0 (by decide) (Or.inl rfl)) (by decide) (Or.inl rfl)) (by decide) (Or.inl rfl)) (by decide) (Or.inl rfl)) (vg_o (i := 9) (v := .int (gE (p_6.2) 24 (l_4 : Int32).toNatClampNeg)) (vg_o (i := 8) (v := .int (gE (p_6.2) 28 ((gE (p_6.2) 24 ((gE (σ) 25 (l_4 : Int32).toNatClampNeg) : Int32).toNatClampNeg) : Int32).toNatClampNeg)) (vg_o (i := 7) (v := .int p_6.1) (vg_o (i := 6) (v := .int (gE (σ) 25 (l_4 : Int32).toNatClampNeg)) g_4 (by decide) (Or.inl rfl)) (by decide) (Or.inl rfl)) (by decide) (Or.inl rfl)) (by decide) (Or.inl rfl)) (nb_s1 (nb_s1 (nb_s1 (nb_s1 hnb rfl) rfl) rfl) rfl) ((congrFun (congrFun e_6 42) 3).trans hr_42_3) ((congrFun (congrFun e_6 42) 4).trans hr_42_4) ((congrFun (congrFun e_6 62) 5).trans hr_62_5) ((congrFun (congrFun e_6 62) 6).trans hr_62_6) H
            · refine ev_b2 (t := 162) (p' := 145) rfl rfl rfl (if_neg c_12) ?_
              refine ev_x (i := .aload_n 0) (len := 1) (p' := 146) (s' := [.ref 62]) rfl rfl (ld_a (vg_o (i := 9) (v := .int (gE (p_6.2) 24 (l_4 : Int32).toNatClampNeg)) (vg_o (i := 8) (v := .int (gE (p_6.2) 28 ((gE (p_6.2) 24 ((gE (σ) 25 (l_4 : Int32).toNatClampNeg) : Int32).toNatClampNeg) : Int32).toNatClampNeg)) (vg_o (i := 7) (v := .int p_6.1) (vg_o (i := 6) (v := .int (gE (σ) 25 (l_4 : Int32).toNatClampNeg)) g_0 (by decide) (Or.inl rfl)) (by decide) (Or.inl rfl)) (by decide) (Or.inl rfl)) (by decide) (Or.inl rfl))) ?_
              refine ev_x (i := .bipush 8) (len := 2) (p' := 148) (s' := [.int 8, .ref 62]) rfl rfl rfl ?_
              refine ev_x (i := .aload_n 0) (len := 1) (p' := 149) (s' := [.ref 62, .int 8, .ref 62]) rfl rfl (ld_a (vg_o (i := 9) (v := .int (gE (p_6.2) 24 (l_4 : Int32).toNatClampNeg)) (vg_o (i := 8) (v := .int (gE (p_6.2) 28 ((gE (p_6.2) 24 ((gE (σ) 25 (l_4 : Int32).toNatClampNeg) : Int32).toNatClampNeg) : Int32).toNatClampNeg)) (vg_o (i := 7) (v := .int p_6.1) (vg_o (i := 6) (v := .int (gE (σ) 25 (l_4 : Int32).toNatClampNeg)) g_0 (by decide) (Or.inl rfl)) (by decide) (Or.inl rfl)) (by decide) (Or.inl rfl)) (by decide) (Or.inl rfl))) ?_
              refine ev_gr (p' := 152) (v := 21) rfl rfl rfl ly_62 rfl rfl ((congrFun (congrFun e_6 62) 6).trans hr_62_6) ?_
              refine ev_gc (p' := 155) (v := 23) rfl rfl rfl ly_21 rfl rfl ?_
              refine ev_x (i := .iload 4) (len := 2) (p' := 157) (s' := [.int l_4, .ref 23, .int 8, .ref 62]) rfl rfl (ld_i (vg_o (i := 9) (v := .int (gE (p_6.2) 24 (l_4 : Int32).toNatClampNeg)) (vg_o (i := 8) (v := .int (gE (p_6.2) 28 ((gE (p_6.2) 24 ((gE (σ) 25 (l_4 : Int32).toNatClampNeg) : Int32).toNatClampNeg) : Int32).toNatClampNeg)) (vg_o (i := 7) (v := .int p_6.1) (vg_o (i := 6) (v := .int (gE (σ) 25 (l_4 : Int32).toNatClampNeg)) g_4 (by decide) (Or.inl rfl)) (by decide) (Or.inl rfl)) (by decide) (Or.inl rfl)) (by decide) (Or.inl rfl))) ?_
              obtain ⟨b_19, H⟩ := F_gd H
              refine ev_ga (p' := 158) (v := (gE (p_6.2) 23 (l_4 : Int32).toNatClampNeg)) rfl rfl ly_23 rfl (gd_in b_19) rfl ?_
              obtain ⟨p_20, G_20, H⟩ := F_bd H
              refine ev_cv (d := d + 6) (As := [.int 8, .int (gE (p_6.2) 23 (l_4 : Int32).toNatClampNeg)]) (a := 62) (p' := 161) rfl rfl rfl ly_62 rfl rfl rfl rfl rfl (nb_s1 (nb_s1 (nb_s1 (nb_s1 hnb rfl) rfl) rfl) rfl) rfl (F_116_ok (d := d + 5)   G_20) ?_
              refine ev_st (st' := [.int p_20.1]) rfl ?_
              have e_20 := F_116_R G_20
              obtain rfl := Option.some.inj H
              exact ev_iret rfl rfl rfl rfl
          · refine ev_b0 (t := 91) (p' := 77) rfl rfl rfl (if_neg c_7) ?_
            refine ev_x (i := .aload_n 0) (len := 1) (p' := 78) (s' := [.ref 62]) rfl rfl (ld_a (vg_o (i := 7) (v := .int p_6.1) (vg_o (i := 6) (v := .int (gE (σ) 25 (l_4 : Int32).toNatClampNeg)) g_0 (by decide) (Or.inl rfl)) (by decide) (Or.inl rfl))) ?_
            refine ev_x (i := .iload 7) (len := 2) (p' := 80) (s' := [.int p_6.1, .ref 62]) rfl rfl (ld_i (vg_s (vz_s1 (lv) 6 (.int (gE (σ) 25 (l_4 : Int32).toNatClampNeg))) 7 (.int p_6.1))) ?_
            refine ev_x (i := .aload_n 0) (len := 1) (p' := 81) (s' := [.ref 62, .int p_6.1, .ref 62]) rfl rfl (ld_a (vg_o (i := 7) (v := .int p_6.1) (vg_o (i := 6) (v := .int (gE (σ) 25 (l_4 : Int32).toNatClampNeg)) g_0 (by decide) (Or.inl rfl)) (by decide) (Or.inl rfl))) ?_
            refine ev_gc (p' := 84) (v := 42) rfl rfl rfl ly_62 rfl rfl ?_
            refine ev_gi (p' := 87) (v := (gI p_6.2 42 6)) rfl rfl rfl ly_42 rfl rfl rfl ?_
            obtain ⟨p_21, G_21, H⟩ := F_bd H
            refine ev_cv (d := d + 6) (As := [.int p_6.1, .int (gI p_6.2 42 6)]) (a := 62) (p' := 90) rfl rfl rfl ly_62 rfl rfl rfl rfl rfl (nb_s1 (nb_s1 hnb rfl) rfl) rfl (F_116_ok (d := d + 5)   G_21) ?_
            refine ev_st (st' := [.int p_21.1]) rfl ?_
            have e_21 := F_116_R G_21
            obtain rfl := Option.some.inj H
            exact ev_iret rfl rfl rfl rfl
/-- GameText$Explorer.follows(III)I -/
def F_122 (N : Nat) (t : Nat) (x_1 : Int32) (x_2 : Int32) (x_3 : Int32) (σ : st_S) : Option (Int32 × st_S) :=
  if acB (gN σ 43) (gN σ 65) 0 0 (gI σ t 7) then
  if aB x_2 (gN σ (t + 5)) then
  L_122 N t N x_1 x_2 x_3 (gE (σ) (t + 5) (x_2 : Int32).toNatClampNeg) 0 (st_ac (σ) 43 (0 : Int32).toNatClampNeg 65 (0 : Int32).toNatClampNeg ((gI σ t 7) : Int32).toNatClampNeg)
  else none
  else none
set_option maxRecDepth 100000 in
theorem F_122_R {N : Nat} {t : Nat} {x_1 : Int32} {x_2 : Int32} {x_3 : Int32} {σ : st_S} {p : Int32 × st_S} (H : F_122 N t x_1 x_2 x_3 σ = some p) : gR p.2 = gR σ := by
  unfold F_122 at H
  obtain ⟨_, H⟩ := F_gd H
  obtain ⟨_, H⟩ := F_gd H
  exact (((L_122_R _ _ _ _ _ _ _ _ H)).trans rfl)
set_option maxHeartbeats 4000000 in
set_option maxRecDepth 100000 in
theorem F_122_ok {N d : Nat} {t : Nat} (ht : t = 4 ∨ t = 20) {x_1 : Int32} {x_2 : Int32} {x_3 : Int32} {σ : st_S} {p : Int32 × st_S} (hr_42_3 : gR σ 42 3 = t) (hr_42_4 : gR σ 42 4 = (t + 1)) (hr_62_5 : gR σ 62 5 = t) (hr_62_6 : gR σ 62 6 = (t + 1)) (H : F_122 N t x_1 x_2 x_3 σ = some p) : vz_ev P0 (d + 7) 122 0 (lv_args 0 [.ref 62, .int x_1, .int x_2, .int x_3]) [] (hp σ) (.inl (some (.int p.1)), hp p.2) := by
  unfold F_122 at H
  rcases ht with rfl | rfl
  · refine ev_x (i := .aload_n 0) (len := 1) (p' := 1) (s' := [.ref 62]) rfl rfl rfl ?_
    refine ev_gc (p' := 4) (v := 42) rfl rfl rfl ly_62 rfl rfl ?_
    refine ev_gc (p' := 7) (v := 43) rfl rfl rfl ly_42 rfl rfl ?_
    refine ev_x (i := .iconst 0) (len := 1) (p' := 8) (s' := [.int 0, .ref 43]) rfl rfl rfl ?_
    refine ev_x (i := .aload_n 0) (len := 1) (p' := 9) (s' := [.ref 62, .int 0, .ref 43]) rfl rfl rfl ?_
    refine ev_gc (p' := 12) (v := 65) rfl rfl rfl ly_62 rfl rfl ?_
    refine ev_x (i := .iconst 0) (len := 1) (p' := 13) (s' := [.int 0, .ref 65, .int 0, .ref 43]) rfl rfl rfl ?_
    refine ev_x (i := .aload_n 0) (len := 1) (p' := 14) (s' := [.ref 62, .int 0, .ref 65, .int 0, .ref 43]) rfl rfl rfl ?_
    refine ev_gr (p' := 17) (v := 4) rfl rfl rfl ly_62 rfl rfl hr_62_5 ?_
    refine ev_gi (p' := 20) (v := (gI σ 4 7)) rfl rfl rfl ly_4 rfl rfl rfl ?_
    obtain ⟨b_1, H⟩ := F_gd H
    refine ev_ac (d := d + 6) (src := 43) (dst := 65) (p' := 23) rfl rfl rfl ly_43 ly_65 b_1 rfl rfl ?_
    refine ev_x (i := .aload_n 0) (len := 1) (p' := 24) (s' := [.ref 62]) rfl rfl rfl ?_
    refine ev_gr (p' := 27) (v := 5) rfl rfl rfl ly_62 rfl rfl hr_62_6 ?_
    refine ev_gc (p' := 30) (v := 9) rfl rfl rfl ly_5 rfl rfl ?_
    refine ev_x (i := .iload_n 2) (len := 1) (p' := 31) (s' := [.int x_2, .ref 9]) rfl rfl rfl ?_
    obtain ⟨b_2, H⟩ := F_gd H
    refine ev_ga (p' := 32) (v := (gE (σ) 9 (x_2 : Int32).toNatClampNeg)) rfl rfl ly_9 rfl (gd_in b_2) rfl ?_
    refine ev_x (i := .istore 4) (len := 2) (p' := 34) (s' := []) (l' := [(4, .int (gE (σ) 9 (x_2 : Int32).toNatClampNeg)), (0, .ref 62), (1, .int x_1), (2, .int x_2), (3, .int x_3)]) rfl rfl rfl ?_
    refine ev_x (i := .iconst 0) (len := 1) (p' := 35) (s' := [.int 0]) rfl rfl rfl ?_
    refine ev_x (i := .istore 5) (len := 2) (p' := 37) (s' := []) (l' := [(5, .int 0), (4, .int (gE (σ) 9 (x_2 : Int32).toNatClampNeg)), (0, .ref 62), (1, .int x_1), (2, .int x_2), (3, .int x_3)]) rfl rfl rfl ?_
    exact (L_122_ok (d := d) (Or.inl rfl) N) _ _ _ _ _ _ _ _ rfl rfl rfl rfl rfl rfl rfl hr_42_3 hr_42_4 hr_62_5 hr_62_6 H
  · refine ev_x (i := .aload_n 0) (len := 1) (p' := 1) (s' := [.ref 62]) rfl rfl rfl ?_
    refine ev_gc (p' := 4) (v := 42) rfl rfl rfl ly_62 rfl rfl ?_
    refine ev_gc (p' := 7) (v := 43) rfl rfl rfl ly_42 rfl rfl ?_
    refine ev_x (i := .iconst 0) (len := 1) (p' := 8) (s' := [.int 0, .ref 43]) rfl rfl rfl ?_
    refine ev_x (i := .aload_n 0) (len := 1) (p' := 9) (s' := [.ref 62, .int 0, .ref 43]) rfl rfl rfl ?_
    refine ev_gc (p' := 12) (v := 65) rfl rfl rfl ly_62 rfl rfl ?_
    refine ev_x (i := .iconst 0) (len := 1) (p' := 13) (s' := [.int 0, .ref 65, .int 0, .ref 43]) rfl rfl rfl ?_
    refine ev_x (i := .aload_n 0) (len := 1) (p' := 14) (s' := [.ref 62, .int 0, .ref 65, .int 0, .ref 43]) rfl rfl rfl ?_
    refine ev_gr (p' := 17) (v := 20) rfl rfl rfl ly_62 rfl rfl hr_62_5 ?_
    refine ev_gi (p' := 20) (v := (gI σ 20 7)) rfl rfl rfl ly_20 rfl rfl rfl ?_
    obtain ⟨b_1, H⟩ := F_gd H
    refine ev_ac (d := d + 6) (src := 43) (dst := 65) (p' := 23) rfl rfl rfl ly_43 ly_65 b_1 rfl rfl ?_
    refine ev_x (i := .aload_n 0) (len := 1) (p' := 24) (s' := [.ref 62]) rfl rfl rfl ?_
    refine ev_gr (p' := 27) (v := 21) rfl rfl rfl ly_62 rfl rfl hr_62_6 ?_
    refine ev_gc (p' := 30) (v := 25) rfl rfl rfl ly_21 rfl rfl ?_
    refine ev_x (i := .iload_n 2) (len := 1) (p' := 31) (s' := [.int x_2, .ref 25]) rfl rfl rfl ?_
    obtain ⟨b_2, H⟩ := F_gd H
    refine ev_ga (p' := 32) (v := (gE (σ) 25 (x_2 : Int32).toNatClampNeg)) rfl rfl ly_25 rfl (gd_in b_2) rfl ?_
    refine ev_x (i := .istore 4) (len := 2) (p' := 34) (s' := []) (l' := [(4, .int (gE (σ) 25 (x_2 : Int32).toNatClampNeg)), (0, .ref 62), (1, .int x_1), (2, .int x_2), (3, .int x_3)]) rfl rfl rfl ?_
    refine ev_x (i := .iconst 0) (len := 1) (p' := 35) (s' := [.int 0]) rfl rfl rfl ?_
    refine ev_x (i := .istore 5) (len := 2) (p' := 37) (s' := []) (l' := [(5, .int 0), (4, .int (gE (σ) 25 (x_2 : Int32).toNatClampNeg)), (0, .ref 62), (1, .int x_1), (2, .int x_2), (3, .int x_3)]) rfl rfl rfl ?_
    exact (L_122_ok (d := d) (Or.inr rfl) N) _ _ _ _ _ _ _ _ rfl rfl rfl rfl rfl rfl rfl hr_42_3 hr_42_4 hr_62_5 hr_62_6 H
/-- GameText$Explorer.looksAtCommand(II)I, its loops -/
def L_118 (N : Nat) (t : Nat) : Nat → Int32 → Int32 → Int32 → Int32 → st_S → Option (Int32 × st_S)
  | 0, _, _, _, _, _ => none
  | k + 1, l_3, l_5, l_7, l_8, σ =>
      if 8 ≤ l_8 then
        some (l_5, σ)
      else
        if l_7 < 0 then
          some (l_5, σ)
        else
          if l_5 = 0 then
            if aB l_8 (gN σ 63) then
            if (gE (σ) 63 (l_8 : Int32).toNatClampNeg) = 0 then
              if aB l_7 (gN σ (t + 6)) then
              L_118 N t k l_3 l_5 (gE (σ) (t + 6) (l_7 : Int32).toNatClampNeg) (l_8 + 1) (σ)
              else none
            else
              (F_122 N t l_3 l_7 l_8 (σ)).bind fun p_28 =>
              if aB l_7 (gN p_28.2 (t + 6)) then
              L_118 N t k l_3 p_28.1 (gE (p_28.2) (t + 6) (l_7 : Int32).toNatClampNeg) (l_8 + 1) (p_28.2)
              else none
            else none
          else
            some (l_5, σ)
set_option maxRecDepth 100000 in
theorem L_118_R {N : Nat} {t : Nat} : ∀ (k : Nat) (l_3 : Int32) (l_5 : Int32) (l_7 : Int32) (l_8 : Int32) (σ : st_S) (p : Int32 × st_S), L_118 N t k l_3 l_5 l_7 l_8 σ = some p → gR p.2 = gR σ := by
  intro k
  induction k with
  | zero => intro l_3 l_5 l_7 l_8 σ p H; unfold L_118 at H; cases H
  | succ k ih =>
    intro l_3 l_5 l_7 l_8 σ p H
    unfold L_118 at H
    refine F_if H (fun _ H => ?_) (fun _ H => ?_)
    · obtain rfl := Option.some.inj H
      exact rfl
    · refine F_if H (fun _ H => ?_) (fun _ H => ?_)
      · obtain rfl := Option.some.inj H
        exact rfl
      · refine F_if H (fun _ H => ?_) (fun _ H => ?_)
        · obtain ⟨_, H⟩ := F_gd H
          refine F_if H (fun _ H => ?_) (fun _ H => ?_)
          · obtain ⟨_, H⟩ := F_gd H
            exact (((ih _ _ _ _ _ _ H)).trans rfl)
          · obtain ⟨p_28, G_28, H⟩ := F_bd H
            obtain ⟨_, H⟩ := F_gd H
            exact (((ih _ _ _ _ _ _ H)).trans ((F_122_R G_28).trans rfl))
        · obtain rfl := Option.some.inj H
          exact rfl
set_option maxHeartbeats 4000000 in
set_option maxRecDepth 100000 in
theorem L_118_ok {N d : Nat} {t : Nat} (ht : t = 4 ∨ t = 20) : ∀ k : Nat, ∀ (l_3 : Int32) (l_5 : Int32) (l_7 : Int32) (l_8 : Int32) (σ : st_S) (lv : vz_L) (p : Int32 × st_S), vz_g lv 0 = some (.ref 62) → vz_g lv 3 = some (.int l_3) → vz_g lv 5 = some (.int l_5) → vz_g lv 7 = some (.int l_7) → vz_g lv 8 = some (.int l_8) → vz_nbL (vz_gr P0) lv = true → gR σ 42 3 = t → gR σ 42 4 = (t + 1) → gR σ 62 5 = t → gR σ 62 6 = (t + 1) → L_118 N t k l_3 l_5 l_7 l_8 σ = some p → vz_ev P0 (d + 8) 118 167 lv [] (hp σ) (.inl (some (.int p.1)), hp p.2) := by
  rcases ht with rfl | rfl
  · intro k
    induction k with
    | zero => intro l_3 l_5 l_7 l_8 σ lv p g_0 g_3 g_5 g_7 g_8 hnb hr_42_3 hr_42_4 hr_62_5 hr_62_6 H; unfold L_118 at H; cases H
    | succ k ih =>
      intro l_3 l_5 l_7 l_8 σ lv p g_0 g_3 g_5 g_7 g_8 hnb hr_42_3 hr_42_4 hr_62_5 hr_62_6 H
      unfold L_118 at H
      refine ev_x (i := .iload 8) (len := 2) (p' := 169) (s' := [.int l_8]) rfl rfl (ld_i g_8) ?_
      refine ev_x (i := .bipush 8) (len := 2) (p' := 171) (s' := [.int 8, .int l_8]) rfl rfl rfl ?_
      refine F_if H (fun c_22 H => ?_) (fun c_22 H => ?_)
      · refine ev_b2 (t := 223) (p' := 223) rfl rfl rfl (if_pos c_22) ?_
        refine ev_x (i := .iload 5) (len := 2) (p' := 225) (s' := [.int l_5]) rfl rfl (ld_i g_5) ?_
        obtain rfl := Option.some.inj H
        exact ev_iret rfl rfl rfl rfl
      · refine ev_b2 (t := 223) (p' := 174) rfl rfl rfl (if_neg c_22) ?_
        refine ev_x (i := .iload 7) (len := 2) (p' := 176) (s' := [.int l_7]) rfl rfl (ld_i g_7) ?_
        refine F_if H (fun c_23 H => ?_) (fun c_23 H => ?_)
        · refine ev_b0 (t := 223) (p' := 223) rfl rfl rfl (if_pos c_23) ?_
          refine ev_x (i := .iload 5) (len := 2) (p' := 225) (s' := [.int l_5]) rfl rfl (ld_i g_5) ?_
          obtain rfl := Option.some.inj H
          exact ev_iret rfl rfl rfl rfl
        · refine ev_b0 (t := 223) (p' := 179) rfl rfl rfl (if_neg c_23) ?_
          refine ev_x (i := .iload 5) (len := 2) (p' := 181) (s' := [.int l_5]) rfl rfl (ld_i g_5) ?_
          refine F_if H (fun c_24 H => ?_) (fun c_24 H => ?_)
          · refine ev_b0 (t := 223) (p' := 184) rfl rfl rfl (if_neg (fun q => q c_24)) ?_
            refine ev_x (i := .aload_n 0) (len := 1) (p' := 185) (s' := [.ref 62]) rfl rfl (ld_a g_0) ?_
            refine ev_gc (p' := 188) (v := 63) rfl rfl rfl ly_62 rfl rfl ?_
            refine ev_x (i := .iload 8) (len := 2) (p' := 190) (s' := [.int l_8, .ref 63]) rfl rfl (ld_i g_8) ?_
            obtain ⟨b_25, H⟩ := F_gd H
            refine ev_ga (p' := 191) (v := (gE (σ) 63 (l_8 : Int32).toNatClampNeg)) rfl rfl ly_63 rfl (gd_in b_25) rfl ?_
            refine F_if H (fun c_26 H => ?_) (fun c_26 H => ?_)
            · refine ev_b0 (t := 205) (p' := 205) rfl rfl rfl (if_pos c_26) ?_
              refine ev_x (i := .aload_n 0) (len := 1) (p' := 206) (s' := [.ref 62]) rfl rfl (ld_a g_0) ?_
              refine ev_gr (p' := 209) (v := 5) rfl rfl rfl ly_62 rfl rfl hr_62_6 ?_
              refine ev_gc (p' := 212) (v := 10) rfl rfl rfl ly_5 rfl rfl ?_
              refine ev_x (i := .iload 7) (len := 2) (p' := 214) (s' := [.int l_7, .ref 10]) rfl rfl (ld_i g_7) ?_
              obtain ⟨b_27, H⟩ := F_gd H
              refine ev_ga (p' := 215) (v := (gE (σ) 10 (l_7 : Int32).toNatClampNeg)) rfl rfl ly_10 rfl (gd_in b_27) rfl ?_
              refine ev_x (i := .istore 7) (len := 2) (p' := 217) (s' := []) (l' := vz_s1 (lv) 7 (.int (gE (σ) 10 (l_7 : Int32).toNatClampNeg))) rfl rfl rfl ?_
              refine ev_x (i := .iinc 8 1) (len := 3) (p' := 220) (s' := []) (l' := vz_s1 (vz_s1 (lv) 7 (.int (gE (σ) 10 (l_7 : Int32).toNatClampNeg))) 8 (.int (l_8 + 1))) rfl rfl (ld_inc (vg_o (i := 7) (v := .int (gE (σ) 10 (l_7 : Int32).toNatClampNeg)) g_8 (by decide) (Or.inl rfl)) rfl) ?_
              refine ev_x (i := .goto (-53)) (len := 3) (p' := 167) (s' := []) rfl rfl rfl ?_
              exact ih _ _ _ _ _ _ _ (vg_o (i := 8) (v := .int (l_8 + 1)) (vg_o (i := 7) (v := .int (gE (σ) 10 (l_7 : Int32).toNatClampNeg)) g_0 (by decide) (Or.inl rfl)) (by decide) (Or.inl rfl)) (vg_o (i := 8) (v := .int (l_8 + 1)) (vg_o (i := 7) (v := .int (gE (σ) 10 (l_7 : Int32).toNatClampNeg)) g_3 (by decide) (Or.inl rfl)) (by decide) (Or.inl rfl)) (vg_o (i := 8) (v := .int (l_8 + 1)) (vg_o (i := 7) (v := .int (gE (σ) 10 (l_7 : Int32).toNatClampNeg)) g_5 (by decide) (Or.inl rfl)) (by decide) (Or.inl rfl)) (vg_o (i := 8) (v := .int (l_8 + 1)) (vg_s (lv) 7 (.int (gE (σ) 10 (l_7 : Int32).toNatClampNeg))) (by decide) (Or.inl rfl)) (vg_s (vz_s1 (lv) 7 (.int (gE (σ) 10 (l_7 : Int32).toNatClampNeg))) 8 (.int (l_8 + 1))) (nb_s1 (nb_s1 hnb rfl) rfl) hr_42_3 hr_42_4 hr_62_5 hr_62_6 H
            · refine ev_b0 (t := 205) (p' := 194) rfl rfl rfl (if_neg c_26) ?_
              refine ev_x (i := .aload_n 0) (len := 1) (p' := 195) (s' := [.ref 62]) rfl rfl (ld_a g_0) ?_
              refine ev_x (i := .iload_n 3) (len := 1) (p' := 196) (s' := [.int l_3, .ref 62]) rfl rfl (ld_i g_3) ?_
              refine ev_x (i := .iload 7) (len := 2) (p' := 198) (s' := [.int l_7, .int l_3, .ref 62]) rfl rfl (ld_i g_7) ?_
              refine ev_x (i := .iload 8) (len := 2) (p' := 200) (s' := [.int l_8, .int l_7, .int l_3, .ref 62]) rfl rfl (ld_i g_8) ?_
              obtain ⟨p_28, G_28, H⟩ := F_bd H
              refine ev_cv (d := d + 7) (As := [.int l_3, .int l_7, .int l_8]) (a := 62) (p' := 203) rfl rfl rfl ly_62 rfl rfl rfl rfl rfl hnb rfl (F_122_ok (d := d + 0) (ht := (Or.inl rfl)) (hr_42_3 := hr_42_3) (hr_42_4 := hr_42_4) (hr_62_5 := hr_62_5) (hr_62_6 := hr_62_6) G_28) ?_
              refine ev_st (st' := [.int p_28.1]) rfl ?_
              have e_28 := F_122_R G_28
              refine ev_x (i := .istore 5) (len := 2) (p' := 205) (s' := []) (l' := vz_s1 (lv) 5 (.int p_28.1)) rfl rfl rfl ?_
              refine ev_x (i := .aload_n 0) (len := 1) (p' := 206) (s' := [.ref 62]) rfl rfl (ld_a (vg_o (i := 5) (v := .int p_28.1) g_0 (by decide) (Or.inl rfl))) ?_
              refine ev_gr (p' := 209) (v := 5) rfl rfl rfl ly_62 rfl rfl ((congrFun (congrFun e_28 62) 6).trans hr_62_6) ?_
              refine ev_gc (p' := 212) (v := 10) rfl rfl rfl ly_5 rfl rfl ?_
              refine ev_x (i := .iload 7) (len := 2) (p' := 214) (s' := [.int l_7, .ref 10]) rfl rfl (ld_i (vg_o (i := 5) (v := .int p_28.1) g_7 (by decide) (Or.inl rfl))) ?_
              obtain ⟨b_29, H⟩ := F_gd H
              refine ev_ga (p' := 215) (v := (gE (p_28.2) 10 (l_7 : Int32).toNatClampNeg)) rfl rfl ly_10 rfl (gd_in b_29) rfl ?_
              refine ev_x (i := .istore 7) (len := 2) (p' := 217) (s' := []) (l' := vz_s1 (vz_s1 (lv) 5 (.int p_28.1)) 7 (.int (gE (p_28.2) 10 (l_7 : Int32).toNatClampNeg))) rfl rfl rfl ?_
              refine ev_x (i := .iinc 8 1) (len := 3) (p' := 220) (s' := []) (l' := vz_s1 (vz_s1 (vz_s1 (lv) 5 (.int p_28.1)) 7 (.int (gE (p_28.2) 10 (l_7 : Int32).toNatClampNeg))) 8 (.int (l_8 + 1))) rfl rfl (ld_inc (vg_o (i := 7) (v := .int (gE (p_28.2) 10 (l_7 : Int32).toNatClampNeg)) (vg_o (i := 5) (v := .int p_28.1) g_8 (by decide) (Or.inl rfl)) (by decide) (Or.inl rfl)) rfl) ?_
              refine ev_x (i := .goto (-53)) (len := 3) (p' := 167) (s' := []) rfl rfl rfl ?_
              exact ih _ _ _ _ _ _ _ (vg_o (i := 8) (v := .int (l_8 + 1)) (vg_o (i := 7) (v := .int (gE (p_28.2) 10 (l_7 : Int32).toNatClampNeg)) (vg_o (i := 5) (v := .int p_28.1) g_0 (by decide) (Or.inl rfl)) (by decide) (Or.inl rfl)) (by decide) (Or.inl rfl)) (vg_o (i := 8) (v := .int (l_8 + 1)) (vg_o (i := 7) (v := .int (gE (p_28.2) 10 (l_7 : Int32).toNatClampNeg)) (vg_o (i := 5) (v := .int p_28.1) g_3 (by decide) (Or.inl rfl)) (by decide) (Or.inl rfl)) (by decide) (Or.inl rfl)) (vg_o (i := 8) (v := .int (l_8 + 1)) (vg_o (i := 7) (v := .int (gE (p_28.2) 10 (l_7 : Int32).toNatClampNeg)) (vg_s (lv) 5 (.int p_28.1)) (by decide) (Or.inl rfl)) (by decide) (Or.inl rfl)) (vg_o (i := 8) (v := .int (l_8 + 1)) (vg_s (vz_s1 (lv) 5 (.int p_28.1)) 7 (.int (gE (p_28.2) 10 (l_7 : Int32).toNatClampNeg))) (by decide) (Or.inl rfl)) (vg_s (vz_s1 (vz_s1 (lv) 5 (.int p_28.1)) 7 (.int (gE (p_28.2) 10 (l_7 : Int32).toNatClampNeg))) 8 (.int (l_8 + 1))) (nb_s1 (nb_s1 (nb_s1 hnb rfl) rfl) rfl) ((congrFun (congrFun e_28 42) 3).trans hr_42_3) ((congrFun (congrFun e_28 42) 4).trans hr_42_4) ((congrFun (congrFun e_28 62) 5).trans hr_62_5) ((congrFun (congrFun e_28 62) 6).trans hr_62_6) H
          · refine ev_b0 (t := 223) (p' := 223) rfl rfl rfl (if_pos c_24) ?_
            refine ev_x (i := .iload 5) (len := 2) (p' := 225) (s' := [.int l_5]) rfl rfl (ld_i g_5) ?_
            obtain rfl := Option.some.inj H
            exact ev_iret rfl rfl rfl rfl
  · intro k
    induction k with
    | zero => intro l_3 l_5 l_7 l_8 σ lv p g_0 g_3 g_5 g_7 g_8 hnb hr_42_3 hr_42_4 hr_62_5 hr_62_6 H; unfold L_118 at H; cases H
    | succ k ih =>
      intro l_3 l_5 l_7 l_8 σ lv p g_0 g_3 g_5 g_7 g_8 hnb hr_42_3 hr_42_4 hr_62_5 hr_62_6 H
      unfold L_118 at H
      refine ev_x (i := .iload 8) (len := 2) (p' := 169) (s' := [.int l_8]) rfl rfl (ld_i g_8) ?_
      refine ev_x (i := .bipush 8) (len := 2) (p' := 171) (s' := [.int 8, .int l_8]) rfl rfl rfl ?_
      refine F_if H (fun c_22 H => ?_) (fun c_22 H => ?_)
      · refine ev_b2 (t := 223) (p' := 223) rfl rfl rfl (if_pos c_22) ?_
        refine ev_x (i := .iload 5) (len := 2) (p' := 225) (s' := [.int l_5]) rfl rfl (ld_i g_5) ?_
        obtain rfl := Option.some.inj H
        exact ev_iret rfl rfl rfl rfl
      · refine ev_b2 (t := 223) (p' := 174) rfl rfl rfl (if_neg c_22) ?_
        refine ev_x (i := .iload 7) (len := 2) (p' := 176) (s' := [.int l_7]) rfl rfl (ld_i g_7) ?_
        refine F_if H (fun c_23 H => ?_) (fun c_23 H => ?_)
        · refine ev_b0 (t := 223) (p' := 223) rfl rfl rfl (if_pos c_23) ?_
          refine ev_x (i := .iload 5) (len := 2) (p' := 225) (s' := [.int l_5]) rfl rfl (ld_i g_5) ?_
          obtain rfl := Option.some.inj H
          exact ev_iret rfl rfl rfl rfl
        · refine ev_b0 (t := 223) (p' := 179) rfl rfl rfl (if_neg c_23) ?_
          refine ev_x (i := .iload 5) (len := 2) (p' := 181) (s' := [.int l_5]) rfl rfl (ld_i g_5) ?_
          refine F_if H (fun c_24 H => ?_) (fun c_24 H => ?_)
          · refine ev_b0 (t := 223) (p' := 184) rfl rfl rfl (if_neg (fun q => q c_24)) ?_
            refine ev_x (i := .aload_n 0) (len := 1) (p' := 185) (s' := [.ref 62]) rfl rfl (ld_a g_0) ?_
            refine ev_gc (p' := 188) (v := 63) rfl rfl rfl ly_62 rfl rfl ?_
            refine ev_x (i := .iload 8) (len := 2) (p' := 190) (s' := [.int l_8, .ref 63]) rfl rfl (ld_i g_8) ?_
            obtain ⟨b_25, H⟩ := F_gd H
            refine ev_ga (p' := 191) (v := (gE (σ) 63 (l_8 : Int32).toNatClampNeg)) rfl rfl ly_63 rfl (gd_in b_25) rfl ?_
            refine F_if H (fun c_26 H => ?_) (fun c_26 H => ?_)
            · refine ev_b0 (t := 205) (p' := 205) rfl rfl rfl (if_pos c_26) ?_
              refine ev_x (i := .aload_n 0) (len := 1) (p' := 206) (s' := [.ref 62]) rfl rfl (ld_a g_0) ?_
              refine ev_gr (p' := 209) (v := 21) rfl rfl rfl ly_62 rfl rfl hr_62_6 ?_
              refine ev_gc (p' := 212) (v := 26) rfl rfl rfl ly_21 rfl rfl ?_
              refine ev_x (i := .iload 7) (len := 2) (p' := 214) (s' := [.int l_7, .ref 26]) rfl rfl (ld_i g_7) ?_
              obtain ⟨b_27, H⟩ := F_gd H
              refine ev_ga (p' := 215) (v := (gE (σ) 26 (l_7 : Int32).toNatClampNeg)) rfl rfl ly_26 rfl (gd_in b_27) rfl ?_
              refine ev_x (i := .istore 7) (len := 2) (p' := 217) (s' := []) (l' := vz_s1 (lv) 7 (.int (gE (σ) 26 (l_7 : Int32).toNatClampNeg))) rfl rfl rfl ?_
              refine ev_x (i := .iinc 8 1) (len := 3) (p' := 220) (s' := []) (l' := vz_s1 (vz_s1 (lv) 7 (.int (gE (σ) 26 (l_7 : Int32).toNatClampNeg))) 8 (.int (l_8 + 1))) rfl rfl (ld_inc (vg_o (i := 7) (v := .int (gE (σ) 26 (l_7 : Int32).toNatClampNeg)) g_8 (by decide) (Or.inl rfl)) rfl) ?_
              refine ev_x (i := .goto (-53)) (len := 3) (p' := 167) (s' := []) rfl rfl rfl ?_
              exact ih _ _ _ _ _ _ _ (vg_o (i := 8) (v := .int (l_8 + 1)) (vg_o (i := 7) (v := .int (gE (σ) 26 (l_7 : Int32).toNatClampNeg)) g_0 (by decide) (Or.inl rfl)) (by decide) (Or.inl rfl)) (vg_o (i := 8) (v := .int (l_8 + 1)) (vg_o (i := 7) (v := .int (gE (σ) 26 (l_7 : Int32).toNatClampNeg)) g_3 (by decide) (Or.inl rfl)) (by decide) (Or.inl rfl)) (vg_o (i := 8) (v := .int (l_8 + 1)) (vg_o (i := 7) (v := .int (gE (σ) 26 (l_7 : Int32).toNatClampNeg)) g_5 (by decide) (Or.inl rfl)) (by decide) (Or.inl rfl)) (vg_o (i := 8) (v := .int (l_8 + 1)) (vg_s (lv) 7 (.int (gE (σ) 26 (l_7 : Int32).toNatClampNeg))) (by decide) (Or.inl rfl)) (vg_s (vz_s1 (lv) 7 (.int (gE (σ) 26 (l_7 : Int32).toNatClampNeg))) 8 (.int (l_8 + 1))) (nb_s1 (nb_s1 hnb rfl) rfl) hr_42_3 hr_42_4 hr_62_5 hr_62_6 H
            · refine ev_b0 (t := 205) (p' := 194) rfl rfl rfl (if_neg c_26) ?_
              refine ev_x (i := .aload_n 0) (len := 1) (p' := 195) (s' := [.ref 62]) rfl rfl (ld_a g_0) ?_
              refine ev_x (i := .iload_n 3) (len := 1) (p' := 196) (s' := [.int l_3, .ref 62]) rfl rfl (ld_i g_3) ?_
              refine ev_x (i := .iload 7) (len := 2) (p' := 198) (s' := [.int l_7, .int l_3, .ref 62]) rfl rfl (ld_i g_7) ?_
              refine ev_x (i := .iload 8) (len := 2) (p' := 200) (s' := [.int l_8, .int l_7, .int l_3, .ref 62]) rfl rfl (ld_i g_8) ?_
              obtain ⟨p_28, G_28, H⟩ := F_bd H
              refine ev_cv (d := d + 7) (As := [.int l_3, .int l_7, .int l_8]) (a := 62) (p' := 203) rfl rfl rfl ly_62 rfl rfl rfl rfl rfl hnb rfl (F_122_ok (d := d + 0) (ht := (Or.inr rfl)) (hr_42_3 := hr_42_3) (hr_42_4 := hr_42_4) (hr_62_5 := hr_62_5) (hr_62_6 := hr_62_6) G_28) ?_
              refine ev_st (st' := [.int p_28.1]) rfl ?_
              have e_28 := F_122_R G_28
              refine ev_x (i := .istore 5) (len := 2) (p' := 205) (s' := []) (l' := vz_s1 (lv) 5 (.int p_28.1)) rfl rfl rfl ?_
              refine ev_x (i := .aload_n 0) (len := 1) (p' := 206) (s' := [.ref 62]) rfl rfl (ld_a (vg_o (i := 5) (v := .int p_28.1) g_0 (by decide) (Or.inl rfl))) ?_
              refine ev_gr (p' := 209) (v := 21) rfl rfl rfl ly_62 rfl rfl ((congrFun (congrFun e_28 62) 6).trans hr_62_6) ?_
              refine ev_gc (p' := 212) (v := 26) rfl rfl rfl ly_21 rfl rfl ?_
              refine ev_x (i := .iload 7) (len := 2) (p' := 214) (s' := [.int l_7, .ref 26]) rfl rfl (ld_i (vg_o (i := 5) (v := .int p_28.1) g_7 (by decide) (Or.inl rfl))) ?_
              obtain ⟨b_29, H⟩ := F_gd H
              refine ev_ga (p' := 215) (v := (gE (p_28.2) 26 (l_7 : Int32).toNatClampNeg)) rfl rfl ly_26 rfl (gd_in b_29) rfl ?_
              refine ev_x (i := .istore 7) (len := 2) (p' := 217) (s' := []) (l' := vz_s1 (vz_s1 (lv) 5 (.int p_28.1)) 7 (.int (gE (p_28.2) 26 (l_7 : Int32).toNatClampNeg))) rfl rfl rfl ?_
              refine ev_x (i := .iinc 8 1) (len := 3) (p' := 220) (s' := []) (l' := vz_s1 (vz_s1 (vz_s1 (lv) 5 (.int p_28.1)) 7 (.int (gE (p_28.2) 26 (l_7 : Int32).toNatClampNeg))) 8 (.int (l_8 + 1))) rfl rfl (ld_inc (vg_o (i := 7) (v := .int (gE (p_28.2) 26 (l_7 : Int32).toNatClampNeg)) (vg_o (i := 5) (v := .int p_28.1) g_8 (by decide) (Or.inl rfl)) (by decide) (Or.inl rfl)) rfl) ?_
              refine ev_x (i := .goto (-53)) (len := 3) (p' := 167) (s' := []) rfl rfl rfl ?_
              exact ih _ _ _ _ _ _ _ (vg_o (i := 8) (v := .int (l_8 + 1)) (vg_o (i := 7) (v := .int (gE (p_28.2) 26 (l_7 : Int32).toNatClampNeg)) (vg_o (i := 5) (v := .int p_28.1) g_0 (by decide) (Or.inl rfl)) (by decide) (Or.inl rfl)) (by decide) (Or.inl rfl)) (vg_o (i := 8) (v := .int (l_8 + 1)) (vg_o (i := 7) (v := .int (gE (p_28.2) 26 (l_7 : Int32).toNatClampNeg)) (vg_o (i := 5) (v := .int p_28.1) g_3 (by decide) (Or.inl rfl)) (by decide) (Or.inl rfl)) (by decide) (Or.inl rfl)) (vg_o (i := 8) (v := .int (l_8 + 1)) (vg_o (i := 7) (v := .int (gE (p_28.2) 26 (l_7 : Int32).toNatClampNeg)) (vg_s (lv) 5 (.int p_28.1)) (by decide) (Or.inl rfl)) (by decide) (Or.inl rfl)) (vg_o (i := 8) (v := .int (l_8 + 1)) (vg_s (vz_s1 (lv) 5 (.int p_28.1)) 7 (.int (gE (p_28.2) 26 (l_7 : Int32).toNatClampNeg))) (by decide) (Or.inl rfl)) (vg_s (vz_s1 (vz_s1 (lv) 5 (.int p_28.1)) 7 (.int (gE (p_28.2) 26 (l_7 : Int32).toNatClampNeg))) 8 (.int (l_8 + 1))) (nb_s1 (nb_s1 (nb_s1 hnb rfl) rfl) rfl) ((congrFun (congrFun e_28 42) 3).trans hr_42_3) ((congrFun (congrFun e_28 42) 4).trans hr_42_4) ((congrFun (congrFun e_28 62) 5).trans hr_62_5) ((congrFun (congrFun e_28 62) 6).trans hr_62_6) H
          · refine ev_b0 (t := 223) (p' := 223) rfl rfl rfl (if_pos c_24) ?_
            refine ev_x (i := .iload 5) (len := 2) (p' := 225) (s' := [.int l_5]) rfl rfl (ld_i g_5) ?_
            obtain rfl := Option.some.inj H
            exact ev_iret rfl rfl rfl rfl
/-- GameText$Explorer.looksAtCommand(II)I -/
def F_118 (N : Nat) (t : Nat) (x_1 : Int32) (x_2 : Int32) (σ : st_S) : Option (Int32 × st_S) :=
  if aB x_2 (gN σ (t + 15)) then
  if aB (gE (σ) (t + 15) (x_2 : Int32).toNatClampNeg) (gN σ (t + 5)) then
  (F_70 N t (gE (σ) (t + 5) ((gE (σ) (t + 15) (x_2 : Int32).toNatClampNeg) : Int32).toNatClampNeg) (σ)).bind fun p_3 =>
  if p_3.1 = 0 then
    (F_117 N t (gE (σ) (t + 5) ((gE (σ) (t + 15) (x_2 : Int32).toNatClampNeg) : Int32).toNatClampNeg) (p_3.2)).bind fun p_5 =>
    if p_5.1 = 0 then
      some (0, p_5.2)
    else
      if aB (gE (σ) (t + 15) (x_2 : Int32).toNatClampNeg) (gN p_5.2 (t + 4)) then
      if aB x_1 (gN p_5.2 55) then
      if (gE (p_5.2) 55 (x_1 : Int32).toNatClampNeg) = 0 then
        (F_119 N t (gE (σ) (t + 15) (x_2 : Int32).toNatClampNeg) (st_e (p_5.2) 55 ((x_1 : Int32).toNatClampNeg) (gE (p_5.2) (t + 4) ((gE (σ) (t + 15) (x_2 : Int32).toNatClampNeg) : Int32).toNatClampNeg))).bind fun p_10 =>
        if p_10.1 = 0 then
          (F_121 N x_1 x_2 (p_10.2)).bind fun p_12 =>
          if aB (gE (σ) (t + 15) (x_2 : Int32).toNatClampNeg) (gN p_12 (t + 6)) then
          L_118 N t N (gE (σ) (t + 15) (x_2 : Int32).toNatClampNeg) p_10.1 (gE (p_12) (t + 6) ((gE (σ) (t + 15) (x_2 : Int32).toNatClampNeg) : Int32).toNatClampNeg) 0 (p_12)
          else none
        else
          some (p_10.1, p_10.2)
      else
        if (gE (p_5.2) 55 (x_1 : Int32).toNatClampNeg) = (gE (p_5.2) (t + 4) ((gE (σ) (t + 15) (x_2 : Int32).toNatClampNeg) : Int32).toNatClampNeg) then
          (F_119 N t (gE (σ) (t + 15) (x_2 : Int32).toNatClampNeg) (st_e (p_5.2) 55 ((x_1 : Int32).toNatClampNeg) (gE (p_5.2) (t + 4) ((gE (σ) (t + 15) (x_2 : Int32).toNatClampNeg) : Int32).toNatClampNeg))).bind fun p_15 =>
          if p_15.1 = 0 then
            (F_121 N x_1 x_2 (p_15.2)).bind fun p_17 =>
            if aB (gE (σ) (t + 15) (x_2 : Int32).toNatClampNeg) (gN p_17 (t + 6)) then
            L_118 N t N (gE (σ) (t + 15) (x_2 : Int32).toNatClampNeg) p_15.1 (gE (p_17) (t + 6) ((gE (σ) (t + 15) (x_2 : Int32).toNatClampNeg) : Int32).toNatClampNeg) 0 (p_17)
            else none
          else
            some (p_15.1, p_15.2)
        else
          if aB (gE (σ) (t + 15) (x_2 : Int32).toNatClampNeg) (gN p_5.2 (t + 3)) then
          (F_116 N 13 (gE (p_5.2) (t + 3) ((gE (σ) (t + 15) (x_2 : Int32).toNatClampNeg) : Int32).toNatClampNeg) (p_5.2)).bind fun p_20 =>
          some (p_20.1, p_20.2)
          else none
      else none
      else none
  else
    (F_116 N p_3.1 (gI p_3.2 42 6) (p_3.2)).bind fun p_21 =>
    some (p_21.1, p_21.2)
  else none
  else none
set_option maxRecDepth 100000 in
theorem F_118_R {N : Nat} {t : Nat} {x_1 : Int32} {x_2 : Int32} {σ : st_S} {p : Int32 × st_S} (H : F_118 N t x_1 x_2 σ = some p) : gR p.2 = gR σ := by
  unfold F_118 at H
  obtain ⟨_, H⟩ := F_gd H
  obtain ⟨_, H⟩ := F_gd H
  obtain ⟨p_3, G_3, H⟩ := F_bd H
  refine F_if H (fun _ H => ?_) (fun _ H => ?_)
  · obtain ⟨p_5, G_5, H⟩ := F_bd H
    refine F_if H (fun _ H => ?_) (fun _ H => ?_)
    · obtain rfl := Option.some.inj H
      exact ((F_117_R G_5).trans ((F_70_R G_3).trans rfl))
    · obtain ⟨_, H⟩ := F_gd H
      obtain ⟨_, H⟩ := F_gd H
      refine F_if H (fun _ H => ?_) (fun _ H => ?_)
      · obtain ⟨p_10, G_10, H⟩ := F_bd H
        refine F_if H (fun _ H => ?_) (fun _ H => ?_)
        · obtain ⟨p_12, G_12, H⟩ := F_bd H
          obtain ⟨_, H⟩ := F_gd H
          exact (((L_118_R _ _ _ _ _ _ _ H)).trans ((F_121_R G_12).trans ((F_119_R G_10).trans ((F_117_R G_5).trans ((F_70_R G_3).trans rfl)))))
        · obtain rfl := Option.some.inj H
          exact ((F_119_R G_10).trans ((F_117_R G_5).trans ((F_70_R G_3).trans rfl)))
      · refine F_if H (fun _ H => ?_) (fun _ H => ?_)
        · obtain ⟨p_15, G_15, H⟩ := F_bd H
          refine F_if H (fun _ H => ?_) (fun _ H => ?_)
          · obtain ⟨p_17, G_17, H⟩ := F_bd H
            obtain ⟨_, H⟩ := F_gd H
            exact (((L_118_R _ _ _ _ _ _ _ H)).trans ((F_121_R G_17).trans ((F_119_R G_15).trans ((F_117_R G_5).trans ((F_70_R G_3).trans rfl)))))
          · obtain rfl := Option.some.inj H
            exact ((F_119_R G_15).trans ((F_117_R G_5).trans ((F_70_R G_3).trans rfl)))
        · obtain ⟨_, H⟩ := F_gd H
          obtain ⟨p_20, G_20, H⟩ := F_bd H
          obtain rfl := Option.some.inj H
          exact ((F_116_R G_20).trans ((F_117_R G_5).trans ((F_70_R G_3).trans rfl)))
  · obtain ⟨p_21, G_21, H⟩ := F_bd H
    obtain rfl := Option.some.inj H
    exact ((F_116_R G_21).trans ((F_70_R G_3).trans rfl))
set_option maxHeartbeats 4000000 in
set_option maxRecDepth 100000 in
theorem F_118_ok {N d : Nat} {t : Nat} (ht : t = 4 ∨ t = 20) {x_1 : Int32} {x_2 : Int32} {σ : st_S} {p : Int32 × st_S} (hr_42_3 : gR σ 42 3 = t) (hr_42_4 : gR σ 42 4 = (t + 1)) (hr_62_5 : gR σ 62 5 = t) (hr_62_6 : gR σ 62 6 = (t + 1)) (H : F_118 N t x_1 x_2 σ = some p) : vz_ev P0 (d + 8) 118 0 (lv_args 0 [.ref 62, .int x_1, .int x_2]) [] (hp σ) (.inl (some (.int p.1)), hp p.2) := by
  unfold F_118 at H
  rcases ht with rfl | rfl
  · refine ev_x (i := .aload_n 0) (len := 1) (p' := 1) (s' := [.ref 62]) rfl rfl rfl ?_
    refine ev_gr (p' := 4) (v := 4) rfl rfl rfl ly_62 rfl rfl hr_62_5 ?_
    refine ev_gc (p' := 7) (v := 19) rfl rfl rfl ly_4 rfl rfl ?_
    refine ev_x (i := .iload_n 2) (len := 1) (p' := 8) (s' := [.int x_2, .ref 19]) rfl rfl rfl ?_
    obtain ⟨b_1, H⟩ := F_gd H
    refine ev_ga (p' := 9) (v := (gE (σ) 19 (x_2 : Int32).toNatClampNeg)) rfl rfl ly_19 rfl (gd_in b_1) rfl ?_
    refine ev_x (i := .istore_n 3) (len := 1) (p' := 10) (s' := []) (l' := [(3, .int (gE (σ) 19 (x_2 : Int32).toNatClampNeg)), (0, .ref 62), (1, .int x_1), (2, .int x_2)]) rfl rfl rfl ?_
    refine ev_x (i := .aload_n 0) (len := 1) (p' := 11) (s' := [.ref 62]) rfl rfl rfl ?_
    refine ev_gr (p' := 14) (v := 5) rfl rfl rfl ly_62 rfl rfl hr_62_6 ?_
    refine ev_gc (p' := 17) (v := 9) rfl rfl rfl ly_5 rfl rfl ?_
    refine ev_x (i := .iload_n 3) (len := 1) (p' := 18) (s' := [.int (gE (σ) 19 (x_2 : Int32).toNatClampNeg), .ref 9]) rfl rfl rfl ?_
    obtain ⟨b_2, H⟩ := F_gd H
    refine ev_ga (p' := 19) (v := (gE (σ) 9 ((gE (σ) 19 (x_2 : Int32).toNatClampNeg) : Int32).toNatClampNeg)) rfl rfl ly_9 rfl (gd_in b_2) rfl ?_
    refine ev_x (i := .istore 4) (len := 2) (p' := 21) (s' := []) (l' := [(4, .int (gE (σ) 9 ((gE (σ) 19 (x_2 : Int32).toNatClampNeg) : Int32).toNatClampNeg)), (3, .int (gE (σ) 19 (x_2 : Int32).toNatClampNeg)), (0, .ref 62), (1, .int x_1), (2, .int x_2)]) rfl rfl rfl ?_
    refine ev_x (i := .aload_n 0) (len := 1) (p' := 22) (s' := [.ref 62]) rfl rfl rfl ?_
    refine ev_gc (p' := 25) (v := 42) rfl rfl rfl ly_62 rfl rfl ?_
    refine ev_x (i := .iload 4) (len := 2) (p' := 27) (s' := [.int (gE (σ) 9 ((gE (σ) 19 (x_2 : Int32).toNatClampNeg) : Int32).toNatClampNeg), .ref 42]) rfl rfl rfl ?_
    obtain ⟨p_3, G_3, H⟩ := F_bd H
    refine ev_cv (d := d + 7) (As := [.int (gE (σ) 9 ((gE (σ) 19 (x_2 : Int32).toNatClampNeg) : Int32).toNatClampNeg)]) (a := 42) (p' := 30) rfl rfl rfl ly_42 rfl rfl rfl rfl rfl rfl rfl (F_70_ok (d := d + 4) (ht := (Or.inl rfl)) (hr_42_3 := hr_42_3) (hr_42_4 := hr_42_4) G_3) ?_
    refine ev_st (st' := [.int p_3.1]) rfl ?_
    have e_3 := F_70_R G_3
    refine ev_x (i := .istore 5) (len := 2) (p' := 32) (s' := []) (l' := [(5, .int p_3.1), (4, .int (gE (σ) 9 ((gE (σ) 19 (x_2 : Int32).toNatClampNeg) : Int32).toNatClampNeg)), (3, .int (gE (σ) 19 (x_2 : Int32).toNatClampNeg)), (0, .ref 62), (1, .int x_1), (2, .int x_2)]) rfl rfl rfl ?_
    refine ev_x (i := .iload 5) (len := 2) (p' := 34) (s' := [.int p_3.1]) rfl rfl rfl ?_
    refine F_if H (fun c_4 H => ?_) (fun c_4 H => ?_)
    · refine ev_b0 (t := 51) (p' := 51) rfl rfl rfl (if_pos c_4) ?_
      refine ev_x (i := .aload_n 0) (len := 1) (p' := 52) (s' := [.ref 62]) rfl rfl rfl ?_
      refine ev_gc (p' := 55) (v := 42) rfl rfl rfl ly_62 rfl rfl ?_
      refine ev_x (i := .iload 4) (len := 2) (p' := 57) (s' := [.int (gE (σ) 9 ((gE (σ) 19 (x_2 : Int32).toNatClampNeg) : Int32).toNatClampNeg), .ref 42]) rfl rfl rfl ?_
      obtain ⟨p_5, G_5, H⟩ := F_bd H
      refine ev_cv (d := d + 7) (As := [.int (gE (σ) 9 ((gE (σ) 19 (x_2 : Int32).toNatClampNeg) : Int32).toNatClampNeg)]) (a := 42) (p' := 60) rfl rfl rfl ly_42 rfl rfl rfl rfl rfl rfl rfl (F_117_ok (d := d + 6) (ht := (Or.inl rfl)) (hr_42_4 := ((congrFun (congrFun e_3 42) 4).trans hr_42_4)) G_5) ?_
      refine ev_st (st' := [.int p_5.1]) rfl ?_
      have e_5 := F_117_R G_5
      refine F_if H (fun c_6 H => ?_) (fun c_6 H => ?_)
      · refine ev_b0 (t := 65) (p' := 63) rfl rfl rfl (if_neg (fun q => q c_6)) ?_
        refine ev_x (i := .iconst 0) (len := 1) (p' := 64) (s' := [.int 0]) rfl rfl rfl ?_
        obtain rfl := Option.some.inj H
        exact ev_iret rfl rfl rfl rfl
      · refine ev_b0 (t := 65) (p' := 65) rfl rfl rfl (if_pos c_6) ?_
        refine ev_x (i := .aload_n 0) (len := 1) (p' := 66) (s' := [.ref 62]) rfl rfl rfl ?_
        refine ev_gr (p' := 69) (v := 5) rfl rfl rfl ly_62 rfl rfl ((congrFun (congrFun e_5 62) 6).trans ((congrFun (congrFun e_3 62) 6).trans hr_62_6)) ?_
        refine ev_gc (p' := 72) (v := 8) rfl rfl rfl ly_5 rfl rfl ?_
        refine ev_x (i := .iload_n 3) (len := 1) (p' := 73) (s' := [.int (gE (σ) 19 (x_2 : Int32).toNatClampNeg), .ref 8]) rfl rfl rfl ?_
        obtain ⟨b_7, H⟩ := F_gd H
        refine ev_ga (p' := 74) (v := (gE (p_5.2) 8 ((gE (σ) 19 (x_2 : Int32).toNatClampNeg) : Int32).toNatClampNeg)) rfl rfl ly_8 rfl (gd_in b_7) rfl ?_
        refine ev_x (i := .istore 6) (len := 2) (p' := 76) (s' := []) (l' := [(6, .int (gE (p_5.2) 8 ((gE (σ) 19 (x_2 : Int32).toNatClampNeg) : Int32).toNatClampNeg)), (5, .int p_3.1), (4, .int (gE (σ) 9 ((gE (σ) 19 (x_2 : Int32).toNatClampNeg) : Int32).toNatClampNeg)), (3, .int (gE (σ) 19 (x_2 : Int32).toNatClampNeg)), (0, .ref 62), (1, .int x_1), (2, .int x_2)]) rfl rfl rfl ?_
        refine ev_x (i := .aload_n 0) (len := 1) (p' := 77) (s' := [.ref 62]) rfl rfl rfl ?_
        refine ev_gc (p' := 80) (v := 52) rfl rfl rfl ly_62 rfl rfl ?_
        refine ev_gc (p' := 83) (v := 55) rfl rfl rfl ly_52 rfl rfl ?_
        refine ev_x (i := .iload_n 1) (len := 1) (p' := 84) (s' := [.int x_1, .ref 55]) rfl rfl rfl ?_
        obtain ⟨b_8, H⟩ := F_gd H
        refine ev_ga (p' := 85) (v := (gE (p_5.2) 55 (x_1 : Int32).toNatClampNeg)) rfl rfl ly_55 rfl (gd_in b_8) rfl ?_
        refine F_if H (fun c_9 H => ?_) (fun c_9 H => ?_)
        · refine ev_b0 (t := 118) (p' := 118) rfl rfl rfl (if_pos c_9) ?_
          refine ev_x (i := .aload_n 0) (len := 1) (p' := 119) (s' := [.ref 62]) rfl rfl rfl ?_
          refine ev_gc (p' := 122) (v := 52) rfl rfl rfl ly_62 rfl rfl ?_
          refine ev_gc (p' := 125) (v := 55) rfl rfl rfl ly_52 rfl rfl ?_
          refine ev_x (i := .iload_n 1) (len := 1) (p' := 126) (s' := [.int x_1, .ref 55]) rfl rfl rfl ?_
          refine ev_x (i := .iload 6) (len := 2) (p' := 128) (s' := [.int (gE (p_5.2) 8 ((gE (σ) 19 (x_2 : Int32).toNatClampNeg) : Int32).toNatClampNeg), .int x_1, .ref 55]) rfl rfl rfl ?_
          refine ev_pa (j := (x_1 : Int32).toNatClampNeg) (p' := 129) rfl rfl ly_55 rfl (gd_in b_8) rfl ?_
          refine ev_x (i := .aload_n 0) (len := 1) (p' := 130) (s' := [.ref 62]) rfl rfl rfl ?_
          refine ev_x (i := .iload_n 3) (len := 1) (p' := 131) (s' := [.int (gE (σ) 19 (x_2 : Int32).toNatClampNeg), .ref 62]) rfl rfl rfl ?_
          obtain ⟨p_10, G_10, H⟩ := F_bd H
          refine ev_cv (d := d + 7) (As := [.int (gE (σ) 19 (x_2 : Int32).toNatClampNeg)]) (a := 62) (p' := 134) rfl rfl rfl ly_62 rfl rfl rfl rfl rfl rfl rfl (F_119_ok (d := d + 2) (ht := (Or.inl rfl)) (hr_42_3 := ((congrFun (congrFun e_5 42) 3).trans ((congrFun (congrFun e_3 42) 3).trans hr_42_3))) (hr_42_4 := ((congrFun (congrFun e_5 42) 4).trans ((congrFun (congrFun e_3 42) 4).trans hr_42_4))) (hr_62_6 := ((congrFun (congrFun e_5 62) 6).trans ((congrFun (congrFun e_3 62) 6).trans hr_62_6))) G_10) ?_
          refine ev_st (st' := [.int p_10.1]) rfl ?_
          have e_10 := F_119_R G_10
          refine ev_x (i := .istore 5) (len := 2) (p' := 136) (s' := []) (l' := [(5, .int p_10.1), (6, .int (gE (p_5.2) 8 ((gE (σ) 19 (x_2 : Int32).toNatClampNeg) : Int32).toNatClampNeg)), (4, .int (gE (σ) 9 ((gE (σ) 19 (x_2 : Int32).toNatClampNeg) : Int32).toNatClampNeg)), (3, .int (gE (σ) 19 (x_2 : Int32).toNatClampNeg)), (0, .ref 62), (1, .int x_1), (2, .int x_2)]) rfl rfl rfl ?_
          refine ev_x (i := .iload 5) (len := 2) (p' := 138) (s' := [.int p_10.1]) rfl rfl rfl ?_
          refine F_if H (fun c_11 H => ?_) (fun c_11 H => ?_)
          · refine ev_b0 (t := 144) (p' := 144) rfl rfl rfl (if_pos c_11) ?_
            refine ev_x (i := .aload_n 0) (len := 1) (p' := 145) (s' := [.ref 62]) rfl rfl rfl ?_
            refine ev_gc (p' := 148) (v := 52) rfl rfl rfl ly_62 rfl rfl ?_
            refine ev_x (i := .iload_n 1) (len := 1) (p' := 149) (s' := [.int x_1, .ref 52]) rfl rfl rfl ?_
            refine ev_x (i := .iload_n 2) (len := 1) (p' := 150) (s' := [.int x_2, .int x_1, .ref 52]) rfl rfl rfl ?_
            obtain ⟨p_12, G_12, H⟩ := F_bd H
            refine ev_cv (d := d + 7) (As := [.int x_1, .int x_2]) (a := 52) (p' := 153) rfl rfl rfl ly_52 rfl rfl rfl rfl rfl rfl rfl (F_121_ok (d := d + 2)   G_12) ?_
            refine ev_st (st' := []) rfl ?_
            have e_12 := F_121_R G_12
            refine ev_x (i := .aload_n 0) (len := 1) (p' := 154) (s' := [.ref 62]) rfl rfl rfl ?_
            refine ev_gr (p' := 157) (v := 5) rfl rfl rfl ly_62 rfl rfl ((congrFun (congrFun e_12 62) 6).trans ((congrFun (congrFun e_10 62) 6).trans ((congrFun (congrFun e_5 62) 6).trans ((congrFun (congrFun e_3 62) 6).trans hr_62_6)))) ?_
            refine ev_gc (p' := 160) (v := 10) rfl rfl rfl ly_5 rfl rfl ?_
            refine ev_x (i := .iload_n 3) (len := 1) (p' := 161) (s' := [.int (gE (σ) 19 (x_2 : Int32).toNatClampNeg), .ref 10]) rfl rfl rfl ?_
            obtain ⟨b_13, H⟩ := F_gd H
            refine ev_ga (p' := 162) (v := (gE (p_12) 10 ((gE (σ) 19 (x_2 : Int32).toNatClampNeg) : Int32).toNatClampNeg)) rfl rfl ly_10 rfl (gd_in b_13) rfl ?_
            refine ev_x (i := .istore 7) (len := 2) (p' := 164) (s' := []) (l' := [(7, .int (gE (p_12) 10 ((gE (σ) 19 (x_2 : Int32).toNatClampNeg) : Int32).toNatClampNeg)), (5, .int p_10.1), (6, .int (gE (p_5.2) 8 ((gE (σ) 19 (x_2 : Int32).toNatClampNeg) : Int32).toNatClampNeg)), (4, .int (gE (σ) 9 ((gE (σ) 19 (x_2 : Int32).toNatClampNeg) : Int32).toNatClampNeg)), (3, .int (gE (σ) 19 (x_2 : Int32).toNatClampNeg)), (0, .ref 62), (1, .int x_1), (2, .int x_2)]) rfl rfl rfl ?_
            refine ev_x (i := .iconst 0) (len := 1) (p' := 165) (s' := [.int 0]) rfl rfl rfl ?_
            refine ev_x (i := .istore 8) (len := 2) (p' := 167) (s' := []) (l' := [(8, .int 0), (7, .int (gE (p_12) 10 ((gE (σ) 19 (x_2 : Int32).toNatClampNeg) : Int32).toNatClampNeg)), (5, .int p_10.1), (6, .int (gE (p_5.2) 8 ((gE (σ) 19 (x_2 : Int32).toNatClampNeg) : Int32).toNatClampNeg)), (4, .int (gE (σ) 9 ((gE (σ) 19 (x_2 : Int32).toNatClampNeg) : Int32).toNatClampNeg)), (3, .int (gE (σ) 19 (x_2 : Int32).toNatClampNeg)), (0, .ref 62), (1, .int x_1), (2, .int x_2)]) rfl rfl rfl ?_
            exact (L_118_ok (d := d) (Or.inl rfl) N) _ _ _ _ _ _ _ rfl rfl rfl rfl rfl rfl ((congrFun (congrFun e_12 42) 3).trans ((congrFun (congrFun e_10 42) 3).trans ((congrFun (congrFun e_5 42) 3).trans ((congrFun (congrFun e_3 42) 3).trans hr_42_3)))) ((congrFun (congrFun e_12 42) 4).trans ((congrFun (congrFun e_10 42) 4).trans ((congrFun (congrFun e_5 42) 4).trans ((congrFun (congrFun e_3 42) 4).trans hr_42_4)))) ((congrFun (congrFun e_12 62) 5).trans ((congrFun (congrFun e_10 62) 5).trans ((congrFun (congrFun e_5 62) 5).trans ((congrFun (congrFun e_3 62) 5).trans hr_62_5)))) ((congrFun (congrFun e_12 62) 6).trans ((congrFun (congrFun e_10 62) 6).trans ((congrFun (congrFun e_5 62) 6).trans ((congrFun (congrFun e_3 62) 6).trans hr_62_6)))) H
          · refine ev_b0 (t := 144) (p' := 141) rfl rfl rfl (if_neg c_11) ?_
            refine ev_x (i := .iload 5) (len := 2) (p' := 143) (s' := [.int p_10.1]) rfl rfl rfl ?_
            obtain rfl := Option.some.inj H
            exact ev_iret rfl rfl rfl rfl
        · refine ev_b0 (t := 118) (p' := 88) rfl rfl rfl (if_neg c_9) ?_
          refine ev_x (i := .aload_n 0) (len := 1) (p' := 89) (s' := [.ref 62]) rfl rfl rfl ?_
          refine ev_gc (p' := 92) (v := 52) rfl rfl rfl ly_62 rfl rfl ?_
          refine ev_gc (p' := 95) (v := 55) rfl rfl rfl ly_52 rfl rfl ?_
          refine ev_x (i := .iload_n 1) (len := 1) (p' := 96) (s' := [.int x_1, .ref 55]) rfl rfl rfl ?_
          refine ev_ga (p' := 97) (v := (gE (p_5.2) 55 (x_1 : Int32).toNatClampNeg)) rfl rfl ly_55 rfl (gd_in b_8) rfl ?_
          refine ev_x (i := .iload 6) (len := 2) (p' := 99) (s' := [.int (gE (p_5.2) 8 ((gE (σ) 19 (x_2 : Int32).toNatClampNeg) : Int32).toNatClampNeg), .int (gE (p_5.2) 55 (x_1 : Int32).toNatClampNeg)]) rfl rfl rfl ?_
          refine F_if H (fun c_14 H => ?_) (fun c_14 H => ?_)
          · refine ev_b2 (t := 118) (p' := 118) rfl rfl rfl (if_pos c_14) ?_
            refine ev_x (i := .aload_n 0) (len := 1) (p' := 119) (s' := [.ref 62]) rfl rfl rfl ?_
            refine ev_gc (p' := 122) (v := 52) rfl rfl rfl ly_62 rfl rfl ?_
            refine ev_gc (p' := 125) (v := 55) rfl rfl rfl ly_52 rfl rfl ?_
            refine ev_x (i := .iload_n 1) (len := 1) (p' := 126) (s' := [.int x_1, .ref 55]) rfl rfl rfl ?_
            refine ev_x (i := .iload 6) (len := 2) (p' := 128) (s' := [.int (gE (p_5.2) 8 ((gE (σ) 19 (x_2 : Int32).toNatClampNeg) : Int32).toNatClampNeg), .int x_1, .ref 55]) rfl rfl rfl ?_
            refine ev_pa (j := (x_1 : Int32).toNatClampNeg) (p' := 129) rfl rfl ly_55 rfl (gd_in b_8) rfl ?_
            refine ev_x (i := .aload_n 0) (len := 1) (p' := 130) (s' := [.ref 62]) rfl rfl rfl ?_
            refine ev_x (i := .iload_n 3) (len := 1) (p' := 131) (s' := [.int (gE (σ) 19 (x_2 : Int32).toNatClampNeg), .ref 62]) rfl rfl rfl ?_
            obtain ⟨p_15, G_15, H⟩ := F_bd H
            refine ev_cv (d := d + 7) (As := [.int (gE (σ) 19 (x_2 : Int32).toNatClampNeg)]) (a := 62) (p' := 134) rfl rfl rfl ly_62 rfl rfl rfl rfl rfl rfl rfl (F_119_ok (d := d + 2) (ht := (Or.inl rfl)) (hr_42_3 := ((congrFun (congrFun e_5 42) 3).trans ((congrFun (congrFun e_3 42) 3).trans hr_42_3))) (hr_42_4 := ((congrFun (congrFun e_5 42) 4).trans ((congrFun (congrFun e_3 42) 4).trans hr_42_4))) (hr_62_6 := ((congrFun (congrFun e_5 62) 6).trans ((congrFun (congrFun e_3 62) 6).trans hr_62_6))) G_15) ?_
            refine ev_st (st' := [.int p_15.1]) rfl ?_
            have e_15 := F_119_R G_15
            refine ev_x (i := .istore 5) (len := 2) (p' := 136) (s' := []) (l' := [(5, .int p_15.1), (6, .int (gE (p_5.2) 8 ((gE (σ) 19 (x_2 : Int32).toNatClampNeg) : Int32).toNatClampNeg)), (4, .int (gE (σ) 9 ((gE (σ) 19 (x_2 : Int32).toNatClampNeg) : Int32).toNatClampNeg)), (3, .int (gE (σ) 19 (x_2 : Int32).toNatClampNeg)), (0, .ref 62), (1, .int x_1), (2, .int x_2)]) rfl rfl rfl ?_
            refine ev_x (i := .iload 5) (len := 2) (p' := 138) (s' := [.int p_15.1]) rfl rfl rfl ?_
            refine F_if H (fun c_16 H => ?_) (fun c_16 H => ?_)
            · refine ev_b0 (t := 144) (p' := 144) rfl rfl rfl (if_pos c_16) ?_
              refine ev_x (i := .aload_n 0) (len := 1) (p' := 145) (s' := [.ref 62]) rfl rfl rfl ?_
              refine ev_gc (p' := 148) (v := 52) rfl rfl rfl ly_62 rfl rfl ?_
              refine ev_x (i := .iload_n 1) (len := 1) (p' := 149) (s' := [.int x_1, .ref 52]) rfl rfl rfl ?_
              refine ev_x (i := .iload_n 2) (len := 1) (p' := 150) (s' := [.int x_2, .int x_1, .ref 52]) rfl rfl rfl ?_
              obtain ⟨p_17, G_17, H⟩ := F_bd H
              refine ev_cv (d := d + 7) (As := [.int x_1, .int x_2]) (a := 52) (p' := 153) rfl rfl rfl ly_52 rfl rfl rfl rfl rfl rfl rfl (F_121_ok (d := d + 2)   G_17) ?_
              refine ev_st (st' := []) rfl ?_
              have e_17 := F_121_R G_17
              refine ev_x (i := .aload_n 0) (len := 1) (p' := 154) (s' := [.ref 62]) rfl rfl rfl ?_
              refine ev_gr (p' := 157) (v := 5) rfl rfl rfl ly_62 rfl rfl ((congrFun (congrFun e_17 62) 6).trans ((congrFun (congrFun e_15 62) 6).trans ((congrFun (congrFun e_5 62) 6).trans ((congrFun (congrFun e_3 62) 6).trans hr_62_6)))) ?_
              refine ev_gc (p' := 160) (v := 10) rfl rfl rfl ly_5 rfl rfl ?_
              refine ev_x (i := .iload_n 3) (len := 1) (p' := 161) (s' := [.int (gE (σ) 19 (x_2 : Int32).toNatClampNeg), .ref 10]) rfl rfl rfl ?_
              obtain ⟨b_18, H⟩ := F_gd H
              refine ev_ga (p' := 162) (v := (gE (p_17) 10 ((gE (σ) 19 (x_2 : Int32).toNatClampNeg) : Int32).toNatClampNeg)) rfl rfl ly_10 rfl (gd_in b_18) rfl ?_
              refine ev_x (i := .istore 7) (len := 2) (p' := 164) (s' := []) (l' := [(7, .int (gE (p_17) 10 ((gE (σ) 19 (x_2 : Int32).toNatClampNeg) : Int32).toNatClampNeg)), (5, .int p_15.1), (6, .int (gE (p_5.2) 8 ((gE (σ) 19 (x_2 : Int32).toNatClampNeg) : Int32).toNatClampNeg)), (4, .int (gE (σ) 9 ((gE (σ) 19 (x_2 : Int32).toNatClampNeg) : Int32).toNatClampNeg)), (3, .int (gE (σ) 19 (x_2 : Int32).toNatClampNeg)), (0, .ref 62), (1, .int x_1), (2, .int x_2)]) rfl rfl rfl ?_
              refine ev_x (i := .iconst 0) (len := 1) (p' := 165) (s' := [.int 0]) rfl rfl rfl ?_
              refine ev_x (i := .istore 8) (len := 2) (p' := 167) (s' := []) (l' := [(8, .int 0), (7, .int (gE (p_17) 10 ((gE (σ) 19 (x_2 : Int32).toNatClampNeg) : Int32).toNatClampNeg)), (5, .int p_15.1), (6, .int (gE (p_5.2) 8 ((gE (σ) 19 (x_2 : Int32).toNatClampNeg) : Int32).toNatClampNeg)), (4, .int (gE (σ) 9 ((gE (σ) 19 (x_2 : Int32).toNatClampNeg) : Int32).toNatClampNeg)), (3, .int (gE (σ) 19 (x_2 : Int32).toNatClampNeg)), (0, .ref 62), (1, .int x_1), (2, .int x_2)]) rfl rfl rfl ?_
              exact (L_118_ok (d := d) (Or.inl rfl) N) _ _ _ _ _ _ _ rfl rfl rfl rfl rfl rfl ((congrFun (congrFun e_17 42) 3).trans ((congrFun (congrFun e_15 42) 3).trans ((congrFun (congrFun e_5 42) 3).trans ((congrFun (congrFun e_3 42) 3).trans hr_42_3)))) ((congrFun (congrFun e_17 42) 4).trans ((congrFun (congrFun e_15 42) 4).trans ((congrFun (congrFun e_5 42) 4).trans ((congrFun (congrFun e_3 42) 4).trans hr_42_4)))) ((congrFun (congrFun e_17 62) 5).trans ((congrFun (congrFun e_15 62) 5).trans ((congrFun (congrFun e_5 62) 5).trans ((congrFun (congrFun e_3 62) 5).trans hr_62_5)))) ((congrFun (congrFun e_17 62) 6).trans ((congrFun (congrFun e_15 62) 6).trans ((congrFun (congrFun e_5 62) 6).trans ((congrFun (congrFun e_3 62) 6).trans hr_62_6)))) H
            · refine ev_b0 (t := 144) (p' := 141) rfl rfl rfl (if_neg c_16) ?_
              refine ev_x (i := .iload 5) (len := 2) (p' := 143) (s' := [.int p_15.1]) rfl rfl rfl ?_
              obtain rfl := Option.some.inj H
              exact ev_iret rfl rfl rfl rfl
          · refine ev_b2 (t := 118) (p' := 102) rfl rfl rfl (if_neg c_14) ?_
            refine ev_x (i := .aload_n 0) (len := 1) (p' := 103) (s' := [.ref 62]) rfl rfl rfl ?_
            refine ev_x (i := .bipush 13) (len := 2) (p' := 105) (s' := [.int 13, .ref 62]) rfl rfl rfl ?_
            refine ev_x (i := .aload_n 0) (len := 1) (p' := 106) (s' := [.ref 62, .int 13, .ref 62]) rfl rfl rfl ?_
            refine ev_gr (p' := 109) (v := 5) rfl rfl rfl ly_62 rfl rfl ((congrFun (congrFun e_5 62) 6).trans ((congrFun (congrFun e_3 62) 6).trans hr_62_6)) ?_
            refine ev_gc (p' := 112) (v := 7) rfl rfl rfl ly_5 rfl rfl ?_
            refine ev_x (i := .iload_n 3) (len := 1) (p' := 113) (s' := [.int (gE (σ) 19 (x_2 : Int32).toNatClampNeg), .ref 7, .int 13, .ref 62]) rfl rfl rfl ?_
            obtain ⟨b_19, H⟩ := F_gd H
            refine ev_ga (p' := 114) (v := (gE (p_5.2) 7 ((gE (σ) 19 (x_2 : Int32).toNatClampNeg) : Int32).toNatClampNeg)) rfl rfl ly_7 rfl (gd_in b_19) rfl ?_
            obtain ⟨p_20, G_20, H⟩ := F_bd H
            refine ev_cv (d := d + 7) (As := [.int 13, .int (gE (p_5.2) 7 ((gE (σ) 19 (x_2 : Int32).toNatClampNeg) : Int32).toNatClampNeg)]) (a := 62) (p' := 117) rfl rfl rfl ly_62 rfl rfl rfl rfl rfl rfl rfl (F_116_ok (d := d + 6)   G_20) ?_
            refine ev_st (st' := [.int p_20.1]) rfl ?_
            have e_20 := F_116_R G_20
            obtain rfl := Option.some.inj H
            exact ev_iret rfl rfl rfl rfl
    · refine ev_b0 (t := 51) (p' := 37) rfl rfl rfl (if_neg c_4) ?_
      refine ev_x (i := .aload_n 0) (len := 1) (p' := 38) (s' := [.ref 62]) rfl rfl rfl ?_
      refine ev_x (i := .iload 5) (len := 2) (p' := 40) (s' := [.int p_3.1, .ref 62]) rfl rfl rfl ?_
      refine ev_x (i := .aload_n 0) (len := 1) (p' := 41) (s' := [.ref 62, .int p_3.1, .ref 62]) rfl rfl rfl ?_
      refine ev_gc (p' := 44) (v := 42) rfl rfl rfl ly_62 rfl rfl ?_
      refine ev_gi (p' := 47) (v := (gI p_3.2 42 6)) rfl rfl rfl ly_42 rfl rfl rfl ?_
      obtain ⟨p_21, G_21, H⟩ := F_bd H
      refine ev_cv (d := d + 7) (As := [.int p_3.1, .int (gI p_3.2 42 6)]) (a := 62) (p' := 50) rfl rfl rfl ly_62 rfl rfl rfl rfl rfl rfl rfl (F_116_ok (d := d + 6)   G_21) ?_
      refine ev_st (st' := [.int p_21.1]) rfl ?_
      have e_21 := F_116_R G_21
      obtain rfl := Option.some.inj H
      exact ev_iret rfl rfl rfl rfl
  · refine ev_x (i := .aload_n 0) (len := 1) (p' := 1) (s' := [.ref 62]) rfl rfl rfl ?_
    refine ev_gr (p' := 4) (v := 20) rfl rfl rfl ly_62 rfl rfl hr_62_5 ?_
    refine ev_gc (p' := 7) (v := 35) rfl rfl rfl ly_20 rfl rfl ?_
    refine ev_x (i := .iload_n 2) (len := 1) (p' := 8) (s' := [.int x_2, .ref 35]) rfl rfl rfl ?_
    obtain ⟨b_1, H⟩ := F_gd H
    refine ev_ga (p' := 9) (v := (gE (σ) 35 (x_2 : Int32).toNatClampNeg)) rfl rfl ly_35 rfl (gd_in b_1) rfl ?_
    refine ev_x (i := .istore_n 3) (len := 1) (p' := 10) (s' := []) (l' := [(3, .int (gE (σ) 35 (x_2 : Int32).toNatClampNeg)), (0, .ref 62), (1, .int x_1), (2, .int x_2)]) rfl rfl rfl ?_
    refine ev_x (i := .aload_n 0) (len := 1) (p' := 11) (s' := [.ref 62]) rfl rfl rfl ?_
    refine ev_gr (p' := 14) (v := 21) rfl rfl rfl ly_62 rfl rfl hr_62_6 ?_
    refine ev_gc (p' := 17) (v := 25) rfl rfl rfl ly_21 rfl rfl ?_
    refine ev_x (i := .iload_n 3) (len := 1) (p' := 18) (s' := [.int (gE (σ) 35 (x_2 : Int32).toNatClampNeg), .ref 25]) rfl rfl rfl ?_
    obtain ⟨b_2, H⟩ := F_gd H
    refine ev_ga (p' := 19) (v := (gE (σ) 25 ((gE (σ) 35 (x_2 : Int32).toNatClampNeg) : Int32).toNatClampNeg)) rfl rfl ly_25 rfl (gd_in b_2) rfl ?_
    refine ev_x (i := .istore 4) (len := 2) (p' := 21) (s' := []) (l' := [(4, .int (gE (σ) 25 ((gE (σ) 35 (x_2 : Int32).toNatClampNeg) : Int32).toNatClampNeg)), (3, .int (gE (σ) 35 (x_2 : Int32).toNatClampNeg)), (0, .ref 62), (1, .int x_1), (2, .int x_2)]) rfl rfl rfl ?_
    refine ev_x (i := .aload_n 0) (len := 1) (p' := 22) (s' := [.ref 62]) rfl rfl rfl ?_
    refine ev_gc (p' := 25) (v := 42) rfl rfl rfl ly_62 rfl rfl ?_
    refine ev_x (i := .iload 4) (len := 2) (p' := 27) (s' := [.int (gE (σ) 25 ((gE (σ) 35 (x_2 : Int32).toNatClampNeg) : Int32).toNatClampNeg), .ref 42]) rfl rfl rfl ?_
    obtain ⟨p_3, G_3, H⟩ := F_bd H
    refine ev_cv (d := d + 7) (As := [.int (gE (σ) 25 ((gE (σ) 35 (x_2 : Int32).toNatClampNeg) : Int32).toNatClampNeg)]) (a := 42) (p' := 30) rfl rfl rfl ly_42 rfl rfl rfl rfl rfl rfl rfl (F_70_ok (d := d + 4) (ht := (Or.inr rfl)) (hr_42_3 := hr_42_3) (hr_42_4 := hr_42_4) G_3) ?_
    refine ev_st (st' := [.int p_3.1]) rfl ?_
    have e_3 := F_70_R G_3
    refine ev_x (i := .istore 5) (len := 2) (p' := 32) (s' := []) (l' := [(5, .int p_3.1), (4, .int (gE (σ) 25 ((gE (σ) 35 (x_2 : Int32).toNatClampNeg) : Int32).toNatClampNeg)), (3, .int (gE (σ) 35 (x_2 : Int32).toNatClampNeg)), (0, .ref 62), (1, .int x_1), (2, .int x_2)]) rfl rfl rfl ?_
    refine ev_x (i := .iload 5) (len := 2) (p' := 34) (s' := [.int p_3.1]) rfl rfl rfl ?_
    refine F_if H (fun c_4 H => ?_) (fun c_4 H => ?_)
    · refine ev_b0 (t := 51) (p' := 51) rfl rfl rfl (if_pos c_4) ?_
      refine ev_x (i := .aload_n 0) (len := 1) (p' := 52) (s' := [.ref 62]) rfl rfl rfl ?_
      refine ev_gc (p' := 55) (v := 42) rfl rfl rfl ly_62 rfl rfl ?_
      refine ev_x (i := .iload 4) (len := 2) (p' := 57) (s' := [.int (gE (σ) 25 ((gE (σ) 35 (x_2 : Int32).toNatClampNeg) : Int32).toNatClampNeg), .ref 42]) rfl rfl rfl ?_
      obtain ⟨p_5, G_5, H⟩ := F_bd H
      refine ev_cv (d := d + 7) (As := [.int (gE (σ) 25 ((gE (σ) 35 (x_2 : Int32).toNatClampNeg) : Int32).toNatClampNeg)]) (a := 42) (p' := 60) rfl rfl rfl ly_42 rfl rfl rfl rfl rfl rfl rfl (F_117_ok (d := d + 6) (ht := (Or.inr rfl)) (hr_42_4 := ((congrFun (congrFun e_3 42) 4).trans hr_42_4)) G_5) ?_
      refine ev_st (st' := [.int p_5.1]) rfl ?_
      have e_5 := F_117_R G_5
      refine F_if H (fun c_6 H => ?_) (fun c_6 H => ?_)
      · refine ev_b0 (t := 65) (p' := 63) rfl rfl rfl (if_neg (fun q => q c_6)) ?_
        refine ev_x (i := .iconst 0) (len := 1) (p' := 64) (s' := [.int 0]) rfl rfl rfl ?_
        obtain rfl := Option.some.inj H
        exact ev_iret rfl rfl rfl rfl
      · refine ev_b0 (t := 65) (p' := 65) rfl rfl rfl (if_pos c_6) ?_
        refine ev_x (i := .aload_n 0) (len := 1) (p' := 66) (s' := [.ref 62]) rfl rfl rfl ?_
        refine ev_gr (p' := 69) (v := 21) rfl rfl rfl ly_62 rfl rfl ((congrFun (congrFun e_5 62) 6).trans ((congrFun (congrFun e_3 62) 6).trans hr_62_6)) ?_
        refine ev_gc (p' := 72) (v := 24) rfl rfl rfl ly_21 rfl rfl ?_
        refine ev_x (i := .iload_n 3) (len := 1) (p' := 73) (s' := [.int (gE (σ) 35 (x_2 : Int32).toNatClampNeg), .ref 24]) rfl rfl rfl ?_
        obtain ⟨b_7, H⟩ := F_gd H
        refine ev_ga (p' := 74) (v := (gE (p_5.2) 24 ((gE (σ) 35 (x_2 : Int32).toNatClampNeg) : Int32).toNatClampNeg)) rfl rfl ly_24 rfl (gd_in b_7) rfl ?_
        refine ev_x (i := .istore 6) (len := 2) (p' := 76) (s' := []) (l' := [(6, .int (gE (p_5.2) 24 ((gE (σ) 35 (x_2 : Int32).toNatClampNeg) : Int32).toNatClampNeg)), (5, .int p_3.1), (4, .int (gE (σ) 25 ((gE (σ) 35 (x_2 : Int32).toNatClampNeg) : Int32).toNatClampNeg)), (3, .int (gE (σ) 35 (x_2 : Int32).toNatClampNeg)), (0, .ref 62), (1, .int x_1), (2, .int x_2)]) rfl rfl rfl ?_
        refine ev_x (i := .aload_n 0) (len := 1) (p' := 77) (s' := [.ref 62]) rfl rfl rfl ?_
        refine ev_gc (p' := 80) (v := 52) rfl rfl rfl ly_62 rfl rfl ?_
        refine ev_gc (p' := 83) (v := 55) rfl rfl rfl ly_52 rfl rfl ?_
        refine ev_x (i := .iload_n 1) (len := 1) (p' := 84) (s' := [.int x_1, .ref 55]) rfl rfl rfl ?_
        obtain ⟨b_8, H⟩ := F_gd H
        refine ev_ga (p' := 85) (v := (gE (p_5.2) 55 (x_1 : Int32).toNatClampNeg)) rfl rfl ly_55 rfl (gd_in b_8) rfl ?_
        refine F_if H (fun c_9 H => ?_) (fun c_9 H => ?_)
        · refine ev_b0 (t := 118) (p' := 118) rfl rfl rfl (if_pos c_9) ?_
          refine ev_x (i := .aload_n 0) (len := 1) (p' := 119) (s' := [.ref 62]) rfl rfl rfl ?_
          refine ev_gc (p' := 122) (v := 52) rfl rfl rfl ly_62 rfl rfl ?_
          refine ev_gc (p' := 125) (v := 55) rfl rfl rfl ly_52 rfl rfl ?_
          refine ev_x (i := .iload_n 1) (len := 1) (p' := 126) (s' := [.int x_1, .ref 55]) rfl rfl rfl ?_
          refine ev_x (i := .iload 6) (len := 2) (p' := 128) (s' := [.int (gE (p_5.2) 24 ((gE (σ) 35 (x_2 : Int32).toNatClampNeg) : Int32).toNatClampNeg), .int x_1, .ref 55]) rfl rfl rfl ?_
          refine ev_pa (j := (x_1 : Int32).toNatClampNeg) (p' := 129) rfl rfl ly_55 rfl (gd_in b_8) rfl ?_
          refine ev_x (i := .aload_n 0) (len := 1) (p' := 130) (s' := [.ref 62]) rfl rfl rfl ?_
          refine ev_x (i := .iload_n 3) (len := 1) (p' := 131) (s' := [.int (gE (σ) 35 (x_2 : Int32).toNatClampNeg), .ref 62]) rfl rfl rfl ?_
          obtain ⟨p_10, G_10, H⟩ := F_bd H
          refine ev_cv (d := d + 7) (As := [.int (gE (σ) 35 (x_2 : Int32).toNatClampNeg)]) (a := 62) (p' := 134) rfl rfl rfl ly_62 rfl rfl rfl rfl rfl rfl rfl (F_119_ok (d := d + 2) (ht := (Or.inr rfl)) (hr_42_3 := ((congrFun (congrFun e_5 42) 3).trans ((congrFun (congrFun e_3 42) 3).trans hr_42_3))) (hr_42_4 := ((congrFun (congrFun e_5 42) 4).trans ((congrFun (congrFun e_3 42) 4).trans hr_42_4))) (hr_62_6 := ((congrFun (congrFun e_5 62) 6).trans ((congrFun (congrFun e_3 62) 6).trans hr_62_6))) G_10) ?_
          refine ev_st (st' := [.int p_10.1]) rfl ?_
          have e_10 := F_119_R G_10
          refine ev_x (i := .istore 5) (len := 2) (p' := 136) (s' := []) (l' := [(5, .int p_10.1), (6, .int (gE (p_5.2) 24 ((gE (σ) 35 (x_2 : Int32).toNatClampNeg) : Int32).toNatClampNeg)), (4, .int (gE (σ) 25 ((gE (σ) 35 (x_2 : Int32).toNatClampNeg) : Int32).toNatClampNeg)), (3, .int (gE (σ) 35 (x_2 : Int32).toNatClampNeg)), (0, .ref 62), (1, .int x_1), (2, .int x_2)]) rfl rfl rfl ?_
          refine ev_x (i := .iload 5) (len := 2) (p' := 138) (s' := [.int p_10.1]) rfl rfl rfl ?_
          refine F_if H (fun c_11 H => ?_) (fun c_11 H => ?_)
          · refine ev_b0 (t := 144) (p' := 144) rfl rfl rfl (if_pos c_11) ?_
            refine ev_x (i := .aload_n 0) (len := 1) (p' := 145) (s' := [.ref 62]) rfl rfl rfl ?_
            refine ev_gc (p' := 148) (v := 52) rfl rfl rfl ly_62 rfl rfl ?_
            refine ev_x (i := .iload_n 1) (len := 1) (p' := 149) (s' := [.int x_1, .ref 52]) rfl rfl rfl ?_
            refine ev_x (i := .iload_n 2) (len := 1) (p' := 150) (s' := [.int x_2, .int x_1, .ref 52]) rfl rfl rfl ?_
            obtain ⟨p_12, G_12, H⟩ := F_bd H
            refine ev_cv (d := d + 7) (As := [.int x_1, .int x_2]) (a := 52) (p' := 153) rfl rfl rfl ly_52 rfl rfl rfl rfl rfl rfl rfl (F_121_ok (d := d + 2)   G_12) ?_
            refine ev_st (st' := []) rfl ?_
            have e_12 := F_121_R G_12
            refine ev_x (i := .aload_n 0) (len := 1) (p' := 154) (s' := [.ref 62]) rfl rfl rfl ?_
            refine ev_gr (p' := 157) (v := 21) rfl rfl rfl ly_62 rfl rfl ((congrFun (congrFun e_12 62) 6).trans ((congrFun (congrFun e_10 62) 6).trans ((congrFun (congrFun e_5 62) 6).trans ((congrFun (congrFun e_3 62) 6).trans hr_62_6)))) ?_
            refine ev_gc (p' := 160) (v := 26) rfl rfl rfl ly_21 rfl rfl ?_
            refine ev_x (i := .iload_n 3) (len := 1) (p' := 161) (s' := [.int (gE (σ) 35 (x_2 : Int32).toNatClampNeg), .ref 26]) rfl rfl rfl ?_
            obtain ⟨b_13, H⟩ := F_gd H
            refine ev_ga (p' := 162) (v := (gE (p_12) 26 ((gE (σ) 35 (x_2 : Int32).toNatClampNeg) : Int32).toNatClampNeg)) rfl rfl ly_26 rfl (gd_in b_13) rfl ?_
            refine ev_x (i := .istore 7) (len := 2) (p' := 164) (s' := []) (l' := [(7, .int (gE (p_12) 26 ((gE (σ) 35 (x_2 : Int32).toNatClampNeg) : Int32).toNatClampNeg)), (5, .int p_10.1), (6, .int (gE (p_5.2) 24 ((gE (σ) 35 (x_2 : Int32).toNatClampNeg) : Int32).toNatClampNeg)), (4, .int (gE (σ) 25 ((gE (σ) 35 (x_2 : Int32).toNatClampNeg) : Int32).toNatClampNeg)), (3, .int (gE (σ) 35 (x_2 : Int32).toNatClampNeg)), (0, .ref 62), (1, .int x_1), (2, .int x_2)]) rfl rfl rfl ?_
            refine ev_x (i := .iconst 0) (len := 1) (p' := 165) (s' := [.int 0]) rfl rfl rfl ?_
            refine ev_x (i := .istore 8) (len := 2) (p' := 167) (s' := []) (l' := [(8, .int 0), (7, .int (gE (p_12) 26 ((gE (σ) 35 (x_2 : Int32).toNatClampNeg) : Int32).toNatClampNeg)), (5, .int p_10.1), (6, .int (gE (p_5.2) 24 ((gE (σ) 35 (x_2 : Int32).toNatClampNeg) : Int32).toNatClampNeg)), (4, .int (gE (σ) 25 ((gE (σ) 35 (x_2 : Int32).toNatClampNeg) : Int32).toNatClampNeg)), (3, .int (gE (σ) 35 (x_2 : Int32).toNatClampNeg)), (0, .ref 62), (1, .int x_1), (2, .int x_2)]) rfl rfl rfl ?_
            exact (L_118_ok (d := d) (Or.inr rfl) N) _ _ _ _ _ _ _ rfl rfl rfl rfl rfl rfl ((congrFun (congrFun e_12 42) 3).trans ((congrFun (congrFun e_10 42) 3).trans ((congrFun (congrFun e_5 42) 3).trans ((congrFun (congrFun e_3 42) 3).trans hr_42_3)))) ((congrFun (congrFun e_12 42) 4).trans ((congrFun (congrFun e_10 42) 4).trans ((congrFun (congrFun e_5 42) 4).trans ((congrFun (congrFun e_3 42) 4).trans hr_42_4)))) ((congrFun (congrFun e_12 62) 5).trans ((congrFun (congrFun e_10 62) 5).trans ((congrFun (congrFun e_5 62) 5).trans ((congrFun (congrFun e_3 62) 5).trans hr_62_5)))) ((congrFun (congrFun e_12 62) 6).trans ((congrFun (congrFun e_10 62) 6).trans ((congrFun (congrFun e_5 62) 6).trans ((congrFun (congrFun e_3 62) 6).trans hr_62_6)))) H
          · refine ev_b0 (t := 144) (p' := 141) rfl rfl rfl (if_neg c_11) ?_
            refine ev_x (i := .iload 5) (len := 2) (p' := 143) (s' := [.int p_10.1]) rfl rfl rfl ?_
            obtain rfl := Option.some.inj H
            exact ev_iret rfl rfl rfl rfl
        · refine ev_b0 (t := 118) (p' := 88) rfl rfl rfl (if_neg c_9) ?_
          refine ev_x (i := .aload_n 0) (len := 1) (p' := 89) (s' := [.ref 62]) rfl rfl rfl ?_
          refine ev_gc (p' := 92) (v := 52) rfl rfl rfl ly_62 rfl rfl ?_
          refine ev_gc (p' := 95) (v := 55) rfl rfl rfl ly_52 rfl rfl ?_
          refine ev_x (i := .iload_n 1) (len := 1) (p' := 96) (s' := [.int x_1, .ref 55]) rfl rfl rfl ?_
          refine ev_ga (p' := 97) (v := (gE (p_5.2) 55 (x_1 : Int32).toNatClampNeg)) rfl rfl ly_55 rfl (gd_in b_8) rfl ?_
          refine ev_x (i := .iload 6) (len := 2) (p' := 99) (s' := [.int (gE (p_5.2) 24 ((gE (σ) 35 (x_2 : Int32).toNatClampNeg) : Int32).toNatClampNeg), .int (gE (p_5.2) 55 (x_1 : Int32).toNatClampNeg)]) rfl rfl rfl ?_
          refine F_if H (fun c_14 H => ?_) (fun c_14 H => ?_)
          · refine ev_b2 (t := 118) (p' := 118) rfl rfl rfl (if_pos c_14) ?_
            refine ev_x (i := .aload_n 0) (len := 1) (p' := 119) (s' := [.ref 62]) rfl rfl rfl ?_
            refine ev_gc (p' := 122) (v := 52) rfl rfl rfl ly_62 rfl rfl ?_
            refine ev_gc (p' := 125) (v := 55) rfl rfl rfl ly_52 rfl rfl ?_
            refine ev_x (i := .iload_n 1) (len := 1) (p' := 126) (s' := [.int x_1, .ref 55]) rfl rfl rfl ?_
            refine ev_x (i := .iload 6) (len := 2) (p' := 128) (s' := [.int (gE (p_5.2) 24 ((gE (σ) 35 (x_2 : Int32).toNatClampNeg) : Int32).toNatClampNeg), .int x_1, .ref 55]) rfl rfl rfl ?_
            refine ev_pa (j := (x_1 : Int32).toNatClampNeg) (p' := 129) rfl rfl ly_55 rfl (gd_in b_8) rfl ?_
            refine ev_x (i := .aload_n 0) (len := 1) (p' := 130) (s' := [.ref 62]) rfl rfl rfl ?_
            refine ev_x (i := .iload_n 3) (len := 1) (p' := 131) (s' := [.int (gE (σ) 35 (x_2 : Int32).toNatClampNeg), .ref 62]) rfl rfl rfl ?_
            obtain ⟨p_15, G_15, H⟩ := F_bd H
            refine ev_cv (d := d + 7) (As := [.int (gE (σ) 35 (x_2 : Int32).toNatClampNeg)]) (a := 62) (p' := 134) rfl rfl rfl ly_62 rfl rfl rfl rfl rfl rfl rfl (F_119_ok (d := d + 2) (ht := (Or.inr rfl)) (hr_42_3 := ((congrFun (congrFun e_5 42) 3).trans ((congrFun (congrFun e_3 42) 3).trans hr_42_3))) (hr_42_4 := ((congrFun (congrFun e_5 42) 4).trans ((congrFun (congrFun e_3 42) 4).trans hr_42_4))) (hr_62_6 := ((congrFun (congrFun e_5 62) 6).trans ((congrFun (congrFun e_3 62) 6).trans hr_62_6))) G_15) ?_
            refine ev_st (st' := [.int p_15.1]) rfl ?_
            have e_15 := F_119_R G_15
            refine ev_x (i := .istore 5) (len := 2) (p' := 136) (s' := []) (l' := [(5, .int p_15.1), (6, .int (gE (p_5.2) 24 ((gE (σ) 35 (x_2 : Int32).toNatClampNeg) : Int32).toNatClampNeg)), (4, .int (gE (σ) 25 ((gE (σ) 35 (x_2 : Int32).toNatClampNeg) : Int32).toNatClampNeg)), (3, .int (gE (σ) 35 (x_2 : Int32).toNatClampNeg)), (0, .ref 62), (1, .int x_1), (2, .int x_2)]) rfl rfl rfl ?_
            refine ev_x (i := .iload 5) (len := 2) (p' := 138) (s' := [.int p_15.1]) rfl rfl rfl ?_
            refine F_if H (fun c_16 H => ?_) (fun c_16 H => ?_)
            · refine ev_b0 (t := 144) (p' := 144) rfl rfl rfl (if_pos c_16) ?_
              refine ev_x (i := .aload_n 0) (len := 1) (p' := 145) (s' := [.ref 62]) rfl rfl rfl ?_
              refine ev_gc (p' := 148) (v := 52) rfl rfl rfl ly_62 rfl rfl ?_
              refine ev_x (i := .iload_n 1) (len := 1) (p' := 149) (s' := [.int x_1, .ref 52]) rfl rfl rfl ?_
              refine ev_x (i := .iload_n 2) (len := 1) (p' := 150) (s' := [.int x_2, .int x_1, .ref 52]) rfl rfl rfl ?_
              obtain ⟨p_17, G_17, H⟩ := F_bd H
              refine ev_cv (d := d + 7) (As := [.int x_1, .int x_2]) (a := 52) (p' := 153) rfl rfl rfl ly_52 rfl rfl rfl rfl rfl rfl rfl (F_121_ok (d := d + 2)   G_17) ?_
              refine ev_st (st' := []) rfl ?_
              have e_17 := F_121_R G_17
              refine ev_x (i := .aload_n 0) (len := 1) (p' := 154) (s' := [.ref 62]) rfl rfl rfl ?_
              refine ev_gr (p' := 157) (v := 21) rfl rfl rfl ly_62 rfl rfl ((congrFun (congrFun e_17 62) 6).trans ((congrFun (congrFun e_15 62) 6).trans ((congrFun (congrFun e_5 62) 6).trans ((congrFun (congrFun e_3 62) 6).trans hr_62_6)))) ?_
              refine ev_gc (p' := 160) (v := 26) rfl rfl rfl ly_21 rfl rfl ?_
              refine ev_x (i := .iload_n 3) (len := 1) (p' := 161) (s' := [.int (gE (σ) 35 (x_2 : Int32).toNatClampNeg), .ref 26]) rfl rfl rfl ?_
              obtain ⟨b_18, H⟩ := F_gd H
              refine ev_ga (p' := 162) (v := (gE (p_17) 26 ((gE (σ) 35 (x_2 : Int32).toNatClampNeg) : Int32).toNatClampNeg)) rfl rfl ly_26 rfl (gd_in b_18) rfl ?_
              refine ev_x (i := .istore 7) (len := 2) (p' := 164) (s' := []) (l' := [(7, .int (gE (p_17) 26 ((gE (σ) 35 (x_2 : Int32).toNatClampNeg) : Int32).toNatClampNeg)), (5, .int p_15.1), (6, .int (gE (p_5.2) 24 ((gE (σ) 35 (x_2 : Int32).toNatClampNeg) : Int32).toNatClampNeg)), (4, .int (gE (σ) 25 ((gE (σ) 35 (x_2 : Int32).toNatClampNeg) : Int32).toNatClampNeg)), (3, .int (gE (σ) 35 (x_2 : Int32).toNatClampNeg)), (0, .ref 62), (1, .int x_1), (2, .int x_2)]) rfl rfl rfl ?_
              refine ev_x (i := .iconst 0) (len := 1) (p' := 165) (s' := [.int 0]) rfl rfl rfl ?_
              refine ev_x (i := .istore 8) (len := 2) (p' := 167) (s' := []) (l' := [(8, .int 0), (7, .int (gE (p_17) 26 ((gE (σ) 35 (x_2 : Int32).toNatClampNeg) : Int32).toNatClampNeg)), (5, .int p_15.1), (6, .int (gE (p_5.2) 24 ((gE (σ) 35 (x_2 : Int32).toNatClampNeg) : Int32).toNatClampNeg)), (4, .int (gE (σ) 25 ((gE (σ) 35 (x_2 : Int32).toNatClampNeg) : Int32).toNatClampNeg)), (3, .int (gE (σ) 35 (x_2 : Int32).toNatClampNeg)), (0, .ref 62), (1, .int x_1), (2, .int x_2)]) rfl rfl rfl ?_
              exact (L_118_ok (d := d) (Or.inr rfl) N) _ _ _ _ _ _ _ rfl rfl rfl rfl rfl rfl ((congrFun (congrFun e_17 42) 3).trans ((congrFun (congrFun e_15 42) 3).trans ((congrFun (congrFun e_5 42) 3).trans ((congrFun (congrFun e_3 42) 3).trans hr_42_3)))) ((congrFun (congrFun e_17 42) 4).trans ((congrFun (congrFun e_15 42) 4).trans ((congrFun (congrFun e_5 42) 4).trans ((congrFun (congrFun e_3 42) 4).trans hr_42_4)))) ((congrFun (congrFun e_17 62) 5).trans ((congrFun (congrFun e_15 62) 5).trans ((congrFun (congrFun e_5 62) 5).trans ((congrFun (congrFun e_3 62) 5).trans hr_62_5)))) ((congrFun (congrFun e_17 62) 6).trans ((congrFun (congrFun e_15 62) 6).trans ((congrFun (congrFun e_5 62) 6).trans ((congrFun (congrFun e_3 62) 6).trans hr_62_6)))) H
            · refine ev_b0 (t := 144) (p' := 141) rfl rfl rfl (if_neg c_16) ?_
              refine ev_x (i := .iload 5) (len := 2) (p' := 143) (s' := [.int p_15.1]) rfl rfl rfl ?_
              obtain rfl := Option.some.inj H
              exact ev_iret rfl rfl rfl rfl
          · refine ev_b2 (t := 118) (p' := 102) rfl rfl rfl (if_neg c_14) ?_
            refine ev_x (i := .aload_n 0) (len := 1) (p' := 103) (s' := [.ref 62]) rfl rfl rfl ?_
            refine ev_x (i := .bipush 13) (len := 2) (p' := 105) (s' := [.int 13, .ref 62]) rfl rfl rfl ?_
            refine ev_x (i := .aload_n 0) (len := 1) (p' := 106) (s' := [.ref 62, .int 13, .ref 62]) rfl rfl rfl ?_
            refine ev_gr (p' := 109) (v := 21) rfl rfl rfl ly_62 rfl rfl ((congrFun (congrFun e_5 62) 6).trans ((congrFun (congrFun e_3 62) 6).trans hr_62_6)) ?_
            refine ev_gc (p' := 112) (v := 23) rfl rfl rfl ly_21 rfl rfl ?_
            refine ev_x (i := .iload_n 3) (len := 1) (p' := 113) (s' := [.int (gE (σ) 35 (x_2 : Int32).toNatClampNeg), .ref 23, .int 13, .ref 62]) rfl rfl rfl ?_
            obtain ⟨b_19, H⟩ := F_gd H
            refine ev_ga (p' := 114) (v := (gE (p_5.2) 23 ((gE (σ) 35 (x_2 : Int32).toNatClampNeg) : Int32).toNatClampNeg)) rfl rfl ly_23 rfl (gd_in b_19) rfl ?_
            obtain ⟨p_20, G_20, H⟩ := F_bd H
            refine ev_cv (d := d + 7) (As := [.int 13, .int (gE (p_5.2) 23 ((gE (σ) 35 (x_2 : Int32).toNatClampNeg) : Int32).toNatClampNeg)]) (a := 62) (p' := 117) rfl rfl rfl ly_62 rfl rfl rfl rfl rfl rfl rfl (F_116_ok (d := d + 6)   G_20) ?_
            refine ev_st (st' := [.int p_20.1]) rfl ?_
            have e_20 := F_116_R G_20
            obtain rfl := Option.some.inj H
            exact ev_iret rfl rfl rfl rfl
    · refine ev_b0 (t := 51) (p' := 37) rfl rfl rfl (if_neg c_4) ?_
      refine ev_x (i := .aload_n 0) (len := 1) (p' := 38) (s' := [.ref 62]) rfl rfl rfl ?_
      refine ev_x (i := .iload 5) (len := 2) (p' := 40) (s' := [.int p_3.1, .ref 62]) rfl rfl rfl ?_
      refine ev_x (i := .aload_n 0) (len := 1) (p' := 41) (s' := [.ref 62, .int p_3.1, .ref 62]) rfl rfl rfl ?_
      refine ev_gc (p' := 44) (v := 42) rfl rfl rfl ly_62 rfl rfl ?_
      refine ev_gi (p' := 47) (v := (gI p_3.2 42 6)) rfl rfl rfl ly_42 rfl rfl rfl ?_
      obtain ⟨p_21, G_21, H⟩ := F_bd H
      refine ev_cv (d := d + 7) (As := [.int p_3.1, .int (gI p_3.2 42 6)]) (a := 62) (p' := 50) rfl rfl rfl ly_62 rfl rfl rfl rfl rfl rfl rfl (F_116_ok (d := d + 6)   G_21) ?_
      refine ev_st (st' := [.int p_21.1]) rfl ?_
      have e_21 := F_116_R G_21
      obtain rfl := Option.some.inj H
      exact ev_iret rfl rfl rfl rfl
/-- GameText$Explorer.looksAtState(I)I, its loops -/
def L_114 (N : Nat) (t : Nat) : Nat → Int32 → Int32 → st_S → Option (Int32 × st_S)
  | 0, _, _, _ => none
  | k + 1, l_1, l_3, σ =>
      if (gI σ t 10) ≤ l_3 then
        some (0, σ)
      else
        (F_118 N t l_1 l_3 (σ)).bind fun p_10 =>
        if p_10.1 = 0 then
          L_114 N t k l_1 (l_3 + 1) (p_10.2)
        else
          some (p_10.1, p_10.2)
set_option maxRecDepth 100000 in
theorem L_114_R {N : Nat} {t : Nat} : ∀ (k : Nat) (l_1 : Int32) (l_3 : Int32) (σ : st_S) (p : Int32 × st_S), L_114 N t k l_1 l_3 σ = some p → gR p.2 = gR σ := by
  intro k
  induction k with
  | zero => intro l_1 l_3 σ p H; unfold L_114 at H; cases H
  | succ k ih =>
    intro l_1 l_3 σ p H
    unfold L_114 at H
    refine F_if H (fun _ H => ?_) (fun _ H => ?_)
    · obtain rfl := Option.some.inj H
      exact rfl
    · obtain ⟨p_10, G_10, H⟩ := F_bd H
      refine F_if H (fun _ H => ?_) (fun _ H => ?_)
      · exact (((ih _ _ _ _ H)).trans ((F_118_R G_10).trans rfl))
      · obtain rfl := Option.some.inj H
        exact ((F_118_R G_10).trans rfl)
set_option maxHeartbeats 4000000 in
set_option maxRecDepth 100000 in
theorem L_114_ok {N d : Nat} {t : Nat} (ht : t = 4 ∨ t = 20) : ∀ k : Nat, ∀ (l_1 : Int32) (l_3 : Int32) (σ : st_S) (lv : vz_L) (p : Int32 × st_S), vz_g lv 0 = some (.ref 62) → vz_g lv 1 = some (.int l_1) → vz_g lv 3 = some (.int l_3) → vz_nbL (vz_gr P0) lv = true → gR σ 42 3 = t → gR σ 42 4 = (t + 1) → gR σ 62 5 = t → gR σ 62 6 = (t + 1) → L_114 N t k l_1 l_3 σ = some p → vz_ev P0 (d + 9) 114 110 lv [] (hp σ) (.inl (some (.int p.1)), hp p.2) := by
  rcases ht with rfl | rfl
  · intro k
    induction k with
    | zero => intro l_1 l_3 σ lv p g_0 g_1 g_3 hnb hr_42_3 hr_42_4 hr_62_5 hr_62_6 H; unfold L_114 at H; cases H
    | succ k ih =>
      intro l_1 l_3 σ lv p g_0 g_1 g_3 hnb hr_42_3 hr_42_4 hr_62_5 hr_62_6 H
      unfold L_114 at H
      refine ev_x (i := .iload_n 3) (len := 1) (p' := 111) (s' := [.int l_3]) rfl rfl (ld_i g_3) ?_
      refine ev_x (i := .aload_n 0) (len := 1) (p' := 112) (s' := [.ref 62, .int l_3]) rfl rfl (ld_a g_0) ?_
      refine ev_gr (p' := 115) (v := 4) rfl rfl rfl ly_62 rfl rfl hr_62_5 ?_
      refine ev_gi (p' := 118) (v := (gI σ 4 10)) rfl rfl rfl ly_4 rfl rfl rfl ?_
      refine F_if H (fun c_9 H => ?_) (fun c_9 H => ?_)
      · refine ev_b2 (t := 140) (p' := 140) rfl rfl rfl (if_pos c_9) ?_
        refine ev_x (i := .iconst 0) (len := 1) (p' := 141) (s' := [.int 0]) rfl rfl rfl ?_
        obtain rfl := Option.some.inj H
        exact ev_iret rfl rfl rfl rfl
      · refine ev_b2 (t := 140) (p' := 121) rfl rfl rfl (if_neg c_9) ?_
        refine ev_x (i := .aload_n 0) (len := 1) (p' := 122) (s' := [.ref 62]) rfl rfl (ld_a g_0) ?_
        refine ev_x (i := .iload_n 1) (len := 1) (p' := 123) (s' := [.int l_1, .ref 62]) rfl rfl (ld_i g_1) ?_
        refine ev_x (i := .iload_n 3) (len := 1) (p' := 124) (s' := [.int l_3, .int l_1, .ref 62]) rfl rfl (ld_i g_3) ?_
        obtain ⟨p_10, G_10, H⟩ := F_bd H
        refine ev_cv (d := d + 8) (As := [.int l_1, .int l_3]) (a := 62) (p' := 127) rfl rfl rfl ly_62 rfl rfl rfl rfl rfl hnb rfl (F_118_ok (d := d + 0) (ht := (Or.inl rfl)) (hr_42_3 := hr_42_3) (hr_42_4 := hr_42_4) (hr_62_5 := hr_62_5) (hr_62_6 := hr_62_6) G_10) ?_
        refine ev_st (st' := [.int p_10.1]) rfl ?_
        have e_10 := F_118_R G_10
        refine ev_x (i := .istore_n 2) (len := 1) (p' := 128) (s' := []) (l' := vz_s1 (lv) 2 (.int p_10.1)) rfl rfl rfl ?_
        refine ev_x (i := .iload_n 2) (len := 1) (p' := 129) (s' := [.int p_10.1]) rfl rfl (ld_i (vg_s (lv) 2 (.int p_10.1))) ?_
        refine F_if H (fun c_11 H => ?_) (fun c_11 H => ?_)
        · refine ev_b0 (t := 134) (p' := 134) rfl rfl rfl (if_pos c_11) ?_
          refine ev_x (i := .iinc 3 1) (len := 3) (p' := 137) (s' := []) (l' := vz_s1 (vz_s1 (lv) 2 (.int p_10.1)) 3 (.int (l_3 + 1))) rfl rfl (ld_inc (vg_o (i := 2) (v := .int p_10.1) g_3 (by decide) (Or.inl rfl)) rfl) ?_
          refine ev_x (i := .goto (-27)) (len := 3) (p' := 110) (s' := []) rfl rfl rfl ?_
          exact ih _ _ _ _ _ (vg_o (i := 3) (v := .int (l_3 + 1)) (vg_o (i := 2) (v := .int p_10.1) g_0 (by decide) (Or.inl rfl)) (by decide) (Or.inl rfl)) (vg_o (i := 3) (v := .int (l_3 + 1)) (vg_o (i := 2) (v := .int p_10.1) g_1 (by decide) (Or.inl rfl)) (by decide) (Or.inl rfl)) (vg_s (vz_s1 (lv) 2 (.int p_10.1)) 3 (.int (l_3 + 1))) (nb_s1 (nb_s1 hnb rfl) rfl) ((congrFun (congrFun e_10 42) 3).trans hr_42_3) ((congrFun (congrFun e_10 42) 4).trans hr_42_4) ((congrFun (congrFun e_10 62) 5).trans hr_62_5) ((congrFun (congrFun e_10 62) 6).trans hr_62_6) H
        · refine ev_b0 (t := 134) (p' := 132) rfl rfl rfl (if_neg c_11) ?_
          refine ev_x (i := .iload_n 2) (len := 1) (p' := 133) (s' := [.int p_10.1]) rfl rfl (ld_i (vg_s (lv) 2 (.int p_10.1))) ?_
          obtain rfl := Option.some.inj H
          exact ev_iret rfl rfl rfl rfl
  · intro k
    induction k with
    | zero => intro l_1 l_3 σ lv p g_0 g_1 g_3 hnb hr_42_3 hr_42_4 hr_62_5 hr_62_6 H; unfold L_114 at H; cases H
    | succ k ih =>
      intro l_1 l_3 σ lv p g_0 g_1 g_3 hnb hr_42_3 hr_42_4 hr_62_5 hr_62_6 H
      unfold L_114 at H
      refine ev_x (i := .iload_n 3) (len := 1) (p' := 111) (s' := [.int l_3]) rfl rfl (ld_i g_3) ?_
      refine ev_x (i := .aload_n 0) (len := 1) (p' := 112) (s' := [.ref 62, .int l_3]) rfl rfl (ld_a g_0) ?_
      refine ev_gr (p' := 115) (v := 20) rfl rfl rfl ly_62 rfl rfl hr_62_5 ?_
      refine ev_gi (p' := 118) (v := (gI σ 20 10)) rfl rfl rfl ly_20 rfl rfl rfl ?_
      refine F_if H (fun c_9 H => ?_) (fun c_9 H => ?_)
      · refine ev_b2 (t := 140) (p' := 140) rfl rfl rfl (if_pos c_9) ?_
        refine ev_x (i := .iconst 0) (len := 1) (p' := 141) (s' := [.int 0]) rfl rfl rfl ?_
        obtain rfl := Option.some.inj H
        exact ev_iret rfl rfl rfl rfl
      · refine ev_b2 (t := 140) (p' := 121) rfl rfl rfl (if_neg c_9) ?_
        refine ev_x (i := .aload_n 0) (len := 1) (p' := 122) (s' := [.ref 62]) rfl rfl (ld_a g_0) ?_
        refine ev_x (i := .iload_n 1) (len := 1) (p' := 123) (s' := [.int l_1, .ref 62]) rfl rfl (ld_i g_1) ?_
        refine ev_x (i := .iload_n 3) (len := 1) (p' := 124) (s' := [.int l_3, .int l_1, .ref 62]) rfl rfl (ld_i g_3) ?_
        obtain ⟨p_10, G_10, H⟩ := F_bd H
        refine ev_cv (d := d + 8) (As := [.int l_1, .int l_3]) (a := 62) (p' := 127) rfl rfl rfl ly_62 rfl rfl rfl rfl rfl hnb rfl (F_118_ok (d := d + 0) (ht := (Or.inr rfl)) (hr_42_3 := hr_42_3) (hr_42_4 := hr_42_4) (hr_62_5 := hr_62_5) (hr_62_6 := hr_62_6) G_10) ?_
        refine ev_st (st' := [.int p_10.1]) rfl ?_
        have e_10 := F_118_R G_10
        refine ev_x (i := .istore_n 2) (len := 1) (p' := 128) (s' := []) (l' := vz_s1 (lv) 2 (.int p_10.1)) rfl rfl rfl ?_
        refine ev_x (i := .iload_n 2) (len := 1) (p' := 129) (s' := [.int p_10.1]) rfl rfl (ld_i (vg_s (lv) 2 (.int p_10.1))) ?_
        refine F_if H (fun c_11 H => ?_) (fun c_11 H => ?_)
        · refine ev_b0 (t := 134) (p' := 134) rfl rfl rfl (if_pos c_11) ?_
          refine ev_x (i := .iinc 3 1) (len := 3) (p' := 137) (s' := []) (l' := vz_s1 (vz_s1 (lv) 2 (.int p_10.1)) 3 (.int (l_3 + 1))) rfl rfl (ld_inc (vg_o (i := 2) (v := .int p_10.1) g_3 (by decide) (Or.inl rfl)) rfl) ?_
          refine ev_x (i := .goto (-27)) (len := 3) (p' := 110) (s' := []) rfl rfl rfl ?_
          exact ih _ _ _ _ _ (vg_o (i := 3) (v := .int (l_3 + 1)) (vg_o (i := 2) (v := .int p_10.1) g_0 (by decide) (Or.inl rfl)) (by decide) (Or.inl rfl)) (vg_o (i := 3) (v := .int (l_3 + 1)) (vg_o (i := 2) (v := .int p_10.1) g_1 (by decide) (Or.inl rfl)) (by decide) (Or.inl rfl)) (vg_s (vz_s1 (lv) 2 (.int p_10.1)) 3 (.int (l_3 + 1))) (nb_s1 (nb_s1 hnb rfl) rfl) ((congrFun (congrFun e_10 42) 3).trans hr_42_3) ((congrFun (congrFun e_10 42) 4).trans hr_42_4) ((congrFun (congrFun e_10 62) 5).trans hr_62_5) ((congrFun (congrFun e_10 62) 6).trans hr_62_6) H
        · refine ev_b0 (t := 134) (p' := 132) rfl rfl rfl (if_neg c_11) ?_
          refine ev_x (i := .iload_n 2) (len := 1) (p' := 133) (s' := [.int p_10.1]) rfl rfl (ld_i (vg_s (lv) 2 (.int p_10.1))) ?_
          obtain rfl := Option.some.inj H
          exact ev_iret rfl rfl rfl rfl
/-- GameText$Explorer.looksAtState(I)I -/
def F_114 (N : Nat) (t : Nat) (x_1 : Int32) (σ : st_S) : Option (Int32 × st_S) :=
  if acB (gN σ 54) (gN σ 43) (x_1 * 12) 0 (gI σ t 7) then
  (F_115 N x_1 (st_i (st_ac (σ) 54 ((x_1 * 12) : Int32).toNatClampNeg 43 (0 : Int32).toNatClampNeg ((gI σ t 7) : Int32).toNatClampNeg) 42 5 (x_1 + 1))).bind fun p_2 =>
  (F_70 N t (gI p_2 t 11) (p_2)).bind fun p_3 =>
  if p_3.1 = 0 then
    (F_117 N t (gI p_3.2 t 11) (p_3.2)).bind fun p_5 =>
    if p_5.1 = 0 then
      L_114 N t N x_1 0 (p_5.2)
    else
      if aB x_1 (gN p_5.2 55) then
      some (0, st_e (p_5.2) 55 ((x_1 : Int32).toNatClampNeg) 3)
      else none
  else
    (F_116 N p_3.1 (gI p_3.2 42 6) (p_3.2)).bind fun p_8 =>
    some (p_8.1, p_8.2)
  else none
set_option maxRecDepth 100000 in
theorem F_114_R {N : Nat} {t : Nat} {x_1 : Int32} {σ : st_S} {p : Int32 × st_S} (H : F_114 N t x_1 σ = some p) : gR p.2 = gR σ := by
  unfold F_114 at H
  obtain ⟨_, H⟩ := F_gd H
  obtain ⟨p_2, G_2, H⟩ := F_bd H
  obtain ⟨p_3, G_3, H⟩ := F_bd H
  refine F_if H (fun _ H => ?_) (fun _ H => ?_)
  · obtain ⟨p_5, G_5, H⟩ := F_bd H
    refine F_if H (fun _ H => ?_) (fun _ H => ?_)
    · exact (((L_114_R _ _ _ _ _ H)).trans ((F_117_R G_5).trans ((F_70_R G_3).trans ((F_115_R G_2).trans rfl))))
    · obtain ⟨_, H⟩ := F_gd H
      obtain rfl := Option.some.inj H
      exact ((F_117_R G_5).trans ((F_70_R G_3).trans ((F_115_R G_2).trans rfl)))
  · obtain ⟨p_8, G_8, H⟩ := F_bd H
    obtain rfl := Option.some.inj H
    exact ((F_116_R G_8).trans ((F_70_R G_3).trans ((F_115_R G_2).trans rfl)))
set_option maxHeartbeats 4000000 in
set_option maxRecDepth 100000 in
theorem F_114_ok {N d : Nat} {t : Nat} (ht : t = 4 ∨ t = 20) {x_1 : Int32} {σ : st_S} {p : Int32 × st_S} (hr_42_3 : gR σ 42 3 = t) (hr_42_4 : gR σ 42 4 = (t + 1)) (hr_62_5 : gR σ 62 5 = t) (hr_62_6 : gR σ 62 6 = (t + 1)) (H : F_114 N t x_1 σ = some p) : vz_ev P0 (d + 9) 114 0 (lv_args 0 [.ref 62, .int x_1]) [] (hp σ) (.inl (some (.int p.1)), hp p.2) := by
  unfold F_114 at H
  rcases ht with rfl | rfl
  · refine ev_x (i := .aload_n 0) (len := 1) (p' := 1) (s' := [.ref 62]) rfl rfl rfl ?_
    refine ev_gc (p' := 4) (v := 52) rfl rfl rfl ly_62 rfl rfl ?_
    refine ev_gc (p' := 7) (v := 54) rfl rfl rfl ly_52 rfl rfl ?_
    refine ev_x (i := .iload_n 1) (len := 1) (p' := 8) (s' := [.int x_1, .ref 54]) rfl rfl rfl ?_
    refine ev_x (i := .bipush 12) (len := 2) (p' := 10) (s' := [.int 12, .int x_1, .ref 54]) rfl rfl rfl ?_
    refine ev_x (i := .imul) (len := 1) (p' := 11) (s' := [.int (x_1 * 12), .ref 54]) rfl rfl rfl ?_
    refine ev_x (i := .aload_n 0) (len := 1) (p' := 12) (s' := [.ref 62, .int (x_1 * 12), .ref 54]) rfl rfl rfl ?_
    refine ev_gc (p' := 15) (v := 42) rfl rfl rfl ly_62 rfl rfl ?_
    refine ev_gc (p' := 18) (v := 43) rfl rfl rfl ly_42 rfl rfl ?_
    refine ev_x (i := .iconst 0) (len := 1) (p' := 19) (s' := [.int 0, .ref 43, .int (x_1 * 12), .ref 54]) rfl rfl rfl ?_
    refine ev_x (i := .aload_n 0) (len := 1) (p' := 20) (s' := [.ref 62, .int 0, .ref 43, .int (x_1 * 12), .ref 54]) rfl rfl rfl ?_
    refine ev_gr (p' := 23) (v := 4) rfl rfl rfl ly_62 rfl rfl hr_62_5 ?_
    refine ev_gi (p' := 26) (v := (gI σ 4 7)) rfl rfl rfl ly_4 rfl rfl rfl ?_
    obtain ⟨b_1, H⟩ := F_gd H
    refine ev_ac (d := d + 8) (src := 54) (dst := 43) (p' := 29) rfl rfl rfl ly_54 ly_43 b_1 rfl rfl ?_
    refine ev_x (i := .aload_n 0) (len := 1) (p' := 30) (s' := [.ref 62]) rfl rfl rfl ?_
    refine ev_gc (p' := 33) (v := 42) rfl rfl rfl ly_62 rfl rfl ?_
    refine ev_x (i := .iload_n 1) (len := 1) (p' := 34) (s' := [.int x_1, .ref 42]) rfl rfl rfl ?_
    refine ev_x (i := .iconst 1) (len := 1) (p' := 35) (s' := [.int 1, .int x_1, .ref 42]) rfl rfl rfl ?_
    refine ev_x (i := .iadd) (len := 1) (p' := 36) (s' := [.int (x_1 + 1), .ref 42]) rfl rfl rfl ?_
    refine ev_pi (p' := 39) rfl rfl rfl ly_42 rfl rfl rfl rfl ?_
    refine ev_x (i := .aload_n 0) (len := 1) (p' := 40) (s' := [.ref 62]) rfl rfl rfl ?_
    refine ev_gc (p' := 43) (v := 52) rfl rfl rfl ly_62 rfl rfl ?_
    refine ev_x (i := .iload_n 1) (len := 1) (p' := 44) (s' := [.int x_1, .ref 52]) rfl rfl rfl ?_
    obtain ⟨p_2, G_2, H⟩ := F_bd H
    refine ev_cv (d := d + 8) (As := [.int x_1]) (a := 52) (p' := 47) rfl rfl rfl ly_52 rfl rfl rfl rfl rfl rfl rfl (F_115_ok (d := d + 7)   G_2) ?_
    refine ev_st (st' := []) rfl ?_
    have e_2 := F_115_R G_2
    refine ev_x (i := .aload_n 0) (len := 1) (p' := 48) (s' := [.ref 62]) rfl rfl rfl ?_
    refine ev_gc (p' := 51) (v := 42) rfl rfl rfl ly_62 rfl rfl ?_
    refine ev_x (i := .aload_n 0) (len := 1) (p' := 52) (s' := [.ref 62, .ref 42]) rfl rfl rfl ?_
    refine ev_gr (p' := 55) (v := 4) rfl rfl rfl ly_62 rfl rfl ((congrFun (congrFun e_2 62) 5).trans hr_62_5) ?_
    refine ev_gi (p' := 58) (v := (gI p_2 4 11)) rfl rfl rfl ly_4 rfl rfl rfl ?_
    obtain ⟨p_3, G_3, H⟩ := F_bd H
    refine ev_cv (d := d + 8) (As := [.int (gI p_2 4 11)]) (a := 42) (p' := 61) rfl rfl rfl ly_42 rfl rfl rfl rfl rfl rfl rfl (F_70_ok (d := d + 5) (ht := (Or.inl rfl)) (hr_42_3 := ((congrFun (congrFun e_2 42) 3).trans hr_42_3)) (hr_42_4 := ((congrFun (congrFun e_2 42) 4).trans hr_42_4)) G_3) ?_
    refine ev_st (st' := [.int p_3.1]) rfl ?_
    have e_3 := F_70_R G_3
    refine ev_x (i := .istore_n 2) (len := 1) (p' := 62) (s' := []) (l' := [(2, .int p_3.1), (0, .ref 62), (1, .int x_1)]) rfl rfl rfl ?_
    refine ev_x (i := .iload_n 2) (len := 1) (p' := 63) (s' := [.int p_3.1]) rfl rfl rfl ?_
    refine F_if H (fun c_4 H => ?_) (fun c_4 H => ?_)
    · refine ev_b0 (t := 79) (p' := 79) rfl rfl rfl (if_pos c_4) ?_
      refine ev_x (i := .aload_n 0) (len := 1) (p' := 80) (s' := [.ref 62]) rfl rfl rfl ?_
      refine ev_gc (p' := 83) (v := 42) rfl rfl rfl ly_62 rfl rfl ?_
      refine ev_x (i := .aload_n 0) (len := 1) (p' := 84) (s' := [.ref 62, .ref 42]) rfl rfl rfl ?_
      refine ev_gr (p' := 87) (v := 4) rfl rfl rfl ly_62 rfl rfl ((congrFun (congrFun e_3 62) 5).trans ((congrFun (congrFun e_2 62) 5).trans hr_62_5)) ?_
      refine ev_gi (p' := 90) (v := (gI p_3.2 4 11)) rfl rfl rfl ly_4 rfl rfl rfl ?_
      obtain ⟨p_5, G_5, H⟩ := F_bd H
      refine ev_cv (d := d + 8) (As := [.int (gI p_3.2 4 11)]) (a := 42) (p' := 93) rfl rfl rfl ly_42 rfl rfl rfl rfl rfl rfl rfl (F_117_ok (d := d + 7) (ht := (Or.inl rfl)) (hr_42_4 := ((congrFun (congrFun e_3 42) 4).trans ((congrFun (congrFun e_2 42) 4).trans hr_42_4))) G_5) ?_
      refine ev_st (st' := [.int p_5.1]) rfl ?_
      have e_5 := F_117_R G_5
      refine F_if H (fun c_6 H => ?_) (fun c_6 H => ?_)
      · refine ev_b0 (t := 108) (p' := 108) rfl rfl rfl (if_pos c_6) ?_
        refine ev_x (i := .iconst 0) (len := 1) (p' := 109) (s' := [.int 0]) rfl rfl rfl ?_
        refine ev_x (i := .istore_n 3) (len := 1) (p' := 110) (s' := []) (l' := [(3, .int 0), (2, .int p_3.1), (0, .ref 62), (1, .int x_1)]) rfl rfl rfl ?_
        exact (L_114_ok (d := d) (Or.inl rfl) N) _ _ _ _ _ rfl rfl rfl rfl ((congrFun (congrFun e_5 42) 3).trans ((congrFun (congrFun e_3 42) 3).trans ((congrFun (congrFun e_2 42) 3).trans hr_42_3))) ((congrFun (congrFun e_5 42) 4).trans ((congrFun (congrFun e_3 42) 4).trans ((congrFun (congrFun e_2 42) 4).trans hr_42_4))) ((congrFun (congrFun e_5 62) 5).trans ((congrFun (congrFun e_3 62) 5).trans ((congrFun (congrFun e_2 62) 5).trans hr_62_5))) ((congrFun (congrFun e_5 62) 6).trans ((congrFun (congrFun e_3 62) 6).trans ((congrFun (congrFun e_2 62) 6).trans hr_62_6))) H
      · refine ev_b0 (t := 108) (p' := 96) rfl rfl rfl (if_neg c_6) ?_
        refine ev_x (i := .aload_n 0) (len := 1) (p' := 97) (s' := [.ref 62]) rfl rfl rfl ?_
        refine ev_gc (p' := 100) (v := 52) rfl rfl rfl ly_62 rfl rfl ?_
        refine ev_gc (p' := 103) (v := 55) rfl rfl rfl ly_52 rfl rfl ?_
        refine ev_x (i := .iload_n 1) (len := 1) (p' := 104) (s' := [.int x_1, .ref 55]) rfl rfl rfl ?_
        refine ev_x (i := .iconst 3) (len := 1) (p' := 105) (s' := [.int 3, .int x_1, .ref 55]) rfl rfl rfl ?_
        obtain ⟨b_7, H⟩ := F_gd H
        refine ev_pa (j := (x_1 : Int32).toNatClampNeg) (p' := 106) rfl rfl ly_55 rfl (gd_in b_7) rfl ?_
        refine ev_x (i := .iconst 0) (len := 1) (p' := 107) (s' := [.int 0]) rfl rfl rfl ?_
        obtain rfl := Option.some.inj H
        exact ev_iret rfl rfl rfl rfl
    · refine ev_b0 (t := 79) (p' := 66) rfl rfl rfl (if_neg c_4) ?_
      refine ev_x (i := .aload_n 0) (len := 1) (p' := 67) (s' := [.ref 62]) rfl rfl rfl ?_
      refine ev_x (i := .iload_n 2) (len := 1) (p' := 68) (s' := [.int p_3.1, .ref 62]) rfl rfl rfl ?_
      refine ev_x (i := .aload_n 0) (len := 1) (p' := 69) (s' := [.ref 62, .int p_3.1, .ref 62]) rfl rfl rfl ?_
      refine ev_gc (p' := 72) (v := 42) rfl rfl rfl ly_62 rfl rfl ?_
      refine ev_gi (p' := 75) (v := (gI p_3.2 42 6)) rfl rfl rfl ly_42 rfl rfl rfl ?_
      obtain ⟨p_8, G_8, H⟩ := F_bd H
      refine ev_cv (d := d + 8) (As := [.int p_3.1, .int (gI p_3.2 42 6)]) (a := 62) (p' := 78) rfl rfl rfl ly_62 rfl rfl rfl rfl rfl rfl rfl (F_116_ok (d := d + 7)   G_8) ?_
      refine ev_st (st' := [.int p_8.1]) rfl ?_
      have e_8 := F_116_R G_8
      obtain rfl := Option.some.inj H
      exact ev_iret rfl rfl rfl rfl
  · refine ev_x (i := .aload_n 0) (len := 1) (p' := 1) (s' := [.ref 62]) rfl rfl rfl ?_
    refine ev_gc (p' := 4) (v := 52) rfl rfl rfl ly_62 rfl rfl ?_
    refine ev_gc (p' := 7) (v := 54) rfl rfl rfl ly_52 rfl rfl ?_
    refine ev_x (i := .iload_n 1) (len := 1) (p' := 8) (s' := [.int x_1, .ref 54]) rfl rfl rfl ?_
    refine ev_x (i := .bipush 12) (len := 2) (p' := 10) (s' := [.int 12, .int x_1, .ref 54]) rfl rfl rfl ?_
    refine ev_x (i := .imul) (len := 1) (p' := 11) (s' := [.int (x_1 * 12), .ref 54]) rfl rfl rfl ?_
    refine ev_x (i := .aload_n 0) (len := 1) (p' := 12) (s' := [.ref 62, .int (x_1 * 12), .ref 54]) rfl rfl rfl ?_
    refine ev_gc (p' := 15) (v := 42) rfl rfl rfl ly_62 rfl rfl ?_
    refine ev_gc (p' := 18) (v := 43) rfl rfl rfl ly_42 rfl rfl ?_
    refine ev_x (i := .iconst 0) (len := 1) (p' := 19) (s' := [.int 0, .ref 43, .int (x_1 * 12), .ref 54]) rfl rfl rfl ?_
    refine ev_x (i := .aload_n 0) (len := 1) (p' := 20) (s' := [.ref 62, .int 0, .ref 43, .int (x_1 * 12), .ref 54]) rfl rfl rfl ?_
    refine ev_gr (p' := 23) (v := 20) rfl rfl rfl ly_62 rfl rfl hr_62_5 ?_
    refine ev_gi (p' := 26) (v := (gI σ 20 7)) rfl rfl rfl ly_20 rfl rfl rfl ?_
    obtain ⟨b_1, H⟩ := F_gd H
    refine ev_ac (d := d + 8) (src := 54) (dst := 43) (p' := 29) rfl rfl rfl ly_54 ly_43 b_1 rfl rfl ?_
    refine ev_x (i := .aload_n 0) (len := 1) (p' := 30) (s' := [.ref 62]) rfl rfl rfl ?_
    refine ev_gc (p' := 33) (v := 42) rfl rfl rfl ly_62 rfl rfl ?_
    refine ev_x (i := .iload_n 1) (len := 1) (p' := 34) (s' := [.int x_1, .ref 42]) rfl rfl rfl ?_
    refine ev_x (i := .iconst 1) (len := 1) (p' := 35) (s' := [.int 1, .int x_1, .ref 42]) rfl rfl rfl ?_
    refine ev_x (i := .iadd) (len := 1) (p' := 36) (s' := [.int (x_1 + 1), .ref 42]) rfl rfl rfl ?_
    refine ev_pi (p' := 39) rfl rfl rfl ly_42 rfl rfl rfl rfl ?_
    refine ev_x (i := .aload_n 0) (len := 1) (p' := 40) (s' := [.ref 62]) rfl rfl rfl ?_
    refine ev_gc (p' := 43) (v := 52) rfl rfl rfl ly_62 rfl rfl ?_
    refine ev_x (i := .iload_n 1) (len := 1) (p' := 44) (s' := [.int x_1, .ref 52]) rfl rfl rfl ?_
    obtain ⟨p_2, G_2, H⟩ := F_bd H
    refine ev_cv (d := d + 8) (As := [.int x_1]) (a := 52) (p' := 47) rfl rfl rfl ly_52 rfl rfl rfl rfl rfl rfl rfl (F_115_ok (d := d + 7)   G_2) ?_
    refine ev_st (st' := []) rfl ?_
    have e_2 := F_115_R G_2
    refine ev_x (i := .aload_n 0) (len := 1) (p' := 48) (s' := [.ref 62]) rfl rfl rfl ?_
    refine ev_gc (p' := 51) (v := 42) rfl rfl rfl ly_62 rfl rfl ?_
    refine ev_x (i := .aload_n 0) (len := 1) (p' := 52) (s' := [.ref 62, .ref 42]) rfl rfl rfl ?_
    refine ev_gr (p' := 55) (v := 20) rfl rfl rfl ly_62 rfl rfl ((congrFun (congrFun e_2 62) 5).trans hr_62_5) ?_
    refine ev_gi (p' := 58) (v := (gI p_2 20 11)) rfl rfl rfl ly_20 rfl rfl rfl ?_
    obtain ⟨p_3, G_3, H⟩ := F_bd H
    refine ev_cv (d := d + 8) (As := [.int (gI p_2 20 11)]) (a := 42) (p' := 61) rfl rfl rfl ly_42 rfl rfl rfl rfl rfl rfl rfl (F_70_ok (d := d + 5) (ht := (Or.inr rfl)) (hr_42_3 := ((congrFun (congrFun e_2 42) 3).trans hr_42_3)) (hr_42_4 := ((congrFun (congrFun e_2 42) 4).trans hr_42_4)) G_3) ?_
    refine ev_st (st' := [.int p_3.1]) rfl ?_
    have e_3 := F_70_R G_3
    refine ev_x (i := .istore_n 2) (len := 1) (p' := 62) (s' := []) (l' := [(2, .int p_3.1), (0, .ref 62), (1, .int x_1)]) rfl rfl rfl ?_
    refine ev_x (i := .iload_n 2) (len := 1) (p' := 63) (s' := [.int p_3.1]) rfl rfl rfl ?_
    refine F_if H (fun c_4 H => ?_) (fun c_4 H => ?_)
    · refine ev_b0 (t := 79) (p' := 79) rfl rfl rfl (if_pos c_4) ?_
      refine ev_x (i := .aload_n 0) (len := 1) (p' := 80) (s' := [.ref 62]) rfl rfl rfl ?_
      refine ev_gc (p' := 83) (v := 42) rfl rfl rfl ly_62 rfl rfl ?_
      refine ev_x (i := .aload_n 0) (len := 1) (p' := 84) (s' := [.ref 62, .ref 42]) rfl rfl rfl ?_
      refine ev_gr (p' := 87) (v := 20) rfl rfl rfl ly_62 rfl rfl ((congrFun (congrFun e_3 62) 5).trans ((congrFun (congrFun e_2 62) 5).trans hr_62_5)) ?_
      refine ev_gi (p' := 90) (v := (gI p_3.2 20 11)) rfl rfl rfl ly_20 rfl rfl rfl ?_
      obtain ⟨p_5, G_5, H⟩ := F_bd H
      refine ev_cv (d := d + 8) (As := [.int (gI p_3.2 20 11)]) (a := 42) (p' := 93) rfl rfl rfl ly_42 rfl rfl rfl rfl rfl rfl rfl (F_117_ok (d := d + 7) (ht := (Or.inr rfl)) (hr_42_4 := ((congrFun (congrFun e_3 42) 4).trans ((congrFun (congrFun e_2 42) 4).trans hr_42_4))) G_5) ?_
      refine ev_st (st' := [.int p_5.1]) rfl ?_
      have e_5 := F_117_R G_5
      refine F_if H (fun c_6 H => ?_) (fun c_6 H => ?_)
      · refine ev_b0 (t := 108) (p' := 108) rfl rfl rfl (if_pos c_6) ?_
        refine ev_x (i := .iconst 0) (len := 1) (p' := 109) (s' := [.int 0]) rfl rfl rfl ?_
        refine ev_x (i := .istore_n 3) (len := 1) (p' := 110) (s' := []) (l' := [(3, .int 0), (2, .int p_3.1), (0, .ref 62), (1, .int x_1)]) rfl rfl rfl ?_
        exact (L_114_ok (d := d) (Or.inr rfl) N) _ _ _ _ _ rfl rfl rfl rfl ((congrFun (congrFun e_5 42) 3).trans ((congrFun (congrFun e_3 42) 3).trans ((congrFun (congrFun e_2 42) 3).trans hr_42_3))) ((congrFun (congrFun e_5 42) 4).trans ((congrFun (congrFun e_3 42) 4).trans ((congrFun (congrFun e_2 42) 4).trans hr_42_4))) ((congrFun (congrFun e_5 62) 5).trans ((congrFun (congrFun e_3 62) 5).trans ((congrFun (congrFun e_2 62) 5).trans hr_62_5))) ((congrFun (congrFun e_5 62) 6).trans ((congrFun (congrFun e_3 62) 6).trans ((congrFun (congrFun e_2 62) 6).trans hr_62_6))) H
      · refine ev_b0 (t := 108) (p' := 96) rfl rfl rfl (if_neg c_6) ?_
        refine ev_x (i := .aload_n 0) (len := 1) (p' := 97) (s' := [.ref 62]) rfl rfl rfl ?_
        refine ev_gc (p' := 100) (v := 52) rfl rfl rfl ly_62 rfl rfl ?_
        refine ev_gc (p' := 103) (v := 55) rfl rfl rfl ly_52 rfl rfl ?_
        refine ev_x (i := .iload_n 1) (len := 1) (p' := 104) (s' := [.int x_1, .ref 55]) rfl rfl rfl ?_
        refine ev_x (i := .iconst 3) (len := 1) (p' := 105) (s' := [.int 3, .int x_1, .ref 55]) rfl rfl rfl ?_
        obtain ⟨b_7, H⟩ := F_gd H
        refine ev_pa (j := (x_1 : Int32).toNatClampNeg) (p' := 106) rfl rfl ly_55 rfl (gd_in b_7) rfl ?_
        refine ev_x (i := .iconst 0) (len := 1) (p' := 107) (s' := [.int 0]) rfl rfl rfl ?_
        obtain rfl := Option.some.inj H
        exact ev_iret rfl rfl rfl rfl
    · refine ev_b0 (t := 79) (p' := 66) rfl rfl rfl (if_neg c_4) ?_
      refine ev_x (i := .aload_n 0) (len := 1) (p' := 67) (s' := [.ref 62]) rfl rfl rfl ?_
      refine ev_x (i := .iload_n 2) (len := 1) (p' := 68) (s' := [.int p_3.1, .ref 62]) rfl rfl rfl ?_
      refine ev_x (i := .aload_n 0) (len := 1) (p' := 69) (s' := [.ref 62, .int p_3.1, .ref 62]) rfl rfl rfl ?_
      refine ev_gc (p' := 72) (v := 42) rfl rfl rfl ly_62 rfl rfl ?_
      refine ev_gi (p' := 75) (v := (gI p_3.2 42 6)) rfl rfl rfl ly_42 rfl rfl rfl ?_
      obtain ⟨p_8, G_8, H⟩ := F_bd H
      refine ev_cv (d := d + 8) (As := [.int p_3.1, .int (gI p_3.2 42 6)]) (a := 62) (p' := 78) rfl rfl rfl ly_62 rfl rfl rfl rfl rfl rfl rfl (F_116_ok (d := d + 7)   G_8) ?_
      refine ev_st (st' := [.int p_8.1]) rfl ?_
      have e_8 := F_116_R G_8
      obtain rfl := Option.some.inj H
      exact ev_iret rfl rfl rfl rfl
/-- GameText$Explorer.seek(LGameText$Text;)V, its loops -/
def L_108 (N : Nat) (t : Nat) : Nat → Int32 → st_S → Option (st_S)
  | 0, _, _ => none
  | k + 1, l_2, σ =>
      if 512 ≤ l_2 then
        some (σ)
      else
        if (gI σ 52 10) ≤ l_2 then
          some (σ)
        else
          (F_114 N t l_2 (σ)).bind fun p_6 =>
          if p_6.1 = 0 then
            L_108 N t k (l_2 + 1) (st_i (p_6.2) 62 7 p_6.1)
          else
            (F_91 N (st_i (st_i (p_6.2) 62 7 p_6.1) 62 9 l_2)).bind fun p_8 =>
            some (p_8)
set_option maxRecDepth 100000 in
theorem L_108_R {N : Nat} {t : Nat} : ∀ (k : Nat) (l_2 : Int32) (σ : st_S) (p : st_S), L_108 N t k l_2 σ = some p → gR p = gR σ := by
  intro k
  induction k with
  | zero => intro l_2 σ p H; unfold L_108 at H; cases H
  | succ k ih =>
    intro l_2 σ p H
    unfold L_108 at H
    refine F_if H (fun _ H => ?_) (fun _ H => ?_)
    · obtain rfl := Option.some.inj H
      exact rfl
    · refine F_if H (fun _ H => ?_) (fun _ H => ?_)
      · obtain rfl := Option.some.inj H
        exact rfl
      · obtain ⟨p_6, G_6, H⟩ := F_bd H
        refine F_if H (fun _ H => ?_) (fun _ H => ?_)
        · exact (((ih _ _ _ H)).trans ((F_114_R G_6).trans rfl))
        · obtain ⟨p_8, G_8, H⟩ := F_bd H
          obtain rfl := Option.some.inj H
          exact ((F_91_R G_8).trans ((F_114_R G_6).trans rfl))
set_option maxHeartbeats 4000000 in
set_option maxRecDepth 100000 in
theorem L_108_ok {N d : Nat} {t : Nat} (ht : t = 4 ∨ t = 20) : ∀ k : Nat, ∀ (l_2 : Int32) (σ : st_S) (lv : vz_L) (p : st_S), vz_g lv 0 = some (.ref 62) → vz_g lv 2 = some (.int l_2) → vz_nbL (vz_gr P0) lv = true → gR σ 42 3 = t → gR σ 42 4 = (t + 1) → gR σ 62 5 = t → gR σ 62 6 = (t + 1) → L_108 N t k l_2 σ = some p → vz_ev P0 (d + 10) 108 70 lv [] (hp σ) (.inl none, hp p) := by
  intro k
  induction k with
  | zero => intro l_2 σ lv p g_0 g_2 hnb hr_42_3 hr_42_4 hr_62_5 hr_62_6 H; unfold L_108 at H; cases H
  | succ k ih =>
    intro l_2 σ lv p g_0 g_2 hnb hr_42_3 hr_42_4 hr_62_5 hr_62_6 H
    unfold L_108 at H
    refine ev_x (i := .iload_n 2) (len := 1) (p' := 71) (s' := [.int l_2]) rfl rfl (ld_i g_2) ?_
    refine ev_x (i := .sipush 512) (len := 3) (p' := 74) (s' := [.int 512, .int l_2]) rfl rfl rfl ?_
    refine F_if H (fun c_4 H => ?_) (fun c_4 H => ?_)
    · refine ev_b2 (t := 123) (p' := 123) rfl rfl rfl (if_pos c_4) ?_
      obtain rfl := Option.some.inj H
      exact ev_vret rfl rfl rfl
    · refine ev_b2 (t := 123) (p' := 77) rfl rfl rfl (if_neg c_4) ?_
      refine ev_x (i := .iload_n 2) (len := 1) (p' := 78) (s' := [.int l_2]) rfl rfl (ld_i g_2) ?_
      refine ev_x (i := .aload_n 0) (len := 1) (p' := 79) (s' := [.ref 62, .int l_2]) rfl rfl (ld_a g_0) ?_
      refine ev_gc (p' := 82) (v := 52) rfl rfl rfl ly_62 rfl rfl ?_
      refine ev_gi (p' := 85) (v := (gI σ 52 10)) rfl rfl rfl ly_52 rfl rfl rfl ?_
      refine F_if H (fun c_5 H => ?_) (fun c_5 H => ?_)
      · refine ev_b2 (t := 123) (p' := 123) rfl rfl rfl (if_pos c_5) ?_
        obtain rfl := Option.some.inj H
        exact ev_vret rfl rfl rfl
      · refine ev_b2 (t := 123) (p' := 88) rfl rfl rfl (if_neg c_5) ?_
        refine ev_x (i := .aload_n 0) (len := 1) (p' := 89) (s' := [.ref 62]) rfl rfl (ld_a g_0) ?_
        refine ev_x (i := .aload_n 0) (len := 1) (p' := 90) (s' := [.ref 62, .ref 62]) rfl rfl (ld_a g_0) ?_
        refine ev_x (i := .iload_n 2) (len := 1) (p' := 91) (s' := [.int l_2, .ref 62, .ref 62]) rfl rfl (ld_i g_2) ?_
        obtain ⟨p_6, G_6, H⟩ := F_bd H
        refine ev_cv (d := d + 9) (As := [.int l_2]) (a := 62) (p' := 94) rfl rfl rfl ly_62 rfl rfl rfl rfl rfl hnb rfl (F_114_ok (d := d + 0) (ht := ht) (hr_42_3 := hr_42_3) (hr_42_4 := hr_42_4) (hr_62_5 := hr_62_5) (hr_62_6 := hr_62_6) G_6) ?_
        refine ev_st (st' := [.int p_6.1, .ref 62]) rfl ?_
        have e_6 := F_114_R G_6
        refine ev_pi (p' := 97) rfl rfl rfl ly_62 rfl rfl rfl rfl ?_
        refine ev_x (i := .aload_n 0) (len := 1) (p' := 98) (s' := [.ref 62]) rfl rfl (ld_a g_0) ?_
        refine ev_gi (p' := 101) (v := p_6.1) rfl rfl rfl ly_62 rfl rfl rfl ?_
        refine F_if H (fun c_7 H => ?_) (fun c_7 H => ?_)
        · refine ev_b0 (t := 117) (p' := 117) rfl rfl rfl (if_pos c_7) ?_
          refine ev_x (i := .iinc 2 1) (len := 3) (p' := 120) (s' := []) (l' := vz_s1 (lv) 2 (.int (l_2 + 1))) rfl rfl (ld_inc g_2 rfl) ?_
          refine ev_x (i := .goto (-50)) (len := 3) (p' := 70) (s' := []) rfl rfl rfl ?_
          exact ih _ _ _ _ (vg_o (i := 2) (v := .int (l_2 + 1)) g_0 (by decide) (Or.inl rfl)) (vg_s (lv) 2 (.int (l_2 + 1))) (nb_s1 hnb rfl) ((congrFun (congrFun e_6 42) 3).trans hr_42_3) ((congrFun (congrFun e_6 42) 4).trans hr_42_4) ((congrFun (congrFun e_6 62) 5).trans hr_62_5) ((congrFun (congrFun e_6 62) 6).trans hr_62_6) H
        · refine ev_b0 (t := 117) (p' := 104) rfl rfl rfl (if_neg c_7) ?_
          refine ev_x (i := .aload_n 0) (len := 1) (p' := 105) (s' := [.ref 62]) rfl rfl (ld_a g_0) ?_
          refine ev_x (i := .iload_n 2) (len := 1) (p' := 106) (s' := [.int l_2, .ref 62]) rfl rfl (ld_i g_2) ?_
          refine ev_pi (p' := 109) rfl rfl rfl ly_62 rfl rfl rfl rfl ?_
          refine ev_x (i := .aload_n 0) (len := 1) (p' := 110) (s' := [.ref 62]) rfl rfl (ld_a g_0) ?_
          refine ev_gc (p' := 113) (v := 52) rfl rfl rfl ly_62 rfl rfl ?_
          obtain ⟨p_8, G_8, H⟩ := F_bd H
          refine ev_cv (d := d + 9) (As := []) (a := 52) (p' := 116) rfl rfl rfl ly_52 rfl rfl rfl rfl rfl hnb rfl (F_91_ok (d := d + 8)   G_8) ?_
          refine ev_st (st' := []) rfl ?_
          have e_8 := F_91_R G_8
          obtain rfl := Option.some.inj H
          exact ev_vret rfl rfl rfl
/-- GameText$Explorer.seek(LGameText$Text;)V -/
def F_108 (N : Nat) (t : Nat) (σ : st_S) : Option (st_S) :=
  (F_55 N t (st_i (st_i (st_i (st_r (st_r (σ) 62 5 t) 62 6 (t + 1)) 62 7 0) 62 8 (-1)) 62 9 (-1))).bind fun p_1 =>
  (F_109 N (gI p_1 t 7) (p_1)).bind fun p_2 =>
  (F_110b N t (p_2)).bind fun p_3 =>
  L_108 N t N 0 (p_3.2)
set_option maxRecDepth 100000 in
theorem F_108_R {N : Nat} {t : Nat} {σ : st_S} {p : st_S} (H : F_108 N t σ = some p) : gR p = gR (st_r (st_r (st_r (st_r (σ) 62 5 t) 62 6 (t + 1)) 42 3 t) 42 4 (t + 1)) := by
  unfold F_108 at H
  obtain ⟨p_1, G_1, H⟩ := F_bd H
  obtain ⟨p_2, G_2, H⟩ := F_bd H
  obtain ⟨p_3, G_3, H⟩ := F_bd H
  exact (((L_108_R _ _ _ _ H)).trans ((F_110b_R G_3).trans ((F_109_R G_2).trans ((F_55_R G_1).trans rfl))))
set_option maxHeartbeats 4000000 in
set_option maxRecDepth 100000 in
theorem F_108_ok {N d : Nat} {t : Nat} (ht : t = 4 ∨ t = 20) {σ : st_S} {p : st_S}  (H : F_108 N t σ = some p) : vz_ev P0 (d + 10) 108 0 (lv_args 0 [.ref 62, .ref t]) [] (hp σ) (.inl none, hp p) := by
  unfold F_108 at H
  rcases ht with rfl | rfl
  · refine ev_x (i := .aload_n 0) (len := 1) (p' := 1) (s' := [.ref 62]) rfl rfl rfl ?_
    refine ev_x (i := .aload_n 1) (len := 1) (p' := 2) (s' := [.ref 4, .ref 62]) rfl rfl rfl ?_
    refine ev_pr (p' := 5) rfl rfl rfl ly_62 rfl rfl rfl rfl rfl ?_
    refine ev_x (i := .aload_n 0) (len := 1) (p' := 6) (s' := [.ref 62]) rfl rfl rfl ?_
    refine ev_x (i := .aload_n 1) (len := 1) (p' := 7) (s' := [.ref 4, .ref 62]) rfl rfl rfl ?_
    refine ev_gc (p' := 10) (v := 5) rfl rfl rfl ly_4 rfl rfl ?_
    refine ev_pr (p' := 13) rfl rfl rfl ly_62 rfl rfl rfl rfl rfl ?_
    refine ev_x (i := .aload_n 0) (len := 1) (p' := 14) (s' := [.ref 62]) rfl rfl rfl ?_
    refine ev_x (i := .iconst 0) (len := 1) (p' := 15) (s' := [.int 0, .ref 62]) rfl rfl rfl ?_
    refine ev_pi (p' := 18) rfl rfl rfl ly_62 rfl rfl rfl rfl ?_
    refine ev_x (i := .aload_n 0) (len := 1) (p' := 19) (s' := [.ref 62]) rfl rfl rfl ?_
    refine ev_x (i := .iconst (-1)) (len := 1) (p' := 20) (s' := [.int (-1), .ref 62]) rfl rfl rfl ?_
    refine ev_pi (p' := 23) rfl rfl rfl ly_62 rfl rfl rfl rfl ?_
    refine ev_x (i := .aload_n 0) (len := 1) (p' := 24) (s' := [.ref 62]) rfl rfl rfl ?_
    refine ev_x (i := .iconst (-1)) (len := 1) (p' := 25) (s' := [.int (-1), .ref 62]) rfl rfl rfl ?_
    refine ev_pi (p' := 28) rfl rfl rfl ly_62 rfl rfl rfl rfl ?_
    refine ev_x (i := .aload_n 0) (len := 1) (p' := 29) (s' := [.ref 62]) rfl rfl rfl ?_
    refine ev_gc (p' := 32) (v := 42) rfl rfl rfl ly_62 rfl rfl ?_
    refine ev_x (i := .aload_n 0) (len := 1) (p' := 33) (s' := [.ref 62, .ref 42]) rfl rfl rfl ?_
    refine ev_gr (p' := 36) (v := 4) rfl rfl rfl ly_62 rfl rfl rfl ?_
    obtain ⟨p_1, G_1, H⟩ := F_bd H
    refine ev_cv (d := d + 9) (As := [.ref 4]) (a := 42) (p' := 39) rfl rfl rfl ly_42 rfl rfl rfl rfl rfl rfl rfl (F_55_ok (d := d + 7) (ht := (Or.inl rfl))  G_1) ?_
    refine ev_st (st' := []) rfl ?_
    have e_1 := F_55_R G_1
    refine ev_x (i := .aload_n 0) (len := 1) (p' := 40) (s' := [.ref 62]) rfl rfl rfl ?_
    refine ev_gc (p' := 43) (v := 52) rfl rfl rfl ly_62 rfl rfl ?_
    refine ev_x (i := .aload_n 0) (len := 1) (p' := 44) (s' := [.ref 62, .ref 52]) rfl rfl rfl ?_
    refine ev_gr (p' := 47) (v := 4) rfl rfl rfl ly_62 rfl rfl ((congrFun (congrFun e_1 62) 5).trans rfl) ?_
    refine ev_gi (p' := 50) (v := (gI p_1 4 7)) rfl rfl rfl ly_4 rfl rfl rfl ?_
    obtain ⟨p_2, G_2, H⟩ := F_bd H
    refine ev_cv (d := d + 9) (As := [.int (gI p_1 4 7)]) (a := 52) (p' := 53) rfl rfl rfl ly_52 rfl rfl rfl rfl rfl rfl rfl (F_109_ok (d := d + 7)   G_2) ?_
    refine ev_st (st' := []) rfl ?_
    have e_2 := F_109_R G_2
    refine ev_x (i := .aload_n 0) (len := 1) (p' := 54) (s' := [.ref 62]) rfl rfl rfl ?_
    refine ev_gc (p' := 57) (v := 52) rfl rfl rfl ly_62 rfl rfl ?_
    refine ev_x (i := .aload_n 0) (len := 1) (p' := 58) (s' := [.ref 62, .ref 52]) rfl rfl rfl ?_
    refine ev_gr (p' := 61) (v := 4) rfl rfl rfl ly_62 rfl rfl ((congrFun (congrFun e_2 62) 5).trans ((congrFun (congrFun e_1 62) 5).trans rfl)) ?_
    refine ev_gc (p' := 64) (v := 16) rfl rfl rfl ly_4 rfl rfl ?_
    obtain ⟨p_3, G_3, H⟩ := F_bd H
    refine ev_cv (d := d + 9) (As := [.ref 16]) (a := 52) (p' := 67) rfl rfl rfl ly_52 rfl rfl rfl rfl rfl rfl rfl (F_110b_ok (d := d + 3) (ht := (Or.inl rfl))  G_3) ?_
    refine ev_st (st' := [.int p_3.1]) rfl ?_
    have e_3 := F_110b_R G_3
    refine ev_x (i := .pop) (len := 1) (p' := 68) (s' := []) rfl rfl rfl ?_
    refine ev_x (i := .iconst 0) (len := 1) (p' := 69) (s' := [.int 0]) rfl rfl rfl ?_
    refine ev_x (i := .istore_n 2) (len := 1) (p' := 70) (s' := []) (l' := [(2, .int 0), (0, .ref 62), (1, .ref 4)]) rfl rfl rfl ?_
    exact (L_108_ok (d := d) (Or.inl rfl) N) _ _ _ _ rfl rfl rfl ((congrFun (congrFun e_3 42) 3).trans ((congrFun (congrFun e_2 42) 3).trans ((congrFun (congrFun e_1 42) 3).trans rfl))) ((congrFun (congrFun e_3 42) 4).trans ((congrFun (congrFun e_2 42) 4).trans ((congrFun (congrFun e_1 42) 4).trans rfl))) ((congrFun (congrFun e_3 62) 5).trans ((congrFun (congrFun e_2 62) 5).trans ((congrFun (congrFun e_1 62) 5).trans rfl))) ((congrFun (congrFun e_3 62) 6).trans ((congrFun (congrFun e_2 62) 6).trans ((congrFun (congrFun e_1 62) 6).trans rfl))) H
  · refine ev_x (i := .aload_n 0) (len := 1) (p' := 1) (s' := [.ref 62]) rfl rfl rfl ?_
    refine ev_x (i := .aload_n 1) (len := 1) (p' := 2) (s' := [.ref 20, .ref 62]) rfl rfl rfl ?_
    refine ev_pr (p' := 5) rfl rfl rfl ly_62 rfl rfl rfl rfl rfl ?_
    refine ev_x (i := .aload_n 0) (len := 1) (p' := 6) (s' := [.ref 62]) rfl rfl rfl ?_
    refine ev_x (i := .aload_n 1) (len := 1) (p' := 7) (s' := [.ref 20, .ref 62]) rfl rfl rfl ?_
    refine ev_gc (p' := 10) (v := 21) rfl rfl rfl ly_20 rfl rfl ?_
    refine ev_pr (p' := 13) rfl rfl rfl ly_62 rfl rfl rfl rfl rfl ?_
    refine ev_x (i := .aload_n 0) (len := 1) (p' := 14) (s' := [.ref 62]) rfl rfl rfl ?_
    refine ev_x (i := .iconst 0) (len := 1) (p' := 15) (s' := [.int 0, .ref 62]) rfl rfl rfl ?_
    refine ev_pi (p' := 18) rfl rfl rfl ly_62 rfl rfl rfl rfl ?_
    refine ev_x (i := .aload_n 0) (len := 1) (p' := 19) (s' := [.ref 62]) rfl rfl rfl ?_
    refine ev_x (i := .iconst (-1)) (len := 1) (p' := 20) (s' := [.int (-1), .ref 62]) rfl rfl rfl ?_
    refine ev_pi (p' := 23) rfl rfl rfl ly_62 rfl rfl rfl rfl ?_
    refine ev_x (i := .aload_n 0) (len := 1) (p' := 24) (s' := [.ref 62]) rfl rfl rfl ?_
    refine ev_x (i := .iconst (-1)) (len := 1) (p' := 25) (s' := [.int (-1), .ref 62]) rfl rfl rfl ?_
    refine ev_pi (p' := 28) rfl rfl rfl ly_62 rfl rfl rfl rfl ?_
    refine ev_x (i := .aload_n 0) (len := 1) (p' := 29) (s' := [.ref 62]) rfl rfl rfl ?_
    refine ev_gc (p' := 32) (v := 42) rfl rfl rfl ly_62 rfl rfl ?_
    refine ev_x (i := .aload_n 0) (len := 1) (p' := 33) (s' := [.ref 62, .ref 42]) rfl rfl rfl ?_
    refine ev_gr (p' := 36) (v := 20) rfl rfl rfl ly_62 rfl rfl rfl ?_
    obtain ⟨p_1, G_1, H⟩ := F_bd H
    refine ev_cv (d := d + 9) (As := [.ref 20]) (a := 42) (p' := 39) rfl rfl rfl ly_42 rfl rfl rfl rfl rfl rfl rfl (F_55_ok (d := d + 7) (ht := (Or.inr rfl))  G_1) ?_
    refine ev_st (st' := []) rfl ?_
    have e_1 := F_55_R G_1
    refine ev_x (i := .aload_n 0) (len := 1) (p' := 40) (s' := [.ref 62]) rfl rfl rfl ?_
    refine ev_gc (p' := 43) (v := 52) rfl rfl rfl ly_62 rfl rfl ?_
    refine ev_x (i := .aload_n 0) (len := 1) (p' := 44) (s' := [.ref 62, .ref 52]) rfl rfl rfl ?_
    refine ev_gr (p' := 47) (v := 20) rfl rfl rfl ly_62 rfl rfl ((congrFun (congrFun e_1 62) 5).trans rfl) ?_
    refine ev_gi (p' := 50) (v := (gI p_1 20 7)) rfl rfl rfl ly_20 rfl rfl rfl ?_
    obtain ⟨p_2, G_2, H⟩ := F_bd H
    refine ev_cv (d := d + 9) (As := [.int (gI p_1 20 7)]) (a := 52) (p' := 53) rfl rfl rfl ly_52 rfl rfl rfl rfl rfl rfl rfl (F_109_ok (d := d + 7)   G_2) ?_
    refine ev_st (st' := []) rfl ?_
    have e_2 := F_109_R G_2
    refine ev_x (i := .aload_n 0) (len := 1) (p' := 54) (s' := [.ref 62]) rfl rfl rfl ?_
    refine ev_gc (p' := 57) (v := 52) rfl rfl rfl ly_62 rfl rfl ?_
    refine ev_x (i := .aload_n 0) (len := 1) (p' := 58) (s' := [.ref 62, .ref 52]) rfl rfl rfl ?_
    refine ev_gr (p' := 61) (v := 20) rfl rfl rfl ly_62 rfl rfl ((congrFun (congrFun e_2 62) 5).trans ((congrFun (congrFun e_1 62) 5).trans rfl)) ?_
    refine ev_gc (p' := 64) (v := 32) rfl rfl rfl ly_20 rfl rfl ?_
    obtain ⟨p_3, G_3, H⟩ := F_bd H
    refine ev_cv (d := d + 9) (As := [.ref 32]) (a := 52) (p' := 67) rfl rfl rfl ly_52 rfl rfl rfl rfl rfl rfl rfl (F_110b_ok (d := d + 3) (ht := (Or.inr rfl))  G_3) ?_
    refine ev_st (st' := [.int p_3.1]) rfl ?_
    have e_3 := F_110b_R G_3
    refine ev_x (i := .pop) (len := 1) (p' := 68) (s' := []) rfl rfl rfl ?_
    refine ev_x (i := .iconst 0) (len := 1) (p' := 69) (s' := [.int 0]) rfl rfl rfl ?_
    refine ev_x (i := .istore_n 2) (len := 1) (p' := 70) (s' := []) (l' := [(2, .int 0), (0, .ref 62), (1, .ref 20)]) rfl rfl rfl ?_
    exact (L_108_ok (d := d) (Or.inr rfl) N) _ _ _ _ rfl rfl rfl ((congrFun (congrFun e_3 42) 3).trans ((congrFun (congrFun e_2 42) 3).trans ((congrFun (congrFun e_1 42) 3).trans rfl))) ((congrFun (congrFun e_3 42) 4).trans ((congrFun (congrFun e_2 42) 4).trans ((congrFun (congrFun e_1 42) 4).trans rfl))) ((congrFun (congrFun e_3 62) 5).trans ((congrFun (congrFun e_2 62) 5).trans ((congrFun (congrFun e_1 62) 5).trans rfl))) ((congrFun (congrFun e_3 62) 6).trans ((congrFun (congrFun e_2 62) 6).trans ((congrFun (congrFun e_1 62) 6).trans rfl))) H
