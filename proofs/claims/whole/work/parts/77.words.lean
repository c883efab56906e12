/-! methods as functions of the store. Written by wip/prog/dec2.py, gen_all.py -/
/-- GameText$Words.isLetter(I)Z, from 12 -/
def J_19_12 (N : Nat) (l_0 : Int32) (σ : st_S) : Option (Int32 × st_S) :=
  some ((if l_0 < 97 then 0 else (if 122 < l_0 then 0 else 1) : Int32), σ)
set_option maxRecDepth 100000 in
theorem J_19_12_R {N : Nat} {l_0 : Int32} {σ : st_S} {p : Int32 × st_S} (H : J_19_12 N l_0 σ = some p) : gR p.2 = gR σ := by
  unfold J_19_12 at H
  obtain rfl := Option.some.inj H
  exact rfl
set_option maxHeartbeats 4000000 in
set_option maxRecDepth 100000 in
theorem J_19_12_ok {N d : Nat} {l_0 : Int32} {σ : st_S} {lv : vz_L} {p : Int32 × st_S} (g_0 : vz_g lv 0 = some (.int l_0)) (hnb : vz_nbL (vz_gr P0) lv = true)  (H : J_19_12 N l_0 σ = some p) : vz_ev P0 (d + 1) 19 12 lv [] (hp σ) (.inl (some (.int p.1)), hp p.2) := by
  unfold J_19_12 at H
  refine ev_x (i := .iload_n 0) (len := 1) (p' := 13) (s' := [.int l_0]) rfl rfl (ld_i g_0) ?_
  refine ev_x (i := .bipush 97) (len := 2) (p' := 15) (s' := [.int 97, .int l_0]) rfl rfl rfl ?_
  refine F_jn (A := vz_ev P0 (d + 1) 19 29 (lv) [.int (if l_0 < 97 then 0 else (if 122 < l_0 then 0 else 1) : Int32)] (hp (σ)) (.inl (some (.int p.1)), hp p.2)) ?_ (fun J => ?_)
  · obtain rfl := Option.some.inj H
    exact ev_iret rfl rfl rfl (fit_b (by (repeat' split) <;> decide))
  · by_cases c_3 : l_0 < 97
    · refine ev_b2 (t := 28) (p' := 28) rfl rfl rfl (if_pos c_3) ?_
      refine ev_x (i := .iconst 0) (len := 1) (p' := 29) (s' := [.int 0]) rfl rfl rfl ?_
      exact ev_st (congrArg (fun z => Value.int z :: []) (by rw [if_pos c_3])) J
    · refine ev_b2 (t := 28) (p' := 18) rfl rfl rfl (if_neg c_3) ?_
      refine ev_x (i := .iload_n 0) (len := 1) (p' := 19) (s' := [.int l_0]) rfl rfl (ld_i g_0) ?_
      refine ev_x (i := .bipush 122) (len := 2) (p' := 21) (s' := [.int 122, .int l_0]) rfl rfl rfl ?_
      by_cases c_4 : 122 < l_0
      · refine ev_b2 (t := 28) (p' := 28) rfl rfl rfl (if_pos c_4) ?_
        refine ev_x (i := .iconst 0) (len := 1) (p' := 29) (s' := [.int 0]) rfl rfl rfl ?_
        exact ev_st (congrArg (fun z => Value.int z :: []) (by rw [if_neg c_3, if_pos c_4])) J
      · refine ev_b2 (t := 28) (p' := 24) rfl rfl rfl (if_neg c_4) ?_
        refine ev_x (i := .iconst 1) (len := 1) (p' := 25) (s' := [.int 1]) rfl rfl rfl ?_
        refine ev_x (i := .goto 4) (len := 3) (p' := 29) (s' := [.int 1]) rfl rfl rfl ?_
        exact ev_st (congrArg (fun z => Value.int z :: []) (by rw [if_neg c_3, if_neg c_4])) J
/-- GameText$Words.isLetter(I)Z -/
def F_19 (N : Nat) (x_0 : Int32) (σ : st_S) : Option (Int32 × st_S) :=
  if x_0 < 65 then
    J_19_12 N x_0 (σ)
  else
    if x_0 ≤ 90 then
      some (1, σ)
    else
      J_19_12 N x_0 (σ)
set_option maxRecDepth 100000 in
theorem F_19_R {N : Nat} {x_0 : Int32} {σ : st_S} {p : Int32 × st_S} (H : F_19 N x_0 σ = some p) : gR p.2 = gR σ := by
  unfold F_19 at H
  refine F_if H (fun _ H => ?_) (fun _ H => ?_)
  · exact (((J_19_12_R H)).trans rfl)
  · refine F_if H (fun _ H => ?_) (fun _ H => ?_)
    · obtain rfl := Option.some.inj H
      exact rfl
    · exact (((J_19_12_R H)).trans rfl)
set_option maxHeartbeats 4000000 in
set_option maxRecDepth 100000 in
theorem F_19_ok {N d : Nat} {x_0 : Int32} {σ : st_S} {p : Int32 × st_S}  (H : F_19 N x_0 σ = some p) : vz_ev P0 (d + 1) 19 0 (lv_args 0 [.int x_0]) [] (hp σ) (.inl (some (.int p.1)), hp p.2) := by
  unfold F_19 at H
  refine ev_x (i := .iload_n 0) (len := 1) (p' := 1) (s' := [.int x_0]) rfl rfl rfl ?_
  refine ev_x (i := .bipush 65) (len := 2) (p' := 3) (s' := [.int 65, .int x_0]) rfl rfl rfl ?_
  refine F_if H (fun c_1 H => ?_) (fun c_1 H => ?_)
  · refine ev_b2 (t := 12) (p' := 12) rfl rfl rfl (if_pos c_1) ?_
    exact J_19_12_ok (d := d) rfl rfl  H
  · refine ev_b2 (t := 12) (p' := 6) rfl rfl rfl (if_neg c_1) ?_
    refine ev_x (i := .iload_n 0) (len := 1) (p' := 7) (s' := [.int x_0]) rfl rfl rfl ?_
    refine ev_x (i := .bipush 90) (len := 2) (p' := 9) (s' := [.int 90, .int x_0]) rfl rfl rfl ?_
    refine F_if H (fun c_2 H => ?_) (fun c_2 H => ?_)
    · refine ev_b2 (t := 24) (p' := 24) rfl rfl rfl (if_pos c_2) ?_
      refine ev_x (i := .iconst 1) (len := 1) (p' := 25) (s' := [.int 1]) rfl rfl rfl ?_
      refine ev_x (i := .goto 4) (len := 3) (p' := 29) (s' := [.int 1]) rfl rfl rfl ?_
      obtain rfl := Option.some.inj H
      exact ev_iret rfl rfl rfl rfl
    · refine ev_b2 (t := 24) (p' := 12) rfl rfl rfl (if_neg c_2) ?_
      exact J_19_12_ok (d := d) rfl rfl  H
/-- GameText$Words.isDigit(I)Z -/
def F_21 (N : Nat) (x_0 : Int32) (σ : st_S) : Option (Int32 × st_S) :=
  some ((if x_0 < 48 then 0 else (if 57 < x_0 then 0 else 1) : Int32), σ)
set_option maxRecDepth 100000 in
theorem F_21_R {N : Nat} {x_0 : Int32} {σ : st_S} {p : Int32 × st_S} (H : F_21 N x_0 σ = some p) : gR p.2 = gR σ := by
  unfold F_21 at H
  obtain rfl := Option.some.inj H
  exact rfl
set_option maxHeartbeats 4000000 in
set_option maxRecDepth 100000 in
theorem F_21_ok {N d : Nat} {x_0 : Int32} {σ : st_S} {p : Int32 × st_S}  (H : F_21 N x_0 σ = some p) : vz_ev P0 (d + 1) 21 0 (lv_args 0 [.int x_0]) [] (hp σ) (.inl (some (.int p.1)), hp p.2) := by
  unfold F_21 at H
  refine ev_x (i := .iload_n 0) (len := 1) (p' := 1) (s' := [.int x_0]) rfl rfl rfl ?_
  refine ev_x (i := .bipush 48) (len := 2) (p' := 3) (s' := [.int 48, .int x_0]) rfl rfl rfl ?_
  refine F_jn (A := vz_ev P0 (d + 1) 21 17 [(0, .int x_0)] [.int (if x_0 < 48 then 0 else (if 57 < x_0 then 0 else 1) : Int32)] (hp (σ)) (.inl (some (.int p.1)), hp p.2)) ?_ (fun J => ?_)
  · obtain rfl := Option.some.inj H
    exact ev_iret rfl rfl rfl (fit_b (by (repeat' split) <;> decide))
  · by_cases c_1 : x_0 < 48
    · refine ev_b2 (t := 16) (p' := 16) rfl rfl rfl (if_pos c_1) ?_
      refine ev_x (i := .iconst 0) (len := 1) (p' := 17) (s' := [.int 0]) rfl rfl rfl ?_
      exact ev_st (congrArg (fun z => Value.int z :: []) (by rw [if_pos c_1])) J
    · refine ev_b2 (t := 16) (p' := 6) rfl rfl rfl (if_neg c_1) ?_
      refine ev_x (i := .iload_n 0) (len := 1) (p' := 7) (s' := [.int x_0]) rfl rfl rfl ?_
      refine ev_x (i := .bipush 57) (len := 2) (p' := 9) (s' := [.int 57, .int x_0]) rfl rfl rfl ?_
      by_cases c_2 : 57 < x_0
      · refine ev_b2 (t := 16) (p' := 16) rfl rfl rfl (if_pos c_2) ?_
        refine ev_x (i := .iconst 0) (len := 1) (p' := 17) (s' := [.int 0]) rfl rfl rfl ?_
        exact ev_st (congrArg (fun z => Value.int z :: []) (by rw [if_neg c_1, if_pos c_2])) J
      · refine ev_b2 (t := 16) (p' := 12) rfl rfl rfl (if_neg c_2) ?_
        refine ev_x (i := .iconst 1) (len := 1) (p' := 13) (s' := [.int 1]) rfl rfl rfl ?_
        refine ev_x (i := .goto 4) (len := 3) (p' := 17) (s' := [.int 1]) rfl rfl rfl ?_
        exact ev_st (congrArg (fun z => Value.int z :: []) (by rw [if_neg c_1, if_neg c_2])) J
/-- GameText$Words.isKeyAt(I)Z, its loops -/
def L_23 (N : Nat) : Nat → Int32 → Int32 → st_S → Option (Int32 × st_S)
  | 0, _, _, _ => none
  | k + 1, l_1, l_2, σ =>
      if (gI σ 2 5) ≤ l_2 then
        some (1, σ)
      else
        (tx_1 0 (l_1 + l_2)).bind fun z_2 =>
        if aB ((gI σ 2 4) + l_2) (gN σ 3) then
        if z_2 = (gE (σ) 3 (((gI σ 2 4) + l_2) : Int32).toNatClampNeg) then
          L_23 N k l_1 (l_2 + 1) (σ)
        else
          some (0, σ)
        else none
set_option maxRecDepth 100000 in
theorem L_23_R {N : Nat} : ∀ (k : Nat) (l_1 : Int32) (l_2 : Int32) (σ : st_S) (p : Int32 × st_S), L_23 N k l_1 l_2 σ = some p → gR p.2 = gR σ := by
  intro k
  induction k with
  | zero => intro l_1 l_2 σ p H; unfold L_23 at H; cases H
  | succ k ih =>
    intro l_1 l_2 σ p H
    unfold L_23 at H
    refine F_if H (fun _ H => ?_) (fun _ H => ?_)
    · obtain rfl := Option.some.inj H
      exact rfl
    · obtain ⟨z_2, G_2, H⟩ := F_bd H
      obtain ⟨_, H⟩ := F_gd H
      refine F_if H (fun _ H => ?_) (fun _ H => ?_)
      · exact (((ih _ _ _ _ H)).trans rfl)
      · obtain rfl := Option.some.inj H
        exact rfl
set_option maxHeartbeats 4000000 in
set_option maxRecDepth 100000 in
theorem L_23_ok {N d : Nat} : ∀ k : Nat, ∀ (l_1 : Int32) (l_2 : Int32) (σ : st_S) (lv : vz_L) (p : Int32 × st_S), vz_g lv 0 = some (.ref 2) → vz_g lv 1 = some (.int l_1) → vz_g lv 2 = some (.int l_2) → vz_nbL (vz_gr P0) lv = true → L_23 N k l_1 l_2 σ = some p → vz_ev P0 (d + 8) 23 2 lv [] (hp σ) (.inl (some (.int p.1)), hp p.2) := by
  intro k
  induction k with
  | zero => intro l_1 l_2 σ lv p g_0 g_1 g_2 hnb H; unfold L_23 at H; cases H
  | succ k ih =>
    intro l_1 l_2 σ lv p g_0 g_1 g_2 hnb H
    unfold L_23 at H
    refine ev_x (i := .iload_n 2) (len := 1) (p' := 3) (s' := [.int l_2]) rfl rfl (ld_i g_2) ?_
    refine ev_x (i := .aload_n 0) (len := 1) (p' := 4) (s' := [.ref 2, .int l_2]) rfl rfl (ld_a g_0) ?_
    refine ev_gi (p' := 7) (v := (gI σ 2 5)) rfl rfl rfl ly_2 rfl rfl rfl ?_
    refine F_if H (fun c_1 H => ?_) (fun c_1 H => ?_)
    · refine ev_b2 (t := 40) (p' := 40) rfl rfl rfl (if_pos c_1) ?_
      refine ev_x (i := .iconst 1) (len := 1) (p' := 41) (s' := [.int 1]) rfl rfl rfl ?_
      obtain rfl := Option.some.inj H
      exact ev_iret rfl rfl rfl rfl
    · refine ev_b2 (t := 40) (p' := 10) rfl rfl rfl (if_neg c_1) ?_
      refine ev_x (i := .ldc 64) (len := 2) (p' := 12) (s' := [.ref 1000000]) rfl rfl rfl ?_
      refine ev_x (i := .iload_n 1) (len := 1) (p' := 13) (s' := [.int l_1, .ref 1000000]) rfl rfl (ld_i g_1) ?_
      refine ev_x (i := .iload_n 2) (len := 1) (p' := 14) (s' := [.int l_2, .int l_1, .ref 1000000]) rfl rfl (ld_i g_2) ?_
      refine ev_x (i := .iadd) (len := 1) (p' := 15) (s' := [.int (l_1 + l_2), .ref 1000000]) rfl rfl rfl ?_
      obtain ⟨z_2, G_2, H⟩ := F_bd H
      refine ev_text (As := [.int (l_1 + l_2)]) (a := 1000000) (rest := []) (x := z_2) rfl rfl rfl rfl rfl rfl rfl (tx_1_ok (w := 0) G_2) ?_
      refine ev_st (st' := [.int z_2]) rfl ?_
      refine ev_pc (pc' := 18) rfl ?_
      refine ev_x (i := .aload_n 0) (len := 1) (p' := 19) (s' := [.ref 2, .int z_2]) rfl rfl (ld_a g_0) ?_
      refine ev_gc (p' := 22) (v := 3) rfl rfl rfl ly_2 rfl rfl ?_
      refine ev_x (i := .aload_n 0) (len := 1) (p' := 23) (s' := [.ref 2, .ref 3, .int z_2]) rfl rfl (ld_a g_0) ?_
      refine ev_gi (p' := 26) (v := (gI σ 2 4)) rfl rfl rfl ly_2 rfl rfl rfl ?_
      refine ev_x (i := .iload_n 2) (len := 1) (p' := 27) (s' := [.int l_2, .int (gI σ 2 4), .ref 3, .int z_2]) rfl rfl (ld_i g_2) ?_
      refine ev_x (i := .iadd) (len := 1) (p' := 28) (s' := [.int ((gI σ 2 4) + l_2), .ref 3, .int z_2]) rfl rfl rfl ?_
      obtain ⟨b_3, H⟩ := F_gd H
      refine ev_ga (p' := 29) (v := (gE (σ) 3 (((gI σ 2 4) + l_2) : Int32).toNatClampNeg)) rfl rfl ly_3 rfl (gd_in b_3) rfl ?_
      refine F_if H (fun c_4 H => ?_) (fun c_4 H => ?_)
      · refine ev_b2 (t := 34) (p' := 34) rfl rfl rfl (if_pos c_4) ?_
        refine ev_x (i := .iinc 2 1) (len := 3) (p' := 37) (s' := []) (l' := vz_s1 (lv) 2 (.int (l_2 + 1))) rfl rfl (ld_inc g_2 rfl) ?_
        refine ev_x (i := .goto (-35)) (len := 3) (p' := 2) (s' := []) rfl rfl rfl ?_
        exact ih _ _ _ _ _ (vg_o (i := 2) (v := .int (l_2 + 1)) g_0 (by decide) (Or.inl rfl)) (vg_o (i := 2) (v := .int (l_2 + 1)) g_1 (by decide) (Or.inl rfl)) (vg_s (lv) 2 (.int (l_2 + 1))) (nb_s1 hnb rfl)  H
      · refine ev_b2 (t := 34) (p' := 32) rfl rfl rfl (if_neg c_4) ?_
        refine ev_x (i := .iconst 0) (len := 1) (p' := 33) (s' := [.int 0]) rfl rfl rfl ?_
        obtain rfl := Option.some.inj H
        exact ev_iret rfl rfl rfl rfl
/-- GameText$Words.isKeyAt(I)Z -/
def F_23 (N : Nat) (x_1 : Int32) (σ : st_S) : Option (Int32 × st_S) :=
  L_23 N N x_1 0 (σ)
set_option maxRecDepth 100000 in
theorem F_23_R {N : Nat} {x_1 : Int32} {σ : st_S} {p : Int32 × st_S} (H : F_23 N x_1 σ = some p) : gR p.2 = gR σ := by
  unfold F_23 at H
  exact (((L_23_R _ _ _ _ _ H)).trans rfl)
set_option maxHeartbeats 4000000 in
set_option maxRecDepth 100000 in
theorem F_23_ok {N d : Nat} {x_1 : Int32} {σ : st_S} {p : Int32 × st_S}  (H : F_23 N x_1 σ = some p) : vz_ev P0 (d + 8) 23 0 (lv_args 0 [.ref 2, .int x_1]) [] (hp σ) (.inl (some (.int p.1)), hp p.2) := by
  unfold F_23 at H
  refine ev_x (i := .iconst 0) (len := 1) (p' := 1) (s' := [.int 0]) rfl rfl rfl ?_
  refine ev_x (i := .istore_n 2) (len := 1) (p' := 2) (s' := []) (l' := [(2, .int 0), (0, .ref 2), (1, .int x_1)]) rfl rfl rfl ?_
  exact (L_23_ok (d := d) N) _ _ _ _ _ rfl rfl rfl rfl  H
/-- GameText$Words.keyOrName()I, its loops -/
def L_22 (N : Nat) : Nat → Int32 → Int32 → Int32 → st_S → Option (Int32 × st_S)
  | 0, _, _, _, _ => none
  | k + 1, l_1, l_2, l_3, σ =>
      if 70 ≤ l_3 then
        some (261, σ)
      else
        (tx_1 0 l_3).bind fun z_2 =>
        if z_2 = 32 then
          if (l_3 - l_2) = (gI σ 2 5) then
            (F_23 N l_2 (σ)).bind fun p_5 =>
            if p_5.1 = 0 then
              L_22 N k (l_1 + 1) (l_3 + 1) (l_3 + 1) (p_5.2)
            else
              some (l_1, p_5.2)
          else
            L_22 N k (l_1 + 1) (l_3 + 1) (l_3 + 1) (σ)
        else
          L_22 N k l_1 l_2 (l_3 + 1) (σ)
set_option maxRecDepth 100000 in
theorem L_22_R {N : Nat} : ∀ (k : Nat) (l_1 : Int32) (l_2 : Int32) (l_3 : Int32) (σ : st_S) (p : Int32 × st_S), L_22 N k l_1 l_2 l_3 σ = some p → gR p.2 = gR σ := by
  intro k
  induction k with
  | zero => intro l_1 l_2 l_3 σ p H; unfold L_22 at H; cases H
  | succ k ih =>
    intro l_1 l_2 l_3 σ p H
    unfold L_22 at H
    refine F_if H (fun _ H => ?_) (fun _ H => ?_)
    · obtain rfl := Option.some.inj H
      exact rfl
    · obtain ⟨z_2, G_2, H⟩ := F_bd H
      refine F_if H (fun _ H => ?_) (fun _ H => ?_)
      · refine F_if H (fun _ H => ?_) (fun _ H => ?_)
        · obtain ⟨p_5, G_5, H⟩ := F_bd H
          refine F_if H (fun _ H => ?_) (fun _ H => ?_)
          · exact (((ih _ _ _ _ _ H)).trans ((F_23_R G_5).trans rfl))
          · obtain rfl := Option.some.inj H
            exact ((F_23_R G_5).trans rfl)
        · exact (((ih _ _ _ _ _ H)).trans rfl)
      · exact (((ih _ _ _ _ _ H)).trans rfl)
set_option maxHeartbeats 4000000 in
set_option maxRecDepth 100000 in
theorem L_22_ok {N d : Nat} : ∀ k : Nat, ∀ (l_1 : Int32) (l_2 : Int32) (l_3 : Int32) (σ : st_S) (lv : vz_L) (p : Int32 × st_S), vz_g lv 0 = some (.ref 2) → vz_g lv 1 = some (.int l_1) → vz_g lv 2 = some (.int l_2) → vz_g lv 3 = some (.int l_3) → vz_nbL (vz_gr P0) lv = true → L_22 N k l_1 l_2 l_3 σ = some p → vz_ev P0 (d + 9) 22 8 lv [] (hp σ) (.inl (some (.int p.1)), hp p.2) := by
  intro k
  induction k with
  | zero => intro l_1 l_2 l_3 σ lv p g_0 g_1 g_2 g_3 hnb H; unfold L_22 at H; cases H
  | succ k ih =>
    intro l_1 l_2 l_3 σ lv p g_0 g_1 g_2 g_3 hnb H
    unfold L_22 at H
    refine ev_x (i := .iload_n 3) (len := 1) (p' := 9) (s' := [.int l_3]) rfl rfl (ld_i g_3) ?_
    refine ev_x (i := .ldc 64) (len := 2) (p' := 11) (s' := [.ref 1000000, .int l_3]) rfl rfl rfl ?_
    refine ev_text (As := []) (a := 1000000) (rest := [.int l_3]) (x := 70) rfl rfl rfl rfl rfl rfl rfl rfl ?_
    refine ev_st (st' := [.int 70, .int l_3]) rfl ?_
    refine ev_pc (pc' := 14) rfl ?_
    refine F_if H (fun c_1 H => ?_) (fun c_1 H => ?_)
    · refine ev_b2 (t := 61) (p' := 61) rfl rfl rfl (if_pos c_1) ?_
      refine ev_x (i := .sipush 261) (len := 3) (p' := 64) (s' := [.int 261]) rfl rfl rfl ?_
      obtain rfl := Option.some.inj H
      exact ev_iret rfl rfl rfl rfl
    · refine ev_b2 (t := 61) (p' := 17) rfl rfl rfl (if_neg c_1) ?_
      refine ev_x (i := .ldc 64) (len := 2) (p' := 19) (s' := [.ref 1000000]) rfl rfl rfl ?_
      refine ev_x (i := .iload_n 3) (len := 1) (p' := 20) (s' := [.int l_3, .ref 1000000]) rfl rfl (ld_i g_3) ?_
      obtain ⟨z_2, G_2, H⟩ := F_bd H
      refine ev_text (As := [.int l_3]) (a := 1000000) (rest := []) (x := z_2) rfl rfl rfl rfl rfl rfl rfl (tx_1_ok (w := 0) G_2) ?_
      refine ev_st (st' := [.int z_2]) rfl ?_
      refine ev_pc (pc' := 23) rfl ?_
      refine ev_x (i := .bipush 32) (len := 2) (p' := 25) (s' := [.int 32, .int z_2]) rfl rfl rfl ?_
      refine F_if H (fun c_3 H => ?_) (fun c_3 H => ?_)
      · refine ev_b2 (t := 55) (p' := 28) rfl rfl rfl (if_neg (fun q => q c_3)) ?_
        refine ev_x (i := .iload_n 3) (len := 1) (p' := 29) (s' := [.int l_3]) rfl rfl (ld_i g_3) ?_
        refine ev_x (i := .iload_n 2) (len := 1) (p' := 30) (s' := [.int l_2, .int l_3]) rfl rfl (ld_i g_2) ?_
        refine ev_x (i := .isub) (len := 1) (p' := 31) (s' := [.int (l_3 - l_2)]) rfl rfl rfl ?_
        refine ev_x (i := .aload_n 0) (len := 1) (p' := 32) (s' := [.ref 2, .int (l_3 - l_2)]) rfl rfl (ld_a g_0) ?_
        refine ev_gi (p' := 35) (v := (gI σ 2 5)) rfl rfl rfl ly_2 rfl rfl rfl ?_
        refine F_if H (fun c_4 H => ?_) (fun c_4 H => ?_)
        · refine ev_b2 (t := 48) (p' := 38) rfl rfl rfl (if_neg (fun q => q c_4)) ?_
          refine ev_x (i := .aload_n 0) (len := 1) (p' := 39) (s' := [.ref 2]) rfl rfl (ld_a g_0) ?_
          refine ev_x (i := .iload_n 2) (len := 1) (p' := 40) (s' := [.int l_2, .ref 2]) rfl rfl (ld_i g_2) ?_
          obtain ⟨p_5, G_5, H⟩ := F_bd H
          refine ev_cv (d := d + 8) (As := [.int l_2]) (a := 2) (p' := 43) rfl rfl rfl ly_2 rfl rfl rfl rfl rfl hnb rfl (F_23_ok (d := d + 0)   G_5) ?_
          refine ev_st (st' := [.int p_5.1]) rfl ?_
          have e_5 := F_23_R G_5
          refine F_if H (fun c_6 H => ?_) (fun c_6 H => ?_)
          · refine ev_b0 (t := 48) (p' := 48) rfl rfl rfl (if_pos c_6) ?_
            refine ev_x (i := .iinc 1 1) (len := 3) (p' := 51) (s' := []) (l' := vz_s1 (lv) 1 (.int (l_1 + 1))) rfl rfl (ld_inc g_1 rfl) ?_
            refine ev_x (i := .iload_n 3) (len := 1) (p' := 52) (s' := [.int l_3]) rfl rfl (ld_i (vg_o (i := 1) (v := .int (l_1 + 1)) g_3 (by decide) (Or.inl rfl))) ?_
            refine ev_x (i := .iconst 1) (len := 1) (p' := 53) (s' := [.int 1, .int l_3]) rfl rfl rfl ?_
            refine ev_x (i := .iadd) (len := 1) (p' := 54) (s' := [.int (l_3 + 1)]) rfl rfl rfl ?_
            refine ev_x (i := .istore_n 2) (len := 1) (p' := 55) (s' := []) (l' := vz_s1 (vz_s1 (lv) 1 (.int (l_1 + 1))) 2 (.int (l_3 + 1))) rfl rfl rfl ?_
            refine ev_x (i := .iinc 3 1) (len := 3) (p' := 58) (s' := []) (l' := vz_s1 (vz_s1 (vz_s1 (lv) 1 (.int (l_1 + 1))) 2 (.int (l_3 + 1))) 3 (.int (l_3 + 1))) rfl rfl (ld_inc (vg_o (i := 2) (v := .int (l_3 + 1)) (vg_o (i := 1) (v := .int (l_1 + 1)) g_3 (by decide) (Or.inl rfl)) (by decide) (Or.inl rfl)) rfl) ?_
            refine ev_x (i := .goto (-50)) (len := 3) (p' := 8) (s' := []) rfl rfl rfl ?_
            exact ih _ _ _ _ _ _ (vg_o (i := 3) (v := .int (l_3 + 1)) (vg_o (i := 2) (v := .int (l_3 + 1)) (vg_o (i := 1) (v := .int (l_1 + 1)) g_0 (by decide) (Or.inl rfl)) (by decide) (Or.inl rfl)) (by decide) (Or.inl rfl)) (vg_o (i := 3) (v := .int (l_3 + 1)) (vg_o (i := 2) (v := .int (l_3 + 1)) (vg_s (lv) 1 (.int (l_1 + 1))) (by decide) (Or.inl rfl)) (by decide) (Or.inl rfl)) (vg_o (i := 3) (v := .int (l_3 + 1)) (vg_s (vz_s1 (lv) 1 (.int (l_1 + 1))) 2 (.int (l_3 + 1))) (by decide) (Or.inl rfl)) (vg_s (vz_s1 (vz_s1 (lv) 1 (.int (l_1 + 1))) 2 (.int (l_3 + 1))) 3 (.int (l_3 + 1))) (nb_s1 (nb_s1 (nb_s1 hnb rfl) rfl) rfl)  H
          · refine ev_b0 (t := 48) (p' := 46) rfl rfl rfl (if_neg c_6) ?_
            refine ev_x (i := .iload_n 1) (len := 1) (p' := 47) (s' := [.int l_1]) rfl rfl (ld_i g_1) ?_
            obtain rfl := Option.some.inj H
            exact ev_iret rfl rfl rfl rfl
        · refine ev_b2 (t := 48) (p' := 48) rfl rfl rfl (if_pos c_4) ?_
          refine ev_x (i := .iinc 1 1) (len := 3) (p' := 51) (s' := []) (l' := vz_s1 (lv) 1 (.int (l_1 + 1))) rfl rfl (ld_inc g_1 rfl) ?_
          refine ev_x (i := .iload_n 3) (len := 1) (p' := 52) (s' := [.int l_3]) rfl rfl (ld_i (vg_o (i := 1) (v := .int (l_1 + 1)) g_3 (by decide) (Or.inl rfl))) ?_
          refine ev_x (i := .iconst 1) (len := 1) (p' := 53) (s' := [.int 1, .int l_3]) rfl rfl rfl ?_
          refine ev_x (i := .iadd) (len := 1) (p' := 54) (s' := [.int (l_3 + 1)]) rfl rfl rfl ?_
          refine ev_x (i := .istore_n 2) (len := 1) (p' := 55) (s' := []) (l' := vz_s1 (vz_s1 (lv) 1 (.int (l_1 + 1))) 2 (.int (l_3 + 1))) rfl rfl rfl ?_
          refine ev_x (i := .iinc 3 1) (len := 3) (p' := 58) (s' := []) (l' := vz_s1 (vz_s1 (vz_s1 (lv) 1 (.int (l_1 + 1))) 2 (.int (l_3 + 1))) 3 (.int (l_3 + 1))) rfl rfl (ld_inc (vg_o (i := 2) (v := .int (l_3 + 1)) (vg_o (i := 1) (v := .int (l_1 + 1)) g_3 (by decide) (Or.inl rfl)) (by decide) (Or.inl rfl)) rfl) ?_
          refine ev_x (i := .goto (-50)) (len := 3) (p' := 8) (s' := []) rfl rfl rfl ?_
          exact ih _ _ _ _ _ _ (vg_o (i := 3) (v := .int (l_3 + 1)) (vg_o (i := 2) (v := .int (l_3 + 1)) (vg_o (i := 1) (v := .int (l_1 + 1)) g_0 (by decide) (Or.inl rfl)) (by decide) (Or.inl rfl)) (by decide) (Or.inl rfl)) (vg_o (i := 3) (v := .int (l_3 + 1)) (vg_o (i := 2) (v := .int (l_3 + 1)) (vg_s (lv) 1 (.int (l_1 + 1))) (by decide) (Or.inl rfl)) (by decide) (Or.inl rfl)) (vg_o (i := 3) (v := .int (l_3 + 1)) (vg_s (vz_s1 (lv) 1 (.int (l_1 + 1))) 2 (.int (l_3 + 1))) (by decide) (Or.inl rfl)) (vg_s (vz_s1 (vz_s1 (lv) 1 (.int (l_1 + 1))) 2 (.int (l_3 + 1))) 3 (.int (l_3 + 1))) (nb_s1 (nb_s1 (nb_s1 hnb rfl) rfl) rfl)  H
      · refine ev_b2 (t := 55) (p' := 55) rfl rfl rfl (if_pos c_3) ?_
        refine ev_x (i := .iinc 3 1) (len := 3) (p' := 58) (s' := []) (l' := vz_s1 (lv) 3 (.int (l_3 + 1))) rfl rfl (ld_inc g_3 rfl) ?_
        refine ev_x (i := .goto (-50)) (len := 3) (p' := 8) (s' := []) rfl rfl rfl ?_
        exact ih _ _ _ _ _ _ (vg_o (i := 3) (v := .int (l_3 + 1)) g_0 (by decide) (Or.inl rfl)) (vg_o (i := 3) (v := .int (l_3 + 1)) g_1 (by decide) (Or.inl rfl)) (vg_o (i := 3) (v := .int (l_3 + 1)) g_2 (by decide) (Or.inl rfl)) (vg_s (lv) 3 (.int (l_3 + 1))) (nb_s1 hnb rfl)  H
/-- GameText$Words.keyOrName()I -/
def F_22 (N : Nat) (σ : st_S) : Option (Int32 × st_S) :=
  L_22 N N 300 0 0 (σ)
set_option maxRecDepth 100000 in
theorem F_22_R {N : Nat} {σ : st_S} {p : Int32 × st_S} (H : F_22 N σ = some p) : gR p.2 = gR σ := by
  unfold F_22 at H
  exact (((L_22_R _ _ _ _ _ _ H)).trans rfl)
set_option maxHeartbeats 4000000 in
set_option maxRecDepth 100000 in
theorem F_22_ok {N d : Nat} {σ : st_S} {p : Int32 × st_S}  (H : F_22 N σ = some p) : vz_ev P0 (d + 9) 22 0 (lv_args 0 [.ref 2]) [] (hp σ) (.inl (some (.int p.1)), hp p.2) := by
  unfold F_22 at H
  refine ev_x (i := .sipush 300) (len := 3) (p' := 3) (s' := [.int 300]) rfl rfl rfl ?_
  refine ev_x (i := .istore_n 1) (len := 1) (p' := 4) (s' := []) (l' := [(1, .int 300), (0, .ref 2)]) rfl rfl rfl ?_
  refine ev_x (i := .iconst 0) (len := 1) (p' := 5) (s' := [.int 0]) rfl rfl rfl ?_
  refine ev_x (i := .istore_n 2) (len := 1) (p' := 6) (s' := []) (l' := [(2, .int 0), (1, .int 300), (0, .ref 2)]) rfl rfl rfl ?_
  refine ev_x (i := .iconst 0) (len := 1) (p' := 7) (s' := [.int 0]) rfl rfl rfl ?_
  refine ev_x (i := .istore_n 3) (len := 1) (p' := 8) (s' := []) (l' := [(3, .int 0), (2, .int 0), (1, .int 300), (0, .ref 2)]) rfl rfl rfl ?_
  exact (L_22_ok (d := d) N) _ _ _ _ _ _ rfl rfl rfl rfl rfl  H
/-- GameText$Words.readName()V, from 57 -/
def J_20_57 (N : Nat) (σ : st_S) : Option (st_S) :=
  if ((gI σ 2 2) - (gI σ 2 4)) ≤ 40 then
    (F_22 N (st_i (σ) 2 5 ((gI σ 2 2) - (gI σ 2 4)))).bind fun p_9 =>
    some (st_i (p_9.2) 2 3 p_9.1)
  else
    some (st_i (st_i (σ) 2 5 ((gI σ 2 2) - (gI σ 2 4))) 2 3 263)
set_option maxRecDepth 100000 in
theorem J_20_57_R {N : Nat} {σ : st_S} {p : st_S} (H : J_20_57 N σ = some p) : gR p = gR σ := by
  unfold J_20_57 at H
  refine F_if H (fun _ H => ?_) (fun _ H => ?_)
  · obtain ⟨p_9, G_9, H⟩ := F_bd H
    obtain rfl := Option.some.inj H
    exact ((F_22_R G_9).trans rfl)
  · obtain rfl := Option.some.inj H
    exact rfl
set_option maxHeartbeats 4000000 in
set_option maxRecDepth 100000 in
theorem J_20_57_ok {N d : Nat} {σ : st_S} {lv : vz_L} {p : st_S} (g_0 : vz_g lv 0 = some (.ref 2)) (hnb : vz_nbL (vz_gr P0) lv = true)  (H : J_20_57 N σ = some p) : vz_ev P0 (d + 10) 20 57 lv [] (hp σ) (.inl none, hp p) := by
  unfold J_20_57 at H
  refine ev_x (i := .aload_n 0) (len := 1) (p' := 58) (s' := [.ref 2]) rfl rfl (ld_a g_0) ?_
  refine ev_x (i := .aload_n 0) (len := 1) (p' := 59) (s' := [.ref 2, .ref 2]) rfl rfl (ld_a g_0) ?_
  refine ev_gi (p' := 62) (v := (gI σ 2 2)) rfl rfl rfl ly_2 rfl rfl rfl ?_
  refine ev_x (i := .aload_n 0) (len := 1) (p' := 63) (s' := [.ref 2, .int (gI σ 2 2), .ref 2]) rfl rfl (ld_a g_0) ?_
  refine ev_gi (p' := 66) (v := (gI σ 2 4)) rfl rfl rfl ly_2 rfl rfl rfl ?_
  refine ev_x (i := .isub) (len := 1) (p' := 67) (s' := [.int ((gI σ 2 2) - (gI σ 2 4)), .ref 2]) rfl rfl rfl ?_
  refine ev_pi (p' := 70) rfl rfl rfl ly_2 rfl rfl rfl rfl ?_
  refine ev_x (i := .aload_n 0) (len := 1) (p' := 71) (s' := [.ref 2]) rfl rfl (ld_a g_0) ?_
  refine ev_x (i := .aload_n 0) (len := 1) (p' := 72) (s' := [.ref 2, .ref 2]) rfl rfl (ld_a g_0) ?_
  refine ev_gi (p' := 75) (v := ((gI σ 2 2) - (gI σ 2 4))) rfl rfl rfl ly_2 rfl rfl rfl ?_
  refine ev_x (i := .bipush 40) (len := 2) (p' := 77) (s' := [.int 40, .int ((gI σ 2 2) - (gI σ 2 4)), .ref 2]) rfl rfl rfl ?_
  refine F_if H (fun c_8 H => ?_) (fun c_8 H => ?_)
  · refine ev_b2 (t := 86) (p' := 86) rfl rfl rfl (if_pos c_8) ?_
    refine ev_x (i := .aload_n 0) (len := 1) (p' := 87) (s' := [.ref 2, .ref 2]) rfl rfl (ld_a g_0) ?_
    obtain ⟨p_9, G_9, H⟩ := F_bd H
    refine ev_cv (d := d + 9) (As := []) (a := 2) (p' := 90) rfl rfl rfl ly_2 rfl rfl rfl rfl rfl hnb rfl (F_22_ok (d := d + 0)   G_9) ?_
    refine ev_st (st' := [.int p_9.1, .ref 2]) rfl ?_
    have e_9 := F_22_R G_9
    refine ev_pi (p' := 93) rfl rfl rfl ly_2 rfl rfl rfl rfl ?_
    obtain rfl := Option.some.inj H
    exact ev_vret rfl rfl rfl
  · refine ev_b2 (t := 86) (p' := 80) rfl rfl rfl (if_neg c_8) ?_
    refine ev_x (i := .sipush 263) (len := 3) (p' := 83) (s' := [.int 263, .ref 2]) rfl rfl rfl ?_
    refine ev_x (i := .goto 7) (len := 3) (p' := 90) (s' := [.int 263, .ref 2]) rfl rfl rfl ?_
    refine ev_pi (p' := 93) rfl rfl rfl ly_2 rfl rfl rfl rfl ?_
    obtain rfl := Option.some.inj H
    exact ev_vret rfl rfl rfl
/-- GameText$Words.readName()V, its loops -/
def L_20 (N : Nat) : Nat → st_S → Option (st_S)
  | 0, _ => none
  | k + 1, σ =>
      if (gI σ 2 1) ≤ (gI σ 2 2) then
        J_20_57 N (σ)
      else
        if aB (gI σ 2 2) (gN σ 3) then
        (F_19 N (gE (σ) 3 ((gI σ 2 2) : Int32).toNatClampNeg) (σ)).bind fun p_3 =>
        if p_3.1 = 0 then
          (F_21 N (gE (σ) 3 ((gI σ 2 2) : Int32).toNatClampNeg) (p_3.2)).bind fun p_5 =>
          if p_5.1 = 0 then
            if (gE (σ) 3 ((gI σ 2 2) : Int32).toNatClampNeg) = 95 then
              L_20 N k (st_i (p_5.2) 2 2 ((gI p_5.2 2 2) + 1))
            else
              J_20_57 N (p_5.2)
          else
            L_20 N k (st_i (p_5.2) 2 2 ((gI p_5.2 2 2) + 1))
        else
          L_20 N k (st_i (p_3.2) 2 2 ((gI p_3.2 2 2) + 1))
        else none
set_option maxRecDepth 100000 in
theorem L_20_R {N : Nat} : ∀ (k : Nat) (σ : st_S) (p : st_S), L_20 N k σ = some p → gR p = gR σ := by
  intro k
  induction k with
  | zero => intro σ p H; unfold L_20 at H; cases H
  | succ k ih =>
    intro σ p H
    unfold L_20 at H
    refine F_if H (fun _ H => ?_) (fun _ H => ?_)
    · exact (((J_20_57_R H)).trans rfl)
    · obtain ⟨_, H⟩ := F_gd H
      obtain ⟨p_3, G_3, H⟩ := F_bd H
      refine F_if H (fun _ H => ?_) (fun _ H => ?_)
      · obtain ⟨p_5, G_5, H⟩ := F_bd H
        refine F_if H (fun _ H => ?_) (fun _ H => ?_)
        · refine F_if H (fun _ H => ?_) (fun _ H => ?_)
          · exact (((ih _ _ H)).trans ((F_21_R G_5).trans ((F_19_R G_3).trans rfl)))
          · exact (((J_20_57_R H)).trans ((F_21_R G_5).trans ((F_19_R G_3).trans rfl)))
        · exact (((ih _ _ H)).trans ((F_21_R G_5).trans ((F_19_R G_3).trans rfl)))
      · exact (((ih _ _ H)).trans ((F_19_R G_3).trans rfl))
set_option maxHeartbeats 4000000 in
set_option maxRecDepth 100000 in
theorem L_20_ok {N d : Nat} : ∀ k : Nat, ∀ (σ : st_S) (lv : vz_L) (p : st_S), vz_g lv 0 = some (.ref 2) → vz_nbL (vz_gr P0) lv = true → L_20 N k σ = some p → vz_ev P0 (d + 10) 20 0 lv [] (hp σ) (.inl none, hp p) := by
  intro k
  induction k with
  | zero => intro σ lv p g_0 hnb H; unfold L_20 at H; cases H
  | succ k ih =>
    intro σ lv p g_0 hnb H
    unfold L_20 at H
    refine ev_x (i := .aload_n 0) (len := 1) (p' := 1) (s' := [.ref 2]) rfl rfl (ld_a g_0) ?_
    refine ev_gi (p' := 4) (v := (gI σ 2 2)) rfl rfl rfl ly_2 rfl rfl rfl ?_
    refine ev_x (i := .aload_n 0) (len := 1) (p' := 5) (s' := [.ref 2, .int (gI σ 2 2)]) rfl rfl (ld_a g_0) ?_
    refine ev_gi (p' := 8) (v := (gI σ 2 1)) rfl rfl rfl ly_2 rfl rfl rfl ?_
    refine F_if H (fun c_1 H => ?_) (fun c_1 H => ?_)
    · refine ev_b2 (t := 57) (p' := 57) rfl rfl rfl (if_pos c_1) ?_
      exact J_20_57_ok (d := d) g_0 hnb  H
    · refine ev_b2 (t := 57) (p' := 11) rfl rfl rfl (if_neg c_1) ?_
      refine ev_x (i := .aload_n 0) (len := 1) (p' := 12) (s' := [.ref 2]) rfl rfl (ld_a g_0) ?_
      refine ev_gc (p' := 15) (v := 3) rfl rfl rfl ly_2 rfl rfl ?_
      refine ev_x (i := .aload_n 0) (len := 1) (p' := 16) (s' := [.ref 2, .ref 3]) rfl rfl (ld_a g_0) ?_
      refine ev_gi (p' := 19) (v := (gI σ 2 2)) rfl rfl rfl ly_2 rfl rfl rfl ?_
      obtain ⟨b_2, H⟩ := F_gd H
      refine ev_ga (p' := 20) (v := (gE (σ) 3 ((gI σ 2 2) : Int32).toNatClampNeg)) rfl rfl ly_3 rfl (gd_in b_2) rfl ?_
      refine ev_x (i := .istore_n 1) (len := 1) (p' := 21) (s' := []) (l' := vz_s1 (lv) 1 (.int (gE (σ) 3 ((gI σ 2 2) : Int32).toNatClampNeg))) rfl rfl rfl ?_
      refine ev_x (i := .iload_n 1) (len := 1) (p' := 22) (s' := [.int (gE (σ) 3 ((gI σ 2 2) : Int32).toNatClampNeg)]) rfl rfl (ld_i (vg_s (lv) 1 (.int (gE (σ) 3 ((gI σ 2 2) : Int32).toNatClampNeg)))) ?_
      obtain ⟨p_3, G_3, H⟩ := F_bd H
      refine ev_callS (d := d + 9) (As := [.int (gE (σ) 3 ((gI σ 2 2) : Int32).toNatClampNeg)]) rfl rfl rfl (by decide) rfl rfl rfl rfl (nb_s1 hnb rfl) (F_19_ok (d := d + 8)   G_3) ?_
      refine ev_st (st' := [.int p_3.1]) rfl ?_
      refine ev_pc (pc' := 25) rfl ?_
      have e_3 := F_19_R G_3
      refine F_if H (fun c_4 H => ?_) (fun c_4 H => ?_)
      · refine ev_b0 (t := 44) (p' := 28) rfl rfl rfl (if_neg (fun q => q c_4)) ?_
        refine ev_x (i := .iload_n 1) (len := 1) (p' := 29) (s' := [.int (gE (σ) 3 ((gI σ 2 2) : Int32).toNatClampNeg)]) rfl rfl (ld_i (vg_s (lv) 1 (.int (gE (σ) 3 ((gI σ 2 2) : Int32).toNatClampNeg)))) ?_
        obtain ⟨p_5, G_5, H⟩ := F_bd H
        refine ev_callS (d := d + 9) (As := [.int (gE (σ) 3 ((gI σ 2 2) : Int32).toNatClampNeg)]) rfl rfl rfl (by decide) rfl rfl rfl rfl (nb_s1 hnb rfl) (F_21_ok (d := d + 8)   G_5) ?_
        refine ev_st (st' := [.int p_5.1]) rfl ?_
        refine ev_pc (pc' := 32) rfl ?_
        have e_5 := F_21_R G_5
        refine F_if H (fun c_6 H => ?_) (fun c_6 H => ?_)
        · refine ev_b0 (t := 44) (p' := 35) rfl rfl rfl (if_neg (fun q => q c_6)) ?_
          refine ev_x (i := .iload_n 1) (len := 1) (p' := 36) (s' := [.int (gE (σ) 3 ((gI σ 2 2) : Int32).toNatClampNeg)]) rfl rfl (ld_i (vg_s (lv) 1 (.int (gE (σ) 3 ((gI σ 2 2) : Int32).toNatClampNeg)))) ?_
          refine ev_x (i := .bipush 95) (len := 2) (p' := 38) (s' := [.int 95, .int (gE (σ) 3 ((gI σ 2 2) : Int32).toNatClampNeg)]) rfl rfl rfl ?_
          refine F_if H (fun c_7 H => ?_) (fun c_7 H => ?_)
          · refine ev_b2 (t := 44) (p' := 44) rfl rfl rfl (if_pos c_7) ?_
            refine ev_x (i := .aload_n 0) (len := 1) (p' := 45) (s' := [.ref 2]) rfl rfl (ld_a (vg_o (i := 1) (v := .int (gE (σ) 3 ((gI σ 2 2) : Int32).toNatClampNeg)) g_0 (by decide) (Or.inl rfl))) ?_
            refine ev_x (i := .dup) (len := 1) (p' := 46) (s' := [.ref 2, .ref 2]) rfl rfl rfl ?_
            refine ev_gi (p' := 49) (v := (gI p_5.2 2 2)) rfl rfl rfl ly_2 rfl rfl rfl ?_
            refine ev_x (i := .iconst 1) (len := 1) (p' := 50) (s' := [.int 1, .int (gI p_5.2 2 2), .ref 2]) rfl rfl rfl ?_
            refine ev_x (i := .iadd) (len := 1) (p' := 51) (s' := [.int ((gI p_5.2 2 2) + 1), .ref 2]) rfl rfl rfl ?_
            refine ev_pi (p' := 54) rfl rfl rfl ly_2 rfl rfl rfl rfl ?_
            refine ev_x (i := .goto (-54)) (len := 3) (p' := 0) (s' := []) rfl rfl rfl ?_
            exact ih _ _ _ (vg_o (i := 1) (v := .int (gE (σ) 3 ((gI σ 2 2) : Int32).toNatClampNeg)) g_0 (by decide) (Or.inl rfl)) (nb_s1 hnb rfl)  H
          · refine ev_b2 (t := 44) (p' := 41) rfl rfl rfl (if_neg c_7) ?_
            refine ev_x (i := .goto 16) (len := 3) (p' := 57) (s' := []) rfl rfl rfl ?_
            exact J_20_57_ok (d := d) (vg_o (i := 1) (v := .int (gE (σ) 3 ((gI σ 2 2) : Int32).toNatClampNeg)) g_0 (by decide) (Or.inl rfl)) (nb_s1 hnb rfl)  H
        · refine ev_b0 (t := 44) (p' := 44) rfl rfl rfl (if_pos c_6) ?_
          refine ev_x (i := .aload_n 0) (len := 1) (p' := 45) (s' := [.ref 2]) rfl rfl (ld_a (vg_o (i := 1) (v := .int (gE (σ) 3 ((gI σ 2 2) : Int32).toNatClampNeg)) g_0 (by decide) (Or.inl rfl))) ?_
          refine ev_x (i := .dup) (len := 1) (p' := 46) (s' := [.ref 2, .ref 2]) rfl rfl rfl ?_
          refine ev_gi (p' := 49) (v := (gI p_5.2 2 2)) rfl rfl rfl ly_2 rfl rfl rfl ?_
          refine ev_x (i := .iconst 1) (len := 1) (p' := 50) (s' := [.int 1, .int (gI p_5.2 2 2), .ref 2]) rfl rfl rfl ?_
          refine ev_x (i := .iadd) (len := 1) (p' := 51) (s' := [.int ((gI p_5.2 2 2) + 1), .ref 2]) rfl rfl rfl ?_
          refine ev_pi (p' := 54) rfl rfl rfl ly_2 rfl rfl rfl rfl ?_
          refine ev_x (i := .goto (-54)) (len := 3) (p' := 0) (s' := []) rfl rfl rfl ?_
          exact ih _ _ _ (vg_o (i := 1) (v := .int (gE (σ) 3 ((gI σ 2 2) : Int32).toNatClampNeg)) g_0 (by decide) (Or.inl rfl)) (nb_s1 hnb rfl)  H
      · refine ev_b0 (t := 44) (p' := 44) rfl rfl rfl (if_pos c_4) ?_
        refine ev_x (i := .aload_n 0) (len := 1) (p' := 45) (s' := [.ref 2]) rfl rfl (ld_a (vg_o (i := 1) (v := .int (gE (σ) 3 ((gI σ 2 2) : Int32).toNatClampNeg)) g_0 (by decide) (Or.inl rfl))) ?_
        refine ev_x (i := .dup) (len := 1) (p' := 46) (s' := [.ref 2, .ref 2]) rfl rfl rfl ?_
        refine ev_gi (p' := 49) (v := (gI p_3.2 2 2)) rfl rfl rfl ly_2 rfl rfl rfl ?_
        refine ev_x (i := .iconst 1) (len := 1) (p' := 50) (s' := [.int 1, .int (gI p_3.2 2 2), .ref 2]) rfl rfl rfl ?_
        refine ev_x (i := .iadd) (len := 1) (p' := 51) (s' := [.int ((gI p_3.2 2 2) + 1), .ref 2]) rfl rfl rfl ?_
        refine ev_pi (p' := 54) rfl rfl rfl ly_2 rfl rfl rfl rfl ?_
        refine ev_x (i := .goto (-54)) (len := 3) (p' := 0) (s' := []) rfl rfl rfl ?_
        exact ih _ _ _ (vg_o (i := 1) (v := .int (gE (σ) 3 ((gI σ 2 2) : Int32).toNatClampNeg)) g_0 (by decide) (Or.inl rfl)) (nb_s1 hnb rfl)  H
/-- GameText$Words.readName()V -/
def F_20 (N : Nat) (σ : st_S) : Option (st_S) :=
  L_20 N N (σ)
set_option maxRecDepth 100000 in
theorem F_20_R {N : Nat} {σ : st_S} {p : st_S} (H : F_20 N σ = some p) : gR p = gR σ := by
  unfold F_20 at H
  exact L_20_R _ _ _ H
set_option maxHeartbeats 4000000 in
set_option maxRecDepth 100000 in
theorem F_20_ok {N d : Nat} {σ : st_S} {p : st_S}  (H : F_20 N σ = some p) : vz_ev P0 (d + 10) 20 0 (lv_args 0 [.ref 2]) [] (hp σ) (.inl none, hp p) := by
  unfold F_20 at H
  exact (L_20_ok (d := d) N) _ _ _ rfl rfl  H
/-- GameText$Words.readNumber()V, from 68 -/
def J_24_68 (N : Nat) (σ : st_S) : Option (st_S) :=
  some (st_i (st_i (σ) 2 5 ((gI σ 2 2) - (gI σ 2 4))) 2 3 (if ((gI σ 2 2) - (gI σ 2 4)) ≤ 9 then 262 else 263 : Int32))
set_option maxRecDepth 100000 in
theorem J_24_68_R {N : Nat} {σ : st_S} {p : st_S} (H : J_24_68 N σ = some p) : gR p = gR σ := by
  unfold J_24_68 at H
  obtain rfl := Option.some.inj H
  exact rfl
set_option maxHeartbeats 4000000 in
set_option maxRecDepth 100000 in
theorem J_24_68_ok {N d : Nat} {σ : st_S} {lv : vz_L} {p : st_S} (g_0 : vz_g lv 0 = some (.ref 2)) (hnb : vz_nbL (vz_gr P0) lv = true)  (H : J_24_68 N σ = some p) : vz_ev P0 (d + 2) 24 68 lv [] (hp σ) (.inl none, hp p) := by
  unfold J_24_68 at H
  refine ev_x (i := .aload_n 0) (len := 1) (p' := 69) (s' := [.ref 2]) rfl rfl (ld_a g_0) ?_
  refine ev_x (i := .aload_n 0) (len := 1) (p' := 70) (s' := [.ref 2, .ref 2]) rfl rfl (ld_a g_0) ?_
  refine ev_gi (p' := 73) (v := (gI σ 2 2)) rfl rfl rfl ly_2 rfl rfl rfl ?_
  refine ev_x (i := .aload_n 0) (len := 1) (p' := 74) (s' := [.ref 2, .int (gI σ 2 2), .ref 2]) rfl rfl (ld_a g_0) ?_
  refine ev_gi (p' := 77) (v := (gI σ 2 4)) rfl rfl rfl ly_2 rfl rfl rfl ?_
  refine ev_x (i := .isub) (len := 1) (p' := 78) (s' := [.int ((gI σ 2 2) - (gI σ 2 4)), .ref 2]) rfl rfl rfl ?_
  refine ev_pi (p' := 81) rfl rfl rfl ly_2 rfl rfl rfl rfl ?_
  refine ev_x (i := .aload_n 0) (len := 1) (p' := 82) (s' := [.ref 2]) rfl rfl (ld_a g_0) ?_
  refine ev_x (i := .aload_n 0) (len := 1) (p' := 83) (s' := [.ref 2, .ref 2]) rfl rfl (ld_a g_0) ?_
  refine ev_gi (p' := 86) (v := ((gI σ 2 2) - (gI σ 2 4))) rfl rfl rfl ly_2 rfl rfl rfl ?_
  refine ev_x (i := .bipush 9) (len := 2) (p' := 88) (s' := [.int 9, .int ((gI σ 2 2) - (gI σ 2 4)), .ref 2]) rfl rfl rfl ?_
  refine F_jn (A := vz_ev P0 (d + 2) 24 100 (lv) [.int (if ((gI σ 2 2) - (gI σ 2 4)) ≤ 9 then 262 else 263 : Int32), .ref 2] (hp (st_i (σ) 2 5 ((gI σ 2 2) - (gI σ 2 4)))) (.inl none, hp p)) ?_ (fun J => ?_)
  · refine ev_pi (p' := 103) rfl rfl rfl ly_2 rfl rfl rfl rfl ?_
    obtain rfl := Option.some.inj H
    exact ev_vret rfl rfl rfl
  · by_cases c_6 : ((gI σ 2 2) - (gI σ 2 4)) ≤ 9
    · refine ev_b2 (t := 97) (p' := 97) rfl rfl rfl (if_pos c_6) ?_
      refine ev_x (i := .sipush 262) (len := 3) (p' := 100) (s' := [.int 262, .ref 2]) rfl rfl rfl ?_
      exact ev_st (congrArg (fun z => Value.int z :: [.ref 2]) (by rw [if_pos c_6])) J
    · refine ev_b2 (t := 97) (p' := 91) rfl rfl rfl (if_neg c_6) ?_
      refine ev_x (i := .sipush 263) (len := 3) (p' := 94) (s' := [.int 263, .ref 2]) rfl rfl rfl ?_
      refine ev_x (i := .goto 6) (len := 3) (p' := 100) (s' := [.int 263, .ref 2]) rfl rfl rfl ?_
      exact ev_st (congrArg (fun z => Value.int z :: [.ref 2]) (by rw [if_neg c_6])) J
/-- GameText$Words.readNumber()V, its loops -/
def L_24 (N : Nat) : Nat → st_S → Option (st_S)
  | 0, _ => none
  | k + 1, σ =>
      if (gI σ 2 1) ≤ (gI σ 2 2) then
        J_24_68 N (σ)
      else
        if aB (gI σ 2 2) (gN σ 3) then
        (F_21 N (gE (σ) 3 ((gI σ 2 2) : Int32).toNatClampNeg) (σ)).bind fun p_3 =>
        if p_3.1 = 0 then
          J_24_68 N (p_3.2)
        else
          if aB (gI p_3.2 2 2) (gN p_3.2 3) then
          L_24 N k (st_i (st_i (p_3.2) 2 6 ((((gI p_3.2 2 6) * 10) + (gE (p_3.2) 3 ((gI p_3.2 2 2) : Int32).toNatClampNeg)) - 48)) 2 2 ((gI p_3.2 2 2) + 1))
          else none
        else none
set_option maxRecDepth 100000 in
theorem L_24_R {N : Nat} : ∀ (k : Nat) (σ : st_S) (p : st_S), L_24 N k σ = some p → gR p = gR σ := by
  intro k
  induction k with
  | zero => intro σ p H; unfold L_24 at H; cases H
  | succ k ih =>
    intro σ p H
    unfold L_24 at H
    refine F_if H (fun _ H => ?_) (fun _ H => ?_)
    · exact (((J_24_68_R H)).trans rfl)
    · obtain ⟨_, H⟩ := F_gd H
      obtain ⟨p_3, G_3, H⟩ := F_bd H
      refine F_if H (fun _ H => ?_) (fun _ H => ?_)
      · exact (((J_24_68_R H)).trans ((F_21_R G_3).trans rfl))
      · obtain ⟨_, H⟩ := F_gd H
        exact (((ih _ _ H)).trans ((F_21_R G_3).trans rfl))
set_option maxHeartbeats 4000000 in
set_option maxRecDepth 100000 in
theorem L_24_ok {N d : Nat} : ∀ k : Nat, ∀ (σ : st_S) (lv : vz_L) (p : st_S), vz_g lv 0 = some (.ref 2) → vz_nbL (vz_gr P0) lv = true → L_24 N k σ = some p → vz_ev P0 (d + 2) 24 5 lv [] (hp σ) (.inl none, hp p) := by
  intro k
  induction k with
  | zero => intro σ lv p g_0 hnb H; unfold L_24 at H; cases H
  | succ k ih =>
    intro σ lv p g_0 hnb H
    unfold L_24 at H
    refine ev_x (i := .aload_n 0) (len := 1) (p' := 6) (s' := [.ref 2]) rfl rfl (ld_a g_0) ?_
    refine ev_gi (p' := 9) (v := (gI σ 2 2)) rfl rfl rfl ly_2 rfl rfl rfl ?_
    refine ev_x (i := .aload_n 0) (len := 1) (p' := 10) (s' := [.ref 2, .int (gI σ 2 2)]) rfl rfl (ld_a g_0) ?_
    refine ev_gi (p' := 13) (v := (gI σ 2 1)) rfl rfl rfl ly_2 rfl rfl rfl ?_
    refine F_if H (fun c_1 H => ?_) (fun c_1 H => ?_)
    · refine ev_b2 (t := 68) (p' := 68) rfl rfl rfl (if_pos c_1) ?_
      exact J_24_68_ok (d := d) g_0 hnb  H
    · refine ev_b2 (t := 68) (p' := 16) rfl rfl rfl (if_neg c_1) ?_
      refine ev_x (i := .aload_n 0) (len := 1) (p' := 17) (s' := [.ref 2]) rfl rfl (ld_a g_0) ?_
      refine ev_gc (p' := 20) (v := 3) rfl rfl rfl ly_2 rfl rfl ?_
      refine ev_x (i := .aload_n 0) (len := 1) (p' := 21) (s' := [.ref 2, .ref 3]) rfl rfl (ld_a g_0) ?_
      refine ev_gi (p' := 24) (v := (gI σ 2 2)) rfl rfl rfl ly_2 rfl rfl rfl ?_
      obtain ⟨b_2, H⟩ := F_gd H
      refine ev_ga (p' := 25) (v := (gE (σ) 3 ((gI σ 2 2) : Int32).toNatClampNeg)) rfl rfl ly_3 rfl (gd_in b_2) rfl ?_
      obtain ⟨p_3, G_3, H⟩ := F_bd H
      refine ev_callS (d := d + 1) (As := [.int (gE (σ) 3 ((gI σ 2 2) : Int32).toNatClampNeg)]) rfl rfl rfl (by decide) rfl rfl rfl rfl hnb (F_21_ok (d := d + 0)   G_3) ?_
      refine ev_st (st' := [.int p_3.1]) rfl ?_
      refine ev_pc (pc' := 28) rfl ?_
      have e_3 := F_21_R G_3
      refine F_if H (fun c_4 H => ?_) (fun c_4 H => ?_)
      · refine ev_b0 (t := 68) (p' := 68) rfl rfl rfl (if_pos c_4) ?_
        exact J_24_68_ok (d := d) g_0 hnb  H
      · refine ev_b0 (t := 68) (p' := 31) rfl rfl rfl (if_neg c_4) ?_
        refine ev_x (i := .aload_n 0) (len := 1) (p' := 32) (s' := [.ref 2]) rfl rfl (ld_a g_0) ?_
        refine ev_x (i := .aload_n 0) (len := 1) (p' := 33) (s' := [.ref 2, .ref 2]) rfl rfl (ld_a g_0) ?_
        refine ev_gi (p' := 36) (v := (gI p_3.2 2 6)) rfl rfl rfl ly_2 rfl rfl rfl ?_
        refine ev_x (i := .bipush 10) (len := 2) (p' := 38) (s' := [.int 10, .int (gI p_3.2 2 6), .ref 2]) rfl rfl rfl ?_
        refine ev_x (i := .imul) (len := 1) (p' := 39) (s' := [.int ((gI p_3.2 2 6) * 10), .ref 2]) rfl rfl rfl ?_
        refine ev_x (i := .aload_n 0) (len := 1) (p' := 40) (s' := [.ref 2, .int ((gI p_3.2 2 6) * 10), .ref 2]) rfl rfl (ld_a g_0) ?_
        refine ev_gc (p' := 43) (v := 3) rfl rfl rfl ly_2 rfl rfl ?_
        refine ev_x (i := .aload_n 0) (len := 1) (p' := 44) (s' := [.ref 2, .ref 3, .int ((gI p_3.2 2 6) * 10), .ref 2]) rfl rfl (ld_a g_0) ?_
        refine ev_gi (p' := 47) (v := (gI p_3.2 2 2)) rfl rfl rfl ly_2 rfl rfl rfl ?_
        obtain ⟨b_5, H⟩ := F_gd H
        refine ev_ga (p' := 48) (v := (gE (p_3.2) 3 ((gI p_3.2 2 2) : Int32).toNatClampNeg)) rfl rfl ly_3 rfl (gd_in b_5) rfl ?_
        refine ev_x (i := .iadd) (len := 1) (p' := 49) (s' := [.int (((gI p_3.2 2 6) * 10) + (gE (p_3.2) 3 ((gI p_3.2 2 2) : Int32).toNatClampNeg)), .ref 2]) rfl rfl rfl ?_
        refine ev_x (i := .bipush 48) (len := 2) (p' := 51) (s' := [.int 48, .int (((gI p_3.2 2 6) * 10) + (gE (p_3.2) 3 ((gI p_3.2 2 2) : Int32).toNatClampNeg)), .ref 2]) rfl rfl rfl ?_
        refine ev_x (i := .isub) (len := 1) (p' := 52) (s' := [.int ((((gI p_3.2 2 6) * 10) + (gE (p_3.2) 3 ((gI p_3.2 2 2) : Int32).toNatClampNeg)) - 48), .ref 2]) rfl rfl rfl ?_
        refine ev_pi (p' := 55) rfl rfl rfl ly_2 rfl rfl rfl rfl ?_
        refine ev_x (i := .aload_n 0) (len := 1) (p' := 56) (s' := [.ref 2]) rfl rfl (ld_a g_0) ?_
        refine ev_x (i := .dup) (len := 1) (p' := 57) (s' := [.ref 2, .ref 2]) rfl rfl rfl ?_
        refine ev_gi (p' := 60) (v := (gI p_3.2 2 2)) rfl rfl rfl ly_2 rfl rfl rfl ?_
        refine ev_x (i := .iconst 1) (len := 1) (p' := 61) (s' := [.int 1, .int (gI p_3.2 2 2), .ref 2]) rfl rfl rfl ?_
        refine ev_x (i := .iadd) (len := 1) (p' := 62) (s' := [.int ((gI p_3.2 2 2) + 1), .ref 2]) rfl rfl rfl ?_
        refine ev_pi (p' := 65) rfl rfl rfl ly_2 rfl rfl rfl rfl ?_
        refine ev_x (i := .goto (-60)) (len := 3) (p' := 5) (s' := []) rfl rfl rfl ?_
        exact ih _ _ _ g_0 hnb  H
/-- GameText$Words.readNumber()V -/
def F_24 (N : Nat) (σ : st_S) : Option (st_S) :=
  L_24 N N (st_i (σ) 2 6 0)
set_option maxRecDepth 100000 in
theorem F_24_R {N : Nat} {σ : st_S} {p : st_S} (H : F_24 N σ = some p) : gR p = gR σ := by
  unfold F_24 at H
  exact (((L_24_R _ _ _ H)).trans rfl)
set_option maxHeartbeats 4000000 in
set_option maxRecDepth 100000 in
theorem F_24_ok {N d : Nat} {σ : st_S} {p : st_S}  (H : F_24 N σ = some p) : vz_ev P0 (d + 2) 24 0 (lv_args 0 [.ref 2]) [] (hp σ) (.inl none, hp p) := by
  unfold F_24 at H
  refine ev_x (i := .aload_n 0) (len := 1) (p' := 1) (s' := [.ref 2]) rfl rfl rfl ?_
  refine ev_x (i := .iconst 0) (len := 1) (p' := 2) (s' := [.int 0, .ref 2]) rfl rfl rfl ?_
  refine ev_pi (p' := 5) rfl rfl rfl ly_2 rfl rfl rfl rfl ?_
  exact (L_24_ok (d := d) N) _ _ _ rfl rfl  H
/-- GameText$Words.readSign(I)V, from 170 -/
def J_25_170 (N : Nat) (σ : st_S) : Option (st_S) :=
  some (st_i (σ) 2 2 ((gI σ 2 2) + (gI σ 2 5)))
set_option maxRecDepth 100000 in
theorem J_25_170_R {N : Nat} {σ : st_S} {p : st_S} (H : J_25_170 N σ = some p) : gR p = gR σ := by
  unfold J_25_170 at H
  obtain rfl := Option.some.inj H
  exact rfl
set_option maxHeartbeats 4000000 in
set_option maxRecDepth 100000 in
theorem J_25_170_ok {N d : Nat} {σ : st_S} {lv : vz_L} {p : st_S} (g_0 : vz_g lv 0 = some (.ref 2)) (hnb : vz_nbL (vz_gr P0) lv = true)  (H : J_25_170 N σ = some p) : vz_ev P0 (d + 8) 25 170 lv [] (hp σ) (.inl none, hp p) := by
  unfold J_25_170 at H
  refine ev_x (i := .aload_n 0) (len := 1) (p' := 171) (s' := [.ref 2]) rfl rfl (ld_a g_0) ?_
  refine ev_x (i := .dup) (len := 1) (p' := 172) (s' := [.ref 2, .ref 2]) rfl rfl rfl ?_
  refine ev_gi (p' := 175) (v := (gI σ 2 2)) rfl rfl rfl ly_2 rfl rfl rfl ?_
  refine ev_x (i := .aload_n 0) (len := 1) (p' := 176) (s' := [.ref 2, .int (gI σ 2 2), .ref 2]) rfl rfl (ld_a g_0) ?_
  refine ev_gi (p' := 179) (v := (gI σ 2 5)) rfl rfl rfl ly_2 rfl rfl rfl ?_
  refine ev_x (i := .iadd) (len := 1) (p' := 180) (s' := [.int ((gI σ 2 2) + (gI σ 2 5)), .ref 2]) rfl rfl rfl ?_
  refine ev_pi (p' := 183) rfl rfl rfl ly_2 rfl rfl rfl rfl ?_
  obtain rfl := Option.some.inj H
  exact ev_vret rfl rfl rfl
/-- GameText$Words.readSign(I)V, from 144 -/
def J_25_144 (N : Nat) (l_1 : Int32) (σ : st_S) : Option (st_S) :=
  (tx_2 1 ((l_1 : Int32).toUInt32 % 65536).toInt32).bind fun z_14 =>
  J_25_170 N (st_i (st_i (σ) 2 5 1) 2 3 (if z_14 < 0 then 263 else l_1 : Int32))
set_option maxRecDepth 100000 in
theorem J_25_144_R {N : Nat} {l_1 : Int32} {σ : st_S} {p : st_S} (H : J_25_144 N l_1 σ = some p) : gR p = gR σ := by
  unfold J_25_144 at H
  obtain ⟨z_14, G_14, H⟩ := F_bd H
  exact (((J_25_170_R H)).trans rfl)
set_option maxHeartbeats 4000000 in
set_option maxRecDepth 100000 in
theorem J_25_144_ok {N d : Nat} {l_1 : Int32} {σ : st_S} {lv : vz_L} {p : st_S} (g_0 : vz_g lv 0 = some (.ref 2)) (g_1 : vz_g lv 1 = some (.int l_1)) (hnb : vz_nbL (vz_gr P0) lv = true)  (H : J_25_144 N l_1 σ = some p) : vz_ev P0 (d + 8) 25 144 lv [] (hp σ) (.inl none, hp p) := by
  unfold J_25_144 at H
  refine ev_x (i := .aload_n 0) (len := 1) (p' := 145) (s' := [.ref 2]) rfl rfl (ld_a g_0) ?_
  refine ev_x (i := .iconst 1) (len := 1) (p' := 146) (s' := [.int 1, .ref 2]) rfl rfl rfl ?_
  refine ev_pi (p' := 149) rfl rfl rfl ly_2 rfl rfl rfl rfl ?_
  refine ev_x (i := .aload_n 0) (len := 1) (p' := 150) (s' := [.ref 2]) rfl rfl (ld_a g_0) ?_
  refine ev_x (i := .ldc 77) (len := 2) (p' := 152) (s' := [.ref 1000001, .ref 2]) rfl rfl rfl ?_
  refine ev_x (i := .iload_n 1) (len := 1) (p' := 153) (s' := [.int l_1, .ref 1000001, .ref 2]) rfl rfl (ld_i g_1) ?_
  refine ev_x (i := .i2c) (len := 1) (p' := 154) (s' := [.int ((l_1 : Int32).toUInt32 % 65536).toInt32, .ref 1000001, .ref 2]) rfl rfl rfl ?_
  obtain ⟨z_14, G_14, H⟩ := F_bd H
  refine ev_text (As := [.int ((l_1 : Int32).toUInt32 % 65536).toInt32]) (a := 1000001) (rest := [.ref 2]) (x := z_14) rfl rfl rfl rfl rfl rfl rfl (tx_2_ok (w := 1) G_14) ?_
  refine ev_st (st' := [.int z_14, .ref 2]) rfl ?_
  refine ev_pc (pc' := 157) rfl ?_
  refine F_jn (A := vz_ev P0 (d + 8) 25 167 (lv) [.int (if z_14 < 0 then 263 else l_1 : Int32), .ref 2] (hp (st_i (σ) 2 5 1)) (.inl none, hp p)) ?_ (fun J => ?_)
  · refine ev_pi (p' := 170) rfl rfl rfl ly_2 rfl rfl rfl rfl ?_
    exact J_25_170_ok (d := d) g_0 hnb  H
  · by_cases c_15 : z_14 < 0
    · refine ev_b0 (t := 164) (p' := 164) rfl rfl rfl (if_pos c_15) ?_
      refine ev_x (i := .sipush 263) (len := 3) (p' := 167) (s' := [.int 263, .ref 2]) rfl rfl rfl ?_
      exact ev_st (congrArg (fun z => Value.int z :: [.ref 2]) (by rw [if_pos c_15])) J
    · refine ev_b0 (t := 164) (p' := 160) rfl rfl rfl (if_neg c_15) ?_
      refine ev_x (i := .iload_n 1) (len := 1) (p' := 161) (s' := [.int l_1, .ref 2]) rfl rfl (ld_i g_1) ?_
      refine ev_x (i := .goto 6) (len := 3) (p' := 167) (s' := [.int l_1, .ref 2]) rfl rfl rfl ?_
      exact ev_st (congrArg (fun z => Value.int z :: [.ref 2]) (by rw [if_neg c_15])) J
/-- GameText$Words.readSign(I)V, from 122 -/
def J_25_122 (N : Nat) (l_1 : Int32) (l_2 : Int32) (σ : st_S) : Option (st_S) :=
  if l_1 = 62 then
    if l_2 = 61 then
      J_25_170 N (st_i (σ) 2 3 260)
    else
      J_25_144 N l_1 (σ)
  else
    J_25_144 N l_1 (σ)
set_option maxRecDepth 100000 in
theorem J_25_122_R {N : Nat} {l_1 : Int32} {l_2 : Int32} {σ : st_S} {p : st_S} (H : J_25_122 N l_1 l_2 σ = some p) : gR p = gR σ := by
  unfold J_25_122 at H
  refine F_if H (fun _ H => ?_) (fun _ H => ?_)
  · refine F_if H (fun _ H => ?_) (fun _ H => ?_)
    · exact (((J_25_170_R H)).trans rfl)
    · exact (((J_25_144_R H)).trans rfl)
  · exact (((J_25_144_R H)).trans rfl)
set_option maxHeartbeats 4000000 in
set_option maxRecDepth 100000 in
theorem J_25_122_ok {N d : Nat} {l_1 : Int32} {l_2 : Int32} {σ : st_S} {lv : vz_L} {p : st_S} (g_0 : vz_g lv 0 = some (.ref 2)) (g_1 : vz_g lv 1 = some (.int l_1)) (g_2 : vz_g lv 2 = some (.int l_2)) (hnb : vz_nbL (vz_gr P0) lv = true)  (H : J_25_122 N l_1 l_2 σ = some p) : vz_ev P0 (d + 8) 25 122 lv [] (hp σ) (.inl none, hp p) := by
  unfold J_25_122 at H
  refine ev_x (i := .iload_n 1) (len := 1) (p' := 123) (s' := [.int l_1]) rfl rfl (ld_i g_1) ?_
  refine ev_x (i := .bipush 62) (len := 2) (p' := 125) (s' := [.int 62, .int l_1]) rfl rfl rfl ?_
  refine F_if H (fun c_12 H => ?_) (fun c_12 H => ?_)
  · refine ev_b2 (t := 144) (p' := 128) rfl rfl rfl (if_neg (fun q => q c_12)) ?_
    refine ev_x (i := .iload_n 2) (len := 1) (p' := 129) (s' := [.int l_2]) rfl rfl (ld_i g_2) ?_
    refine ev_x (i := .bipush 61) (len := 2) (p' := 131) (s' := [.int 61, .int l_2]) rfl rfl rfl ?_
    refine F_if H (fun c_13 H => ?_) (fun c_13 H => ?_)
    · refine ev_b2 (t := 144) (p' := 134) rfl rfl rfl (if_neg (fun q => q c_13)) ?_
      refine ev_x (i := .aload_n 0) (len := 1) (p' := 135) (s' := [.ref 2]) rfl rfl (ld_a g_0) ?_
      refine ev_x (i := .sipush 260) (len := 3) (p' := 138) (s' := [.int 260, .ref 2]) rfl rfl rfl ?_
      refine ev_pi (p' := 141) rfl rfl rfl ly_2 rfl rfl rfl rfl ?_
      refine ev_x (i := .goto 29) (len := 3) (p' := 170) (s' := []) rfl rfl rfl ?_
      exact J_25_170_ok (d := d) g_0 hnb  H
    · refine ev_b2 (t := 144) (p' := 144) rfl rfl rfl (if_pos c_13) ?_
      exact J_25_144_ok (d := d) g_0 g_1 hnb  H
  · refine ev_b2 (t := 144) (p' := 144) rfl rfl rfl (if_pos c_12) ?_
    exact J_25_144_ok (d := d) g_0 g_1 hnb  H
/-- GameText$Words.readSign(I)V, from 100 -/
def J_25_100 (N : Nat) (l_1 : Int32) (l_2 : Int32) (σ : st_S) : Option (st_S) :=
  if l_1 = 60 then
    if l_2 = 61 then
      J_25_170 N (st_i (σ) 2 3 259)
    else
      J_25_122 N l_1 l_2 (σ)
  else
    J_25_122 N l_1 l_2 (σ)
set_option maxRecDepth 100000 in
theorem J_25_100_R {N : Nat} {l_1 : Int32} {l_2 : Int32} {σ : st_S} {p : st_S} (H : J_25_100 N l_1 l_2 σ = some p) : gR p = gR σ := by
  unfold J_25_100 at H
  refine F_if H (fun _ H => ?_) (fun _ H => ?_)
  · refine F_if H (fun _ H => ?_) (fun _ H => ?_)
    · exact (((J_25_170_R H)).trans rfl)
    · exact (((J_25_122_R H)).trans rfl)
  · exact (((J_25_122_R H)).trans rfl)
set_option maxHeartbeats 4000000 in
set_option maxRecDepth 100000 in
theorem J_25_100_ok {N d : Nat} {l_1 : Int32} {l_2 : Int32} {σ : st_S} {lv : vz_L} {p : st_S} (g_0 : vz_g lv 0 = some (.ref 2)) (g_1 : vz_g lv 1 = some (.int l_1)) (g_2 : vz_g lv 2 = some (.int l_2)) (hnb : vz_nbL (vz_gr P0) lv = true)  (H : J_25_100 N l_1 l_2 σ = some p) : vz_ev P0 (d + 8) 25 100 lv [] (hp σ) (.inl none, hp p) := by
  unfold J_25_100 at H
  refine ev_x (i := .iload_n 1) (len := 1) (p' := 101) (s' := [.int l_1]) rfl rfl (ld_i g_1) ?_
  refine ev_x (i := .bipush 60) (len := 2) (p' := 103) (s' := [.int 60, .int l_1]) rfl rfl rfl ?_
  refine F_if H (fun c_10 H => ?_) (fun c_10 H => ?_)
  · refine ev_b2 (t := 122) (p' := 106) rfl rfl rfl (if_neg (fun q => q c_10)) ?_
    refine ev_x (i := .iload_n 2) (len := 1) (p' := 107) (s' := [.int l_2]) rfl rfl (ld_i g_2) ?_
    refine ev_x (i := .bipush 61) (len := 2) (p' := 109) (s' := [.int 61, .int l_2]) rfl rfl rfl ?_
    refine F_if H (fun c_11 H => ?_) (fun c_11 H => ?_)
    · refine ev_b2 (t := 122) (p' := 112) rfl rfl rfl (if_neg (fun q => q c_11)) ?_
      refine ev_x (i := .aload_n 0) (len := 1) (p' := 113) (s' := [.ref 2]) rfl rfl (ld_a g_0) ?_
      refine ev_x (i := .sipush 259) (len := 3) (p' := 116) (s' := [.int 259, .ref 2]) rfl rfl rfl ?_
      refine ev_pi (p' := 119) rfl rfl rfl ly_2 rfl rfl rfl rfl ?_
      refine ev_x (i := .goto 51) (len := 3) (p' := 170) (s' := []) rfl rfl rfl ?_
      exact J_25_170_ok (d := d) g_0 hnb  H
    · refine ev_b2 (t := 122) (p' := 122) rfl rfl rfl (if_pos c_11) ?_
      exact J_25_122_ok (d := d) g_0 g_1 g_2 hnb  H
  · refine ev_b2 (t := 122) (p' := 122) rfl rfl rfl (if_pos c_10) ?_
    exact J_25_122_ok (d := d) g_0 g_1 g_2 hnb  H
/-- GameText$Words.readSign(I)V, from 78 -/
def J_25_78 (N : Nat) (l_1 : Int32) (l_2 : Int32) (σ : st_S) : Option (st_S) :=
  if l_1 = 33 then
    if l_2 = 61 then
      J_25_170 N (st_i (σ) 2 3 258)
    else
      J_25_100 N l_1 l_2 (σ)
  else
    J_25_100 N l_1 l_2 (σ)
set_option maxRecDepth 100000 in
theorem J_25_78_R {N : Nat} {l_1 : Int32} {l_2 : Int32} {σ : st_S} {p : st_S} (H : J_25_78 N l_1 l_2 σ = some p) : gR p = gR σ := by
  unfold J_25_78 at H
  refine F_if H (fun _ H => ?_) (fun _ H => ?_)
  · refine F_if H (fun _ H => ?_) (fun _ H => ?_)
    · exact (((J_25_170_R H)).trans rfl)
    · exact (((J_25_100_R H)).trans rfl)
  · exact (((J_25_100_R H)).trans rfl)
set_option maxHeartbeats 4000000 in
set_option maxRecDepth 100000 in
theorem J_25_78_ok {N d : Nat} {l_1 : Int32} {l_2 : Int32} {σ : st_S} {lv : vz_L} {p : st_S} (g_0 : vz_g lv 0 = some (.ref 2)) (g_1 : vz_g lv 1 = some (.int l_1)) (g_2 : vz_g lv 2 = some (.int l_2)) (hnb : vz_nbL (vz_gr P0) lv = true)  (H : J_25_78 N l_1 l_2 σ = some p) : vz_ev P0 (d + 8) 25 78 lv [] (hp σ) (.inl none, hp p) := by
  unfold J_25_78 at H
  refine ev_x (i := .iload_n 1) (len := 1) (p' := 79) (s' := [.int l_1]) rfl rfl (ld_i g_1) ?_
  refine ev_x (i := .bipush 33) (len := 2) (p' := 81) (s' := [.int 33, .int l_1]) rfl rfl rfl ?_
  refine F_if H (fun c_8 H => ?_) (fun c_8 H => ?_)
  · refine ev_b2 (t := 100) (p' := 84) rfl rfl rfl (if_neg (fun q => q c_8)) ?_
    refine ev_x (i := .iload_n 2) (len := 1) (p' := 85) (s' := [.int l_2]) rfl rfl (ld_i g_2) ?_
    refine ev_x (i := .bipush 61) (len := 2) (p' := 87) (s' := [.int 61, .int l_2]) rfl rfl rfl ?_
    refine F_if H (fun c_9 H => ?_) (fun c_9 H => ?_)
    · refine ev_b2 (t := 100) (p' := 90) rfl rfl rfl (if_neg (fun q => q c_9)) ?_
      refine ev_x (i := .aload_n 0) (len := 1) (p' := 91) (s' := [.ref 2]) rfl rfl (ld_a g_0) ?_
      refine ev_x (i := .sipush 258) (len := 3) (p' := 94) (s' := [.int 258, .ref 2]) rfl rfl rfl ?_
      refine ev_pi (p' := 97) rfl rfl rfl ly_2 rfl rfl rfl rfl ?_
      refine ev_x (i := .goto 73) (len := 3) (p' := 170) (s' := []) rfl rfl rfl ?_
      exact J_25_170_ok (d := d) g_0 hnb  H
    · refine ev_b2 (t := 100) (p' := 100) rfl rfl rfl (if_pos c_9) ?_
      exact J_25_100_ok (d := d) g_0 g_1 g_2 hnb  H
  · refine ev_b2 (t := 100) (p' := 100) rfl rfl rfl (if_pos c_8) ?_
    exact J_25_100_ok (d := d) g_0 g_1 g_2 hnb  H
/-- GameText$Words.readSign(I)V, from 56 -/
def J_25_56 (N : Nat) (l_1 : Int32) (l_2 : Int32) (σ : st_S) : Option (st_S) :=
  if l_1 = 45 then
    if l_2 = 62 then
      J_25_170 N (st_i (σ) 2 3 257)
    else
      J_25_78 N l_1 l_2 (σ)
  else
    J_25_78 N l_1 l_2 (σ)
set_option maxRecDepth 100000 in
theorem J_25_56_R {N : Nat} {l_1 : Int32} {l_2 : Int32} {σ : st_S} {p : st_S} (H : J_25_56 N l_1 l_2 σ = some p) : gR p = gR σ := by
  unfold J_25_56 at H
  refine F_if H (fun _ H => ?_) (fun _ H => ?_)
  · refine F_if H (fun _ H => ?_) (fun _ H => ?_)
    · exact (((J_25_170_R H)).trans rfl)
    · exact (((J_25_78_R H)).trans rfl)
  · exact (((J_25_78_R H)).trans rfl)
set_option maxHeartbeats 4000000 in
set_option maxRecDepth 100000 in
theorem J_25_56_ok {N d : Nat} {l_1 : Int32} {l_2 : Int32} {σ : st_S} {lv : vz_L} {p : st_S} (g_0 : vz_g lv 0 = some (.ref 2)) (g_1 : vz_g lv 1 = some (.int l_1)) (g_2 : vz_g lv 2 = some (.int l_2)) (hnb : vz_nbL (vz_gr P0) lv = true)  (H : J_25_56 N l_1 l_2 σ = some p) : vz_ev P0 (d + 8) 25 56 lv [] (hp σ) (.inl none, hp p) := by
  unfold J_25_56 at H
  refine ev_x (i := .iload_n 1) (len := 1) (p' := 57) (s' := [.int l_1]) rfl rfl (ld_i g_1) ?_
  refine ev_x (i := .bipush 45) (len := 2) (p' := 59) (s' := [.int 45, .int l_1]) rfl rfl rfl ?_
  refine F_if H (fun c_6 H => ?_) (fun c_6 H => ?_)
  · refine ev_b2 (t := 78) (p' := 62) rfl rfl rfl (if_neg (fun q => q c_6)) ?_
    refine ev_x (i := .iload_n 2) (len := 1) (p' := 63) (s' := [.int l_2]) rfl rfl (ld_i g_2) ?_
    refine ev_x (i := .bipush 62) (len := 2) (p' := 65) (s' := [.int 62, .int l_2]) rfl rfl rfl ?_
    refine F_if H (fun c_7 H => ?_) (fun c_7 H => ?_)
    · refine ev_b2 (t := 78) (p' := 68) rfl rfl rfl (if_neg (fun q => q c_7)) ?_
      refine ev_x (i := .aload_n 0) (len := 1) (p' := 69) (s' := [.ref 2]) rfl rfl (ld_a g_0) ?_
      refine ev_x (i := .sipush 257) (len := 3) (p' := 72) (s' := [.int 257, .ref 2]) rfl rfl rfl ?_
      refine ev_pi (p' := 75) rfl rfl rfl ly_2 rfl rfl rfl rfl ?_
      refine ev_x (i := .goto 95) (len := 3) (p' := 170) (s' := []) rfl rfl rfl ?_
      exact J_25_170_ok (d := d) g_0 hnb  H
    · refine ev_b2 (t := 78) (p' := 78) rfl rfl rfl (if_pos c_7) ?_
      exact J_25_78_ok (d := d) g_0 g_1 g_2 hnb  H
  · refine ev_b2 (t := 78) (p' := 78) rfl rfl rfl (if_pos c_6) ?_
    exact J_25_78_ok (d := d) g_0 g_1 g_2 hnb  H
/-- GameText$Words.readSign(I)V -/
def F_25 (N : Nat) (x_1 : Int32) (σ : st_S) : Option (st_S) :=
  if (gI σ 2 1) ≤ ((gI σ 2 2) + 1) then
    if x_1 = 46 then
      J_25_56 N x_1 0 (st_i (σ) 2 5 2)
    else
      J_25_56 N x_1 0 (st_i (σ) 2 5 2)
  else
    if aB ((gI σ 2 2) + 1) (gN σ 3) then
    if x_1 = 46 then
      if (gE (σ) 3 (((gI σ 2 2) + 1) : Int32).toNatClampNeg) = 46 then
        J_25_170 N (st_i (st_i (σ) 2 5 2) 2 3 256)
      else
        J_25_56 N x_1 (gE (σ) 3 (((gI σ 2 2) + 1) : Int32).toNatClampNeg) (st_i (σ) 2 5 2)
    else
      J_25_56 N x_1 (gE (σ) 3 (((gI σ 2 2) + 1) : Int32).toNatClampNeg) (st_i (σ) 2 5 2)
    else none
set_option maxRecDepth 100000 in
theorem F_25_R {N : Nat} {x_1 : Int32} {σ : st_S} {p : st_S} (H : F_25 N x_1 σ = some p) : gR p = gR σ := by
  unfold F_25 at H
  refine F_if H (fun _ H => ?_) (fun _ H => ?_)
  · refine F_if H (fun _ H => ?_) (fun _ H => ?_)
    · exact (((J_25_56_R H)).trans rfl)
    · exact (((J_25_56_R H)).trans rfl)
  · obtain ⟨_, H⟩ := F_gd H
    refine F_if H (fun _ H => ?_) (fun _ H => ?_)
    · refine F_if H (fun _ H => ?_) (fun _ H => ?_)
      · exact (((J_25_170_R H)).trans rfl)
      · exact (((J_25_56_R H)).trans rfl)
    · exact (((J_25_56_R H)).trans rfl)
set_option maxHeartbeats 4000000 in
set_option maxRecDepth 100000 in
theorem F_25_ok {N d : Nat} {x_1 : Int32} {σ : st_S} {p : st_S}  (H : F_25 N x_1 σ = some p) : vz_ev P0 (d + 8) 25 0 (lv_args 0 [.ref 2, .int x_1]) [] (hp σ) (.inl none, hp p) := by
  unfold F_25 at H
  refine ev_x (i := .aload_n 0) (len := 1) (p' := 1) (s' := [.ref 2]) rfl rfl rfl ?_
  refine ev_gi (p' := 4) (v := (gI σ 2 2)) rfl rfl rfl ly_2 rfl rfl rfl ?_
  refine ev_x (i := .iconst 1) (len := 1) (p' := 5) (s' := [.int 1, .int (gI σ 2 2)]) rfl rfl rfl ?_
  refine ev_x (i := .iadd) (len := 1) (p' := 6) (s' := [.int ((gI σ 2 2) + 1)]) rfl rfl rfl ?_
  refine ev_x (i := .aload_n 0) (len := 1) (p' := 7) (s' := [.ref 2, .int ((gI σ 2 2) + 1)]) rfl rfl rfl ?_
  refine ev_gi (p' := 10) (v := (gI σ 2 1)) rfl rfl rfl ly_2 rfl rfl rfl ?_
  refine F_if H (fun c_1 H => ?_) (fun c_1 H => ?_)
  · refine ev_b2 (t := 27) (p' := 27) rfl rfl rfl (if_pos c_1) ?_
    refine ev_x (i := .iconst 0) (len := 1) (p' := 28) (s' := [.int 0]) rfl rfl rfl ?_
    refine ev_x (i := .istore_n 2) (len := 1) (p' := 29) (s' := []) (l' := [(2, .int 0), (0, .ref 2), (1, .int x_1)]) rfl rfl rfl ?_
    refine ev_x (i := .aload_n 0) (len := 1) (p' := 30) (s' := [.ref 2]) rfl rfl rfl ?_
    refine ev_x (i := .iconst 2) (len := 1) (p' := 31) (s' := [.int 2, .ref 2]) rfl rfl rfl ?_
    refine ev_pi (p' := 34) rfl rfl rfl ly_2 rfl rfl rfl rfl ?_
    refine ev_x (i := .iload_n 1) (len := 1) (p' := 35) (s' := [.int x_1]) rfl rfl rfl ?_
    refine ev_x (i := .bipush 46) (len := 2) (p' := 37) (s' := [.int 46, .int x_1]) rfl rfl rfl ?_
    refine F_if H (fun c_2 H => ?_) (fun c_2 H => ?_)
    · refine ev_b2 (t := 56) (p' := 40) rfl rfl rfl (if_neg (fun q => q c_2)) ?_
      refine ev_x (i := .iload_n 2) (len := 1) (p' := 41) (s' := [.int 0]) rfl rfl rfl ?_
      refine ev_x (i := .bipush 46) (len := 2) (p' := 43) (s' := [.int 46, .int 0]) rfl rfl rfl ?_
      refine ev_b2 (t := 56) (p' := 56) rfl rfl rfl (by decide) ?_
      exact J_25_56_ok (d := d) rfl rfl rfl rfl  H
    · refine ev_b2 (t := 56) (p' := 56) rfl rfl rfl (if_pos c_2) ?_
      exact J_25_56_ok (d := d) rfl rfl rfl rfl  H
  · refine ev_b2 (t := 27) (p' := 13) rfl rfl rfl (if_neg c_1) ?_
    refine ev_x (i := .aload_n 0) (len := 1) (p' := 14) (s' := [.ref 2]) rfl rfl rfl ?_
    refine ev_gc (p' := 17) (v := 3) rfl rfl rfl ly_2 rfl rfl ?_
    refine ev_x (i := .aload_n 0) (len := 1) (p' := 18) (s' := [.ref 2, .ref 3]) rfl rfl rfl ?_
    refine ev_gi (p' := 21) (v := (gI σ 2 2)) rfl rfl rfl ly_2 rfl rfl rfl ?_
    refine ev_x (i := .iconst 1) (len := 1) (p' := 22) (s' := [.int 1, .int (gI σ 2 2), .ref 3]) rfl rfl rfl ?_
    refine ev_x (i := .iadd) (len := 1) (p' := 23) (s' := [.int ((gI σ 2 2) + 1), .ref 3]) rfl rfl rfl ?_
    obtain ⟨b_3, H⟩ := F_gd H
    refine ev_ga (p' := 24) (v := (gE (σ) 3 (((gI σ 2 2) + 1) : Int32).toNatClampNeg)) rfl rfl ly_3 rfl (gd_in b_3) rfl ?_
    refine ev_x (i := .goto 4) (len := 3) (p' := 28) (s' := [.int (gE (σ) 3 (((gI σ 2 2) + 1) : Int32).toNatClampNeg)]) rfl rfl rfl ?_
    refine ev_x (i := .istore_n 2) (len := 1) (p' := 29) (s' := []) (l' := [(2, .int (gE (σ) 3 (((gI σ 2 2) + 1) : Int32).toNatClampNeg)), (0, .ref 2), (1, .int x_1)]) rfl rfl rfl ?_
    refine ev_x (i := .aload_n 0) (len := 1) (p' := 30) (s' := [.ref 2]) rfl rfl rfl ?_
    refine ev_x (i := .iconst 2) (len := 1) (p' := 31) (s' := [.int 2, .ref 2]) rfl rfl rfl ?_
    refine ev_pi (p' := 34) rfl rfl rfl ly_2 rfl rfl rfl rfl ?_
    refine ev_x (i := .iload_n 1) (len := 1) (p' := 35) (s' := [.int x_1]) rfl rfl rfl ?_
    refine ev_x (i := .bipush 46) (len := 2) (p' := 37) (s' := [.int 46, .int x_1]) rfl rfl rfl ?_
    refine F_if H (fun c_4 H => ?_) (fun c_4 H => ?_)
    · refine ev_b2 (t := 56) (p' := 40) rfl rfl rfl (if_neg (fun q => q c_4)) ?_
      refine ev_x (i := .iload_n 2) (len := 1) (p' := 41) (s' := [.int (gE (σ) 3 (((gI σ 2 2) + 1) : Int32).toNatClampNeg)]) rfl rfl rfl ?_
      refine ev_x (i := .bipush 46) (len := 2) (p' := 43) (s' := [.int 46, .int (gE (σ) 3 (((gI σ 2 2) + 1) : Int32).toNatClampNeg)]) rfl rfl rfl ?_
      refine F_if H (fun c_5 H => ?_) (fun c_5 H => ?_)
      · refine ev_b2 (t := 56) (p' := 46) rfl rfl rfl (if_neg (fun q => q c_5)) ?_
        refine ev_x (i := .aload_n 0) (len := 1) (p' := 47) (s' := [.ref 2]) rfl rfl rfl ?_
        refine ev_x (i := .sipush 256) (len := 3) (p' := 50) (s' := [.int 256, .ref 2]) rfl rfl rfl ?_
        refine ev_pi (p' := 53) rfl rfl rfl ly_2 rfl rfl rfl rfl ?_
        refine ev_x (i := .goto 117) (len := 3) (p' := 170) (s' := []) rfl rfl rfl ?_
        exact J_25_170_ok (d := d) rfl rfl  H
      · refine ev_b2 (t := 56) (p' := 56) rfl rfl rfl (if_pos c_5) ?_
        exact J_25_56_ok (d := d) rfl rfl rfl rfl  H
    · refine ev_b2 (t := 56) (p' := 56) rfl rfl rfl (if_pos c_4) ?_
      exact J_25_56_ok (d := d) rfl rfl rfl rfl  H
/-- GameText$Words.skipBlanks()V, its loops -/
def L_18 (N : Nat) : Nat → Int32 → st_S → Option (st_S)
  | 0, _, _ => none
  | k + 1, l_1, σ =>
      if (gI σ 2 1) ≤ (gI σ 2 2) then
        some (σ)
      else
        if aB (gI σ 2 2) (gN σ 3) then
        if l_1 = 0 then
          if (gE (σ) 3 ((gI σ 2 2) : Int32).toNatClampNeg) = 35 then
            L_18 N k 1 (st_i (σ) 2 2 ((gI σ 2 2) + 1))
          else
            if (gE (σ) 3 ((gI σ 2 2) : Int32).toNatClampNeg) = 9 then
              L_18 N k l_1 (st_i (σ) 2 2 ((gI σ 2 2) + 1))
            else
              if (gE (σ) 3 ((gI σ 2 2) : Int32).toNatClampNeg) = 10 then
                L_18 N k l_1 (st_i (σ) 2 2 ((gI σ 2 2) + 1))
              else
                if (gE (σ) 3 ((gI σ 2 2) : Int32).toNatClampNeg) = 13 then
                  L_18 N k l_1 (st_i (σ) 2 2 ((gI σ 2 2) + 1))
                else
                  if (gE (σ) 3 ((gI σ 2 2) : Int32).toNatClampNeg) = 32 then
                    L_18 N k l_1 (st_i (σ) 2 2 ((gI σ 2 2) + 1))
                  else
                    some (σ)
        else
          L_18 N k (if (gE (σ) 3 ((gI σ 2 2) : Int32).toNatClampNeg) = 10 then 0 else 1 : Int32) (st_i (σ) 2 2 ((gI σ 2 2) + 1))
        else none
set_option maxRecDepth 100000 in
theorem L_18_R {N : Nat} : ∀ (k : Nat) (l_1 : Int32) (σ : st_S) (p : st_S), L_18 N k l_1 σ = some p → gR p = gR σ := by
  intro k
  induction k with
  | zero => intro l_1 σ p H; unfold L_18 at H; cases H
  | succ k ih =>
    intro l_1 σ p H
    unfold L_18 at H
    refine F_if H (fun _ H => ?_) (fun _ H => ?_)
    · obtain rfl := Option.some.inj H
      exact rfl
    · obtain ⟨_, H⟩ := F_gd H
      refine F_if H (fun _ H => ?_) (fun _ H => ?_)
      · refine F_if H (fun _ H => ?_) (fun _ H => ?_)
        · exact (((ih _ _ _ H)).trans rfl)
        · refine F_if H (fun _ H => ?_) (fun _ H => ?_)
          · exact (((ih _ _ _ H)).trans rfl)
          · refine F_if H (fun _ H => ?_) (fun _ H => ?_)
            · exact (((ih _ _ _ H)).trans rfl)
            · refine F_if H (fun _ H => ?_) (fun _ H => ?_)
              · exact (((ih _ _ _ H)).trans rfl)
              · refine F_if H (fun _ H => ?_) (fun _ H => ?_)
                · exact (((ih _ _ _ H)).trans rfl)
                · obtain rfl := Option.some.inj H
                  exact rfl
      · exact (((ih _ _ _ H)).trans rfl)
set_option maxHeartbeats 4000000 in
set_option maxRecDepth 100000 in
theorem L_18_ok {N d : Nat} : ∀ k : Nat, ∀ (l_1 : Int32) (σ : st_S) (lv : vz_L) (p : st_S), vz_g lv 0 = some (.ref 2) → vz_g lv 1 = some (.int l_1) → vz_nbL (vz_gr P0) lv = true → L_18 N k l_1 σ = some p → vz_ev P0 (d + 1) 18 2 lv [] (hp σ) (.inl none, hp p) := by
  intro k
  induction k with
  | zero => intro l_1 σ lv p g_0 g_1 hnb H; unfold L_18 at H; cases H
  | succ k ih =>
    intro l_1 σ lv p g_0 g_1 hnb H
    unfold L_18 at H
    refine ev_x (i := .aload_n 0) (len := 1) (p' := 3) (s' := [.ref 2]) rfl rfl (ld_a g_0) ?_
    refine ev_gi (p' := 6) (v := (gI σ 2 2)) rfl rfl rfl ly_2 rfl rfl rfl ?_
    refine ev_x (i := .aload_n 0) (len := 1) (p' := 7) (s' := [.ref 2, .int (gI σ 2 2)]) rfl rfl (ld_a g_0) ?_
    refine ev_gi (p' := 10) (v := (gI σ 2 1)) rfl rfl rfl ly_2 rfl rfl rfl ?_
    refine F_if H (fun c_1 H => ?_) (fun c_1 H => ?_)
    · refine ev_b2 (t := 91) (p' := 91) rfl rfl rfl (if_pos c_1) ?_
      obtain rfl := Option.some.inj H
      exact ev_vret rfl rfl rfl
    · refine ev_b2 (t := 91) (p' := 13) rfl rfl rfl (if_neg c_1) ?_
      refine ev_x (i := .aload_n 0) (len := 1) (p' := 14) (s' := [.ref 2]) rfl rfl (ld_a g_0) ?_
      refine ev_gc (p' := 17) (v := 3) rfl rfl rfl ly_2 rfl rfl ?_
      refine ev_x (i := .aload_n 0) (len := 1) (p' := 18) (s' := [.ref 2, .ref 3]) rfl rfl (ld_a g_0) ?_
      refine ev_gi (p' := 21) (v := (gI σ 2 2)) rfl rfl rfl ly_2 rfl rfl rfl ?_
      obtain ⟨b_2, H⟩ := F_gd H
      refine ev_ga (p' := 22) (v := (gE (σ) 3 ((gI σ 2 2) : Int32).toNatClampNeg)) rfl rfl ly_3 rfl (gd_in b_2) rfl ?_
      refine ev_x (i := .istore_n 2) (len := 1) (p' := 23) (s' := []) (l' := vz_s1 (lv) 2 (.int (gE (σ) 3 ((gI σ 2 2) : Int32).toNatClampNeg))) rfl rfl rfl ?_
      refine ev_x (i := .iload_n 1) (len := 1) (p' := 24) (s' := [.int l_1]) rfl rfl (ld_i (vg_o (i := 2) (v := .int (gE (σ) 3 ((gI σ 2 2) : Int32).toNatClampNeg)) g_1 (by decide) (Or.inl rfl))) ?_
      refine F_if H (fun c_3 H => ?_) (fun c_3 H => ?_)
      · refine ev_b0 (t := 42) (p' := 42) rfl rfl rfl (if_pos c_3) ?_
        refine ev_x (i := .iload_n 2) (len := 1) (p' := 43) (s' := [.int (gE (σ) 3 ((gI σ 2 2) : Int32).toNatClampNeg)]) rfl rfl (ld_i (vg_s (lv) 2 (.int (gE (σ) 3 ((gI σ 2 2) : Int32).toNatClampNeg)))) ?_
        refine ev_x (i := .bipush 35) (len := 2) (p' := 45) (s' := [.int 35, .int (gE (σ) 3 ((gI σ 2 2) : Int32).toNatClampNeg)]) rfl rfl rfl ?_
        refine F_if H (fun c_4 H => ?_) (fun c_4 H => ?_)
        · refine ev_b2 (t := 53) (p' := 48) rfl rfl rfl (if_neg (fun q => q c_4)) ?_
          refine ev_x (i := .iconst 1) (len := 1) (p' := 49) (s' := [.int 1]) rfl rfl rfl ?_
          refine ev_x (i := .istore_n 1) (len := 1) (p' := 50) (s' := []) (l' := vz_s1 (vz_s1 (lv) 2 (.int (gE (σ) 3 ((gI σ 2 2) : Int32).toNatClampNeg))) 1 (.int 1)) rfl rfl rfl ?_
          refine ev_x (i := .goto 28) (len := 3) (p' := 78) (s' := []) rfl rfl rfl ?_
          refine ev_x (i := .aload_n 0) (len := 1) (p' := 79) (s' := [.ref 2]) rfl rfl (ld_a (vg_o (i := 1) (v := .int 1) (vg_o (i := 2) (v := .int (gE (σ) 3 ((gI σ 2 2) : Int32).toNatClampNeg)) g_0 (by decide) (Or.inl rfl)) (by decide) (Or.inl rfl))) ?_
          refine ev_x (i := .dup) (len := 1) (p' := 80) (s' := [.ref 2, .ref 2]) rfl rfl rfl ?_
          refine ev_gi (p' := 83) (v := (gI σ 2 2)) rfl rfl rfl ly_2 rfl rfl rfl ?_
          refine ev_x (i := .iconst 1) (len := 1) (p' := 84) (s' := [.int 1, .int (gI σ 2 2), .ref 2]) rfl rfl rfl ?_
          refine ev_x (i := .iadd) (len := 1) (p' := 85) (s' := [.int ((gI σ 2 2) + 1), .ref 2]) rfl rfl rfl ?_
          refine ev_pi (p' := 88) rfl rfl rfl ly_2 rfl rfl rfl rfl ?_
          refine ev_x (i := .goto (-86)) (len := 3) (p' := 2) (s' := []) rfl rfl rfl ?_
          exact ih _ _ _ _ (vg_o (i := 1) (v := .int 1) (vg_o (i := 2) (v := .int (gE (σ) 3 ((gI σ 2 2) : Int32).toNatClampNeg)) g_0 (by decide) (Or.inl rfl)) (by decide) (Or.inl rfl)) (vg_s (vz_s1 (lv) 2 (.int (gE (σ) 3 ((gI σ 2 2) : Int32).toNatClampNeg))) 1 (.int 1)) (nb_s1 (nb_s1 hnb rfl) rfl)  H
        · refine ev_b2 (t := 53) (p' := 53) rfl rfl rfl (if_pos c_4) ?_
          refine ev_x (i := .iload_n 2) (len := 1) (p' := 54) (s' := [.int (gE (σ) 3 ((gI σ 2 2) : Int32).toNatClampNeg)]) rfl rfl (ld_i (vg_s (lv) 2 (.int (gE (σ) 3 ((gI σ 2 2) : Int32).toNatClampNeg)))) ?_
          refine ev_x (i := .bipush 9) (len := 2) (p' := 56) (s' := [.int 9, .int (gE (σ) 3 ((gI σ 2 2) : Int32).toNatClampNeg)]) rfl rfl rfl ?_
          refine F_if H (fun c_5 H => ?_) (fun c_5 H => ?_)
          · refine ev_b2 (t := 78) (p' := 78) rfl rfl rfl (if_pos c_5) ?_
            refine ev_x (i := .aload_n 0) (len := 1) (p' := 79) (s' := [.ref 2]) rfl rfl (ld_a (vg_o (i := 2) (v := .int (gE (σ) 3 ((gI σ 2 2) : Int32).toNatClampNeg)) g_0 (by decide) (Or.inl rfl))) ?_
            refine ev_x (i := .dup) (len := 1) (p' := 80) (s' := [.ref 2, .ref 2]) rfl rfl rfl ?_
            refine ev_gi (p' := 83) (v := (gI σ 2 2)) rfl rfl rfl ly_2 rfl rfl rfl ?_
            refine ev_x (i := .iconst 1) (len := 1) (p' := 84) (s' := [.int 1, .int (gI σ 2 2), .ref 2]) rfl rfl rfl ?_
            refine ev_x (i := .iadd) (len := 1) (p' := 85) (s' := [.int ((gI σ 2 2) + 1), .ref 2]) rfl rfl rfl ?_
            refine ev_pi (p' := 88) rfl rfl rfl ly_2 rfl rfl rfl rfl ?_
            refine ev_x (i := .goto (-86)) (len := 3) (p' := 2) (s' := []) rfl rfl rfl ?_
            exact ih _ _ _ _ (vg_o (i := 2) (v := .int (gE (σ) 3 ((gI σ 2 2) : Int32).toNatClampNeg)) g_0 (by decide) (Or.inl rfl)) (vg_o (i := 2) (v := .int (gE (σ) 3 ((gI σ 2 2) : Int32).toNatClampNeg)) g_1 (by decide) (Or.inl rfl)) (nb_s1 hnb rfl)  H
          · refine ev_b2 (t := 78) (p' := 59) rfl rfl rfl (if_neg c_5) ?_
            refine ev_x (i := .iload_n 2) (len := 1) (p' := 60) (s' := [.int (gE (σ) 3 ((gI σ 2 2) : Int32).toNatClampNeg)]) rfl rfl (ld_i (vg_s (lv) 2 (.int (gE (σ) 3 ((gI σ 2 2) : Int32).toNatClampNeg)))) ?_
            refine ev_x (i := .bipush 10) (len := 2) (p' := 62) (s' := [.int 10, .int (gE (σ) 3 ((gI σ 2 2) : Int32).toNatClampNeg)]) rfl rfl rfl ?_
            refine F_if H (fun c_6 H => ?_) (fun c_6 H => ?_)
            · refine ev_b2 (t := 78) (p' := 78) rfl rfl rfl (if_pos c_6) ?_
              refine ev_x (i := .aload_n 0) (len := 1) (p' := 79) (s' := [.ref 2]) rfl rfl (ld_a (vg_o (i := 2) (v := .int (gE (σ) 3 ((gI σ 2 2) : Int32).toNatClampNeg)) g_0 (by decide) (Or.inl rfl))) ?_
              refine ev_x (i := .dup) (len := 1) (p' := 80) (s' := [.ref 2, .ref 2]) rfl rfl rfl ?_
              refine ev_gi (p' := 83) (v := (gI σ 2 2)) rfl rfl rfl ly_2 rfl rfl rfl ?_
              refine ev_x (i := .iconst 1) (len := 1) (p' := 84) (s' := [.int 1, .int (gI σ 2 2), .ref 2]) rfl rfl rfl ?_
              refine ev_x (i := .iadd) (len := 1) (p' := 85) (s' := [.int ((gI σ 2 2) + 1), .ref 2]) rfl rfl rfl ?_
              refine ev_pi (p' := 88) rfl rfl rfl ly_2 rfl rfl rfl rfl ?_
              refine ev_x (i := .goto (-86)) (len := 3) (p' := 2) (s' := []) rfl rfl rfl ?_
              exact ih _ _ _ _ (vg_o (i := 2) (v := .int (gE (σ) 3 ((gI σ 2 2) : Int32).toNatClampNeg)) g_0 (by decide) (Or.inl rfl)) (vg_o (i := 2) (v := .int (gE (σ) 3 ((gI σ 2 2) : Int32).toNatClampNeg)) g_1 (by decide) (Or.inl rfl)) (nb_s1 hnb rfl)  H
            · refine ev_b2 (t := 78) (p' := 65) rfl rfl rfl (if_neg c_6) ?_
              refine ev_x (i := .iload_n 2) (len := 1) (p' := 66) (s' := [.int (gE (σ) 3 ((gI σ 2 2) : Int32).toNatClampNeg)]) rfl rfl (ld_i (vg_s (lv) 2 (.int (gE (σ) 3 ((gI σ 2 2) : Int32).toNatClampNeg)))) ?_
              refine ev_x (i := .bipush 13) (len := 2) (p' := 68) (s' := [.int 13, .int (gE (σ) 3 ((gI σ 2 2) : Int32).toNatClampNeg)]) rfl rfl rfl ?_
              refine F_if H (fun c_7 H => ?_) (fun c_7 H => ?_)
              · refine ev_b2 (t := 78) (p' := 78) rfl rfl rfl (if_pos c_7) ?_
                refine ev_x (i := .aload_n 0) (len := 1) (p' := 79) (s' := [.ref 2]) rfl rfl (ld_a (vg_o (i := 2) (v := .int (gE (σ) 3 ((gI σ 2 2) : Int32).toNatClampNeg)) g_0 (by decide) (Or.inl rfl))) ?_
                refine ev_x (i := .dup) (len := 1) (p' := 80) (s' := [.ref 2, .ref 2]) rfl rfl rfl ?_
                refine ev_gi (p' := 83) (v := (gI σ 2 2)) rfl rfl rfl ly_2 rfl rfl rfl ?_
                refine ev_x (i := .iconst 1) (len := 1) (p' := 84) (s' := [.int 1, .int (gI σ 2 2), .ref 2]) rfl rfl rfl ?_
                refine ev_x (i := .iadd) (len := 1) (p' := 85) (s' := [.int ((gI σ 2 2) + 1), .ref 2]) rfl rfl rfl ?_
                refine ev_pi (p' := 88) rfl rfl rfl ly_2 rfl rfl rfl rfl ?_
                refine ev_x (i := .goto (-86)) (len := 3) (p' := 2) (s' := []) rfl rfl rfl ?_
                exact ih _ _ _ _ (vg_o (i := 2) (v := .int (gE (σ) 3 ((gI σ 2 2) : Int32).toNatClampNeg)) g_0 (by decide) (Or.inl rfl)) (vg_o (i := 2) (v := .int (gE (σ) 3 ((gI σ 2 2) : Int32).toNatClampNeg)) g_1 (by decide) (Or.inl rfl)) (nb_s1 hnb rfl)  H
              · refine ev_b2 (t := 78) (p' := 71) rfl rfl rfl (if_neg c_7) ?_
                refine ev_x (i := .iload_n 2) (len := 1) (p' := 72) (s' := [.int (gE (σ) 3 ((gI σ 2 2) : Int32).toNatClampNeg)]) rfl rfl (ld_i (vg_s (lv) 2 (.int (gE (σ) 3 ((gI σ 2 2) : Int32).toNatClampNeg)))) ?_
                refine ev_x (i := .bipush 32) (len := 2) (p' := 74) (s' := [.int 32, .int (gE (σ) 3 ((gI σ 2 2) : Int32).toNatClampNeg)]) rfl rfl rfl ?_
                refine F_if H (fun c_8 H => ?_) (fun c_8 H => ?_)
                · refine ev_b2 (t := 78) (p' := 78) rfl rfl rfl (if_pos c_8) ?_
                  refine ev_x (i := .aload_n 0) (len := 1) (p' := 79) (s' := [.ref 2]) rfl rfl (ld_a (vg_o (i := 2) (v := .int (gE (σ) 3 ((gI σ 2 2) : Int32).toNatClampNeg)) g_0 (by decide) (Or.inl rfl))) ?_
                  refine ev_x (i := .dup) (len := 1) (p' := 80) (s' := [.ref 2, .ref 2]) rfl rfl rfl ?_
                  refine ev_gi (p' := 83) (v := (gI σ 2 2)) rfl rfl rfl ly_2 rfl rfl rfl ?_
                  refine ev_x (i := .iconst 1) (len := 1) (p' := 84) (s' := [.int 1, .int (gI σ 2 2), .ref 2]) rfl rfl rfl ?_
                  refine ev_x (i := .iadd) (len := 1) (p' := 85) (s' := [.int ((gI σ 2 2) + 1), .ref 2]) rfl rfl rfl ?_
                  refine ev_pi (p' := 88) rfl rfl rfl ly_2 rfl rfl rfl rfl ?_
                  refine ev_x (i := .goto (-86)) (len := 3) (p' := 2) (s' := []) rfl rfl rfl ?_
                  exact ih _ _ _ _ (vg_o (i := 2) (v := .int (gE (σ) 3 ((gI σ 2 2) : Int32).toNatClampNeg)) g_0 (by decide) (Or.inl rfl)) (vg_o (i := 2) (v := .int (gE (σ) 3 ((gI σ 2 2) : Int32).toNatClampNeg)) g_1 (by decide) (Or.inl rfl)) (nb_s1 hnb rfl)  H
                · refine ev_b2 (t := 78) (p' := 77) rfl rfl rfl (if_neg c_8) ?_
                  obtain rfl := Option.some.inj H
                  exact ev_vret rfl rfl rfl
      · refine ev_b0 (t := 42) (p' := 27) rfl rfl rfl (if_neg c_3) ?_
        refine ev_x (i := .iload_n 2) (len := 1) (p' := 28) (s' := [.int (gE (σ) 3 ((gI σ 2 2) : Int32).toNatClampNeg)]) rfl rfl (ld_i (vg_s (lv) 2 (.int (gE (σ) 3 ((gI σ 2 2) : Int32).toNatClampNeg)))) ?_
        refine ev_x (i := .bipush 10) (len := 2) (p' := 30) (s' := [.int 10, .int (gE (σ) 3 ((gI σ 2 2) : Int32).toNatClampNeg)]) rfl rfl rfl ?_
        refine F_jn (A := vz_ev P0 (d + 1) 18 38 (vz_s1 (lv) 2 (.int (gE (σ) 3 ((gI σ 2 2) : Int32).toNatClampNeg))) [.int (if (gE (σ) 3 ((gI σ 2 2) : Int32).toNatClampNeg) = 10 then 0 else 1 : Int32)] (hp (σ)) (.inl none, hp p)) ?_ (fun J => ?_)
        · refine ev_x (i := .istore_n 1) (len := 1) (p' := 39) (s' := []) (l' := vz_s1 (vz_s1 (lv) 2 (.int (gE (σ) 3 ((gI σ 2 2) : Int32).toNatClampNeg))) 1 (.int (if (gE (σ) 3 ((gI σ 2 2) : Int32).toNatClampNeg) = 10 then 0 else 1 : Int32))) rfl rfl rfl ?_
          refine ev_x (i := .goto 39) (len := 3) (p' := 78) (s' := []) rfl rfl rfl ?_
          refine ev_x (i := .aload_n 0) (len := 1) (p' := 79) (s' := [.ref 2]) rfl rfl (ld_a (vg_o (i := 1) (v := .int (if (gE (σ) 3 ((gI σ 2 2) : Int32).toNatClampNeg) = 10 then 0 else 1 : Int32)) (vg_o (i := 2) (v := .int (gE (σ) 3 ((gI σ 2 2) : Int32).toNatClampNeg)) g_0 (by decide) (Or.inl rfl)) (by decide) (Or.inl rfl))) ?_
          refine ev_x (i := .dup) (len := 1) (p' := 80) (s' := [.ref 2, .ref 2]) rfl rfl rfl ?_
          refine ev_gi (p' := 83) (v := (gI σ 2 2)) rfl rfl rfl ly_2 rfl rfl rfl ?_
          refine ev_x (i := .iconst 1) (len := 1) (p' := 84) (s' := [.int 1, .int (gI σ 2 2), .ref 2]) rfl rfl rfl ?_
          refine ev_x (i := .iadd) (len := 1) (p' := 85) (s' := [.int ((gI σ 2 2) + 1), .ref 2]) rfl rfl rfl ?_
          refine ev_pi (p' := 88) rfl rfl rfl ly_2 rfl rfl rfl rfl ?_
          refine ev_x (i := .goto (-86)) (len := 3) (p' := 2) (s' := []) rfl rfl rfl ?_
          exact ih _ _ _ _ (vg_o (i := 1) (v := .int (if (gE (σ) 3 ((gI σ 2 2) : Int32).toNatClampNeg) = 10 then 0 else 1 : Int32)) (vg_o (i := 2) (v := .int (gE (σ) 3 ((gI σ 2 2) : Int32).toNatClampNeg)) g_0 (by decide) (Or.inl rfl)) (by decide) (Or.inl rfl)) (vg_s (vz_s1 (lv) 2 (.int (gE (σ) 3 ((gI σ 2 2) : Int32).toNatClampNeg))) 1 (.int (if (gE (σ) 3 ((gI σ 2 2) : Int32).toNatClampNeg) = 10 then 0 else 1 : Int32))) (nb_s1 (nb_s1 hnb rfl) rfl)  H
        · by_cases c_9 : (gE (σ) 3 ((gI σ 2 2) : Int32).toNatClampNeg) = 10
          · refine ev_b2 (t := 37) (p' := 37) rfl rfl rfl (if_pos c_9) ?_
            refine ev_x (i := .iconst 0) (len := 1) (p' := 38) (s' := [.int 0]) rfl rfl rfl ?_
            exact ev_st (congrArg (fun z => Value.int z :: []) (by rw [if_pos c_9])) J
          · refine ev_b2 (t := 37) (p' := 33) rfl rfl rfl (if_neg c_9) ?_
            refine ev_x (i := .iconst 1) (len := 1) (p' := 34) (s' := [.int 1]) rfl rfl rfl ?_
            refine ev_x (i := .goto 4) (len := 3) (p' := 38) (s' := [.int 1]) rfl rfl rfl ?_
            exact ev_st (congrArg (fun z => Value.int z :: []) (by rw [if_neg c_9])) J
/-- GameText$Words.skipBlanks()V -/
def F_18 (N : Nat) (σ : st_S) : Option (st_S) :=
  L_18 N N 0 (σ)
set_option maxRecDepth 100000 in
theorem F_18_R {N : Nat} {σ : st_S} {p : st_S} (H : F_18 N σ = some p) : gR p = gR σ := by
  unfold F_18 at H
  exact (((L_18_R _ _ _ _ H)).trans rfl)
set_option maxHeartbeats 4000000 in
set_option maxRecDepth 100000 in
theorem F_18_ok {N d : Nat} {σ : st_S} {p : st_S}  (H : F_18 N σ = some p) : vz_ev P0 (d + 1) 18 0 (lv_args 0 [.ref 2]) [] (hp σ) (.inl none, hp p) := by
  unfold F_18 at H
  refine ev_x (i := .iconst 0) (len := 1) (p' := 1) (s' := [.int 0]) rfl rfl rfl ?_
  refine ev_x (i := .istore_n 1) (len := 1) (p' := 2) (s' := []) (l' := [(1, .int 0), (0, .ref 2)]) rfl rfl rfl ?_
  exact (L_18_ok (d := d) N) _ _ _ _ rfl rfl rfl  H
/-- GameText$Words.next()V -/
def F_17 (N : Nat) (σ : st_S) : Option (st_S) :=
  (F_18 N (σ)).bind fun p_1 =>
  if (gI p_1 2 2) < (gI p_1 2 1) then
    if aB (gI p_1 2 2) (gN p_1 3) then
    (F_19 N (gE (p_1) 3 ((gI p_1 2 2) : Int32).toNatClampNeg) (st_i (p_1) 2 4 (gI p_1 2 2))).bind fun p_4 =>
    if p_4.1 = 0 then
      if aB (gI p_4.2 2 2) (gN p_4.2 3) then
      (F_21 N (gE (p_4.2) 3 ((gI p_4.2 2 2) : Int32).toNatClampNeg) (p_4.2)).bind fun p_7 =>
      if p_7.1 = 0 then
        if aB (gI p_7.2 2 2) (gN p_7.2 3) then
        (F_25 N (gE (p_7.2) 3 ((gI p_7.2 2 2) : Int32).toNatClampNeg) (p_7.2)).bind fun p_10 =>
        some (p_10)
        else none
      else
        (F_24 N (p_7.2)).bind fun p_11 =>
        some (p_11)
      else none
    else
      (F_20 N (p_4.2)).bind fun p_12 =>
      some (p_12)
    else none
  else
    some (st_i (st_i (p_1) 2 4 (gI p_1 2 2)) 2 3 264)
set_option maxRecDepth 100000 in
theorem F_17_R {N : Nat} {σ : st_S} {p : st_S} (H : F_17 N σ = some p) : gR p = gR σ := by
  unfold F_17 at H
  obtain ⟨p_1, G_1, H⟩ := F_bd H
  refine F_if H (fun _ H => ?_) (fun _ H => ?_)
  · obtain ⟨_, H⟩ := F_gd H
    obtain ⟨p_4, G_4, H⟩ := F_bd H
    refine F_if H (fun _ H => ?_) (fun _ H => ?_)
    · obtain ⟨_, H⟩ := F_gd H
      obtain ⟨p_7, G_7, H⟩ := F_bd H
      refine F_if H (fun _ H => ?_) (fun _ H => ?_)
      · obtain ⟨_, H⟩ := F_gd H
        obtain ⟨p_10, G_10, H⟩ := F_bd H
        obtain rfl := Option.some.inj H
        exact ((F_25_R G_10).trans ((F_21_R G_7).trans ((F_19_R G_4).trans ((F_18_R G_1).trans rfl))))
      · obtain ⟨p_11, G_11, H⟩ := F_bd H
        obtain rfl := Option.some.inj H
        exact ((F_24_R G_11).trans ((F_21_R G_7).trans ((F_19_R G_4).trans ((F_18_R G_1).trans rfl))))
    · obtain ⟨p_12, G_12, H⟩ := F_bd H
      obtain rfl := Option.some.inj H
      exact ((F_20_R G_12).trans ((F_19_R G_4).trans ((F_18_R G_1).trans rfl)))
  · obtain rfl := Option.some.inj H
    exact ((F_18_R G_1).trans rfl)
set_option maxHeartbeats 4000000 in
set_option maxRecDepth 100000 in
theorem F_17_ok {N d : Nat} {σ : st_S} {p : st_S}  (H : F_17 N σ = some p) : vz_ev P0 (d + 11) 17 0 (lv_args 0 [.ref 2]) [] (hp σ) (.inl none, hp p) := by
  unfold F_17 at H
  refine ev_x (i := .aload_n 0) (len := 1) (p' := 1) (s' := [.ref 2]) rfl rfl rfl ?_
  obtain ⟨p_1, G_1, H⟩ := F_bd H
  refine ev_cv (d := d + 10) (As := []) (a := 2) (p' := 4) rfl rfl rfl ly_2 rfl rfl rfl rfl rfl rfl rfl (F_18_ok (d := d + 9)   G_1) ?_
  refine ev_st (st' := []) rfl ?_
  have e_1 := F_18_R G_1
  refine ev_x (i := .aload_n 0) (len := 1) (p' := 5) (s' := [.ref 2]) rfl rfl rfl ?_
  refine ev_x (i := .aload_n 0) (len := 1) (p' := 6) (s' := [.ref 2, .ref 2]) rfl rfl rfl ?_
  refine ev_gi (p' := 9) (v := (gI p_1 2 2)) rfl rfl rfl ly_2 rfl rfl rfl ?_
  refine ev_pi (p' := 12) rfl rfl rfl ly_2 rfl rfl rfl rfl ?_
  refine ev_x (i := .aload_n 0) (len := 1) (p' := 13) (s' := [.ref 2]) rfl rfl rfl ?_
  refine ev_gi (p' := 16) (v := (gI p_1 2 2)) rfl rfl rfl ly_2 rfl rfl rfl ?_
  refine ev_x (i := .aload_n 0) (len := 1) (p' := 17) (s' := [.ref 2, .int (gI p_1 2 2)]) rfl rfl rfl ?_
  refine ev_gi (p' := 20) (v := (gI p_1 2 1)) rfl rfl rfl ly_2 rfl rfl rfl ?_
  refine F_if H (fun c_2 H => ?_) (fun c_2 H => ?_)
  · refine ev_b2 (t := 33) (p' := 33) rfl rfl rfl (if_pos c_2) ?_
    refine ev_x (i := .aload_n 0) (len := 1) (p' := 34) (s' := [.ref 2]) rfl rfl rfl ?_
    refine ev_gc (p' := 37) (v := 3) rfl rfl rfl ly_2 rfl rfl ?_
    refine ev_x (i := .aload_n 0) (len := 1) (p' := 38) (s' := [.ref 2, .ref 3]) rfl rfl rfl ?_
    refine ev_gi (p' := 41) (v := (gI p_1 2 2)) rfl rfl rfl ly_2 rfl rfl rfl ?_
    obtain ⟨b_3, H⟩ := F_gd H
    refine ev_ga (p' := 42) (v := (gE (p_1) 3 ((gI p_1 2 2) : Int32).toNatClampNeg)) rfl rfl ly_3 rfl (gd_in b_3) rfl ?_
    obtain ⟨p_4, G_4, H⟩ := F_bd H
    refine ev_callS (d := d + 10) (As := [.int (gE (p_1) 3 ((gI p_1 2 2) : Int32).toNatClampNeg)]) rfl rfl rfl (by decide) rfl rfl rfl rfl rfl (F_19_ok (d := d + 9)   G_4) ?_
    refine ev_st (st' := [.int p_4.1]) rfl ?_
    refine ev_pc (pc' := 45) rfl ?_
    have e_4 := F_19_R G_4
    refine F_if H (fun c_5 H => ?_) (fun c_5 H => ?_)
    · refine ev_b0 (t := 55) (p' := 55) rfl rfl rfl (if_pos c_5) ?_
      refine ev_x (i := .aload_n 0) (len := 1) (p' := 56) (s' := [.ref 2]) rfl rfl rfl ?_
      refine ev_gc (p' := 59) (v := 3) rfl rfl rfl ly_2 rfl rfl ?_
      refine ev_x (i := .aload_n 0) (len := 1) (p' := 60) (s' := [.ref 2, .ref 3]) rfl rfl rfl ?_
      refine ev_gi (p' := 63) (v := (gI p_4.2 2 2)) rfl rfl rfl ly_2 rfl rfl rfl ?_
      obtain ⟨b_6, H⟩ := F_gd H
      refine ev_ga (p' := 64) (v := (gE (p_4.2) 3 ((gI p_4.2 2 2) : Int32).toNatClampNeg)) rfl rfl ly_3 rfl (gd_in b_6) rfl ?_
      obtain ⟨p_7, G_7, H⟩ := F_bd H
      refine ev_callS (d := d + 10) (As := [.int (gE (p_4.2) 3 ((gI p_4.2 2 2) : Int32).toNatClampNeg)]) rfl rfl rfl (by decide) rfl rfl rfl rfl rfl (F_21_ok (d := d + 9)   G_7) ?_
      refine ev_st (st' := [.int p_7.1]) rfl ?_
      refine ev_pc (pc' := 67) rfl ?_
      have e_7 := F_21_R G_7
      refine F_if H (fun c_8 H => ?_) (fun c_8 H => ?_)
      · refine ev_b0 (t := 77) (p' := 77) rfl rfl rfl (if_pos c_8) ?_
        refine ev_x (i := .aload_n 0) (len := 1) (p' := 78) (s' := [.ref 2]) rfl rfl rfl ?_
        refine ev_x (i := .aload_n 0) (len := 1) (p' := 79) (s' := [.ref 2, .ref 2]) rfl rfl rfl ?_
        refine ev_gc (p' := 82) (v := 3) rfl rfl rfl ly_2 rfl rfl ?_
        refine ev_x (i := .aload_n 0) (len := 1) (p' := 83) (s' := [.ref 2, .ref 3, .ref 2]) rfl rfl rfl ?_
        refine ev_gi (p' := 86) (v := (gI p_7.2 2 2)) rfl rfl rfl ly_2 rfl rfl rfl ?_
        obtain ⟨b_9, H⟩ := F_gd H
        refine ev_ga (p' := 87) (v := (gE (p_7.2) 3 ((gI p_7.2 2 2) : Int32).toNatClampNeg)) rfl rfl ly_3 rfl (gd_in b_9) rfl ?_
        obtain ⟨p_10, G_10, H⟩ := F_bd H
        refine ev_cv (d := d + 10) (As := [.int (gE (p_7.2) 3 ((gI p_7.2 2 2) : Int32).toNatClampNeg)]) (a := 2) (p' := 90) rfl rfl rfl ly_2 rfl rfl rfl rfl rfl rfl rfl (F_25_ok (d := d + 2)   G_10) ?_
        refine ev_st (st' := []) rfl ?_
        have e_10 := F_25_R G_10
        obtain rfl := Option.some.inj H
        exact ev_vret rfl rfl rfl
      · refine ev_b0 (t := 77) (p' := 70) rfl rfl rfl (if_neg c_8) ?_
        refine ev_x (i := .aload_n 0) (len := 1) (p' := 71) (s' := [.ref 2]) rfl rfl rfl ?_
        obtain ⟨p_11, G_11, H⟩ := F_bd H
        refine ev_cv (d := d + 10) (As := []) (a := 2) (p' := 74) rfl rfl rfl ly_2 rfl rfl rfl rfl rfl rfl rfl (F_24_ok (d := d + 8)   G_11) ?_
        refine ev_st (st' := []) rfl ?_
        have e_11 := F_24_R G_11
        refine ev_x (i := .goto 16) (len := 3) (p' := 90) (s' := []) rfl rfl rfl ?_
        obtain rfl := Option.some.inj H
        exact ev_vret rfl rfl rfl
    · refine ev_b0 (t := 55) (p' := 48) rfl rfl rfl (if_neg c_5) ?_
      refine ev_x (i := .aload_n 0) (len := 1) (p' := 49) (s' := [.ref 2]) rfl rfl rfl ?_
      obtain ⟨p_12, G_12, H⟩ := F_bd H
      refine ev_cv (d := d + 10) (As := []) (a := 2) (p' := 52) rfl rfl rfl ly_2 rfl rfl rfl rfl rfl rfl rfl (F_20_ok (d := d + 0)   G_12) ?_
      refine ev_st (st' := []) rfl ?_
      have e_12 := F_20_R G_12
      refine ev_x (i := .goto 38) (len := 3) (p' := 90) (s' := []) rfl rfl rfl ?_
      obtain rfl := Option.some.inj H
      exact ev_vret rfl rfl rfl
  · refine ev_b2 (t := 33) (p' := 23) rfl rfl rfl (if_neg c_2) ?_
    refine ev_x (i := .aload_n 0) (len := 1) (p' := 24) (s' := [.ref 2]) rfl rfl rfl ?_
    refine ev_x (i := .sipush 264) (len := 3) (p' := 27) (s' := [.int 264, .ref 2]) rfl rfl rfl ?_
    refine ev_pi (p' := 30) rfl rfl rfl ly_2 rfl rfl rfl rfl ?_
    refine ev_x (i := .goto 60) (len := 3) (p' := 90) (s' := []) rfl rfl rfl ?_
    obtain rfl := Option.some.inj H
    exact ev_vret rfl rfl rfl
