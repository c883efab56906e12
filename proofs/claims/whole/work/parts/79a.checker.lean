/-! methods as functions of the store. Written by wip/prog/dec2.py, gen_all.py -/
/-- GameText$Text.clear()V -/
def F_54 (N : Nat) (t : Nat) (σ : st_S) : Option (st_S) :=
  some (st_i (st_i (st_i (st_i (st_i (σ) t 7 0) t 8 0) t 9 0) t 10 0) t 11 (-1))
set_option maxRecDepth 100000 in
theorem F_54_R {N : Nat} {t : Nat} {σ : st_S} {p : st_S} (H : F_54 N t σ = some p) : gR p = gR σ := by
  unfold F_54 at H
  obtain rfl := Option.some.inj H
  exact rfl
set_option maxHeartbeats 4000000 in
set_option maxRecDepth 100000 in
theorem F_54_ok {N d : Nat} {t : Nat} (ht : t = 4 ∨ t = 20) {σ : st_S} {p : st_S}  (H : F_54 N t σ = some p) : vz_ev P0 (d + 1) 54 0 (lv_args 0 [.ref t]) [] (hp σ) (.inl none, hp p) := by
  unfold F_54 at H
  rcases ht with rfl | rfl
  · refine ev_x (i := .aload_n 0) (len := 1) (p' := 1) (s' := [.ref 4]) rfl rfl rfl ?_
    refine ev_x (i := .iconst 0) (len := 1) (p' := 2) (s' := [.int 0, .ref 4]) rfl rfl rfl ?_
    refine ev_pi (p' := 5) rfl rfl rfl ly_4 rfl rfl rfl rfl ?_
    refine ev_x (i := .aload_n 0) (len := 1) (p' := 6) (s' := [.ref 4]) rfl rfl rfl ?_
    refine ev_x (i := .iconst 0) (len := 1) (p' := 7) (s' := [.int 0, .ref 4]) rfl rfl rfl ?_
    refine ev_pi (p' := 10) rfl rfl rfl ly_4 rfl rfl rfl rfl ?_
    refine ev_x (i := .aload_n 0) (len := 1) (p' := 11) (s' := [.ref 4]) rfl rfl rfl ?_
    refine ev_x (i := .iconst 0) (len := 1) (p' := 12) (s' := [.int 0, .ref 4]) rfl rfl rfl ?_
    refine ev_pi (p' := 15) rfl rfl rfl ly_4 rfl rfl rfl rfl ?_
    refine ev_x (i := .aload_n 0) (len := 1) (p' := 16) (s' := [.ref 4]) rfl rfl rfl ?_
    refine ev_x (i := .iconst 0) (len := 1) (p' := 17) (s' := [.int 0, .ref 4]) rfl rfl rfl ?_
    refine ev_pi (p' := 20) rfl rfl rfl ly_4 rfl rfl rfl rfl ?_
    refine ev_x (i := .aload_n 0) (len := 1) (p' := 21) (s' := [.ref 4]) rfl rfl rfl ?_
    refine ev_x (i := .iconst (-1)) (len := 1) (p' := 22) (s' := [.int (-1), .ref 4]) rfl rfl rfl ?_
    refine ev_pi (p' := 25) rfl rfl rfl ly_4 rfl rfl rfl rfl ?_
    obtain rfl := Option.some.inj H
    exact ev_vret rfl rfl rfl
  · refine ev_x (i := .aload_n 0) (len := 1) (p' := 1) (s' := [.ref 20]) rfl rfl rfl ?_
    refine ev_x (i := .iconst 0) (len := 1) (p' := 2) (s' := [.int 0, .ref 20]) rfl rfl rfl ?_
    refine ev_pi (p' := 5) rfl rfl rfl ly_20 rfl rfl rfl rfl ?_
    refine ev_x (i := .aload_n 0) (len := 1) (p' := 6) (s' := [.ref 20]) rfl rfl rfl ?_
    refine ev_x (i := .iconst 0) (len := 1) (p' := 7) (s' := [.int 0, .ref 20]) rfl rfl rfl ?_
    refine ev_pi (p' := 10) rfl rfl rfl ly_20 rfl rfl rfl rfl ?_
    refine ev_x (i := .aload_n 0) (len := 1) (p' := 11) (s' := [.ref 20]) rfl rfl rfl ?_
    refine ev_x (i := .iconst 0) (len := 1) (p' := 12) (s' := [.int 0, .ref 20]) rfl rfl rfl ?_
    refine ev_pi (p' := 15) rfl rfl rfl ly_20 rfl rfl rfl rfl ?_
    refine ev_x (i := .aload_n 0) (len := 1) (p' := 16) (s' := [.ref 20]) rfl rfl rfl ?_
    refine ev_x (i := .iconst 0) (len := 1) (p' := 17) (s' := [.int 0, .ref 20]) rfl rfl rfl ?_
    refine ev_pi (p' := 20) rfl rfl rfl ly_20 rfl rfl rfl rfl ?_
    refine ev_x (i := .aload_n 0) (len := 1) (p' := 21) (s' := [.ref 20]) rfl rfl rfl ?_
    refine ev_x (i := .iconst (-1)) (len := 1) (p' := 22) (s' := [.int (-1), .ref 20]) rfl rfl rfl ?_
    refine ev_pi (p' := 25) rfl rfl rfl ly_20 rfl rfl rfl rfl ?_
    obtain rfl := Option.some.inj H
    exact ev_vret rfl rfl rfl
/-- GameText$Names.isSame(III)Z, its loops -/
def L_60 (N : Nat) : Nat → Int32 → Int32 → Int32 → Int32 → st_S → Option (Int32 × st_S)
  | 0, _, _, _, _, _ => none
  | k + 1, l_1, l_2, l_3, l_4, σ =>
      if l_3 ≤ l_4 then
        some (1, σ)
      else
        if aB (l_1 + l_4) (gN σ 3) then
        if aB (l_2 + l_4) (gN σ 3) then
        if (gE (σ) 3 ((l_1 + l_4) : Int32).toNatClampNeg) = (gE (σ) 3 ((l_2 + l_4) : Int32).toNatClampNeg) then
          L_60 N k l_1 l_2 l_3 (l_4 + 1) (σ)
        else
          some (0, σ)
        else none
        else none
set_option maxRecDepth 100000 in
theorem L_60_R {N : Nat} : ∀ (k : Nat) (l_1 : Int32) (l_2 : Int32) (l_3 : Int32) (l_4 : Int32) (σ : st_S) (p : Int32 × st_S), L_60 N k l_1 l_2 l_3 l_4 σ = some p → gR p.2 = gR σ := by
  intro k
  induction k with
  | zero => intro l_1 l_2 l_3 l_4 σ p H; unfold L_60 at H; cases H
  | succ k ih =>
    intro l_1 l_2 l_3 l_4 σ p H
    unfold L_60 at H
    refine F_if H (fun _ H => ?_) (fun _ H => ?_)
    · obtain rfl := Option.some.inj H
      exact rfl
    · obtain ⟨_, H⟩ := F_gd H
      obtain ⟨_, H⟩ := F_gd H
      refine F_if H (fun _ H => ?_) (fun _ H => ?_)
      · exact (((ih _ _ _ _ _ _ H)).trans rfl)
      · obtain rfl := Option.some.inj H
        exact rfl
set_option maxHeartbeats 4000000 in
set_option maxRecDepth 100000 in
theorem L_60_ok {N d : Nat} : ∀ k : Nat, ∀ (l_1 : Int32) (l_2 : Int32) (l_3 : Int32) (l_4 : Int32) (σ : st_S) (lv : vz_L) (p : Int32 × st_S), vz_g lv 0 = some (.ref 47) → vz_g lv 1 = some (.int l_1) → vz_g lv 2 = some (.int l_2) → vz_g lv 3 = some (.int l_3) → vz_g lv 4 = some (.int l_4) → vz_nbL (vz_gr P0) lv = true → L_60 N k l_1 l_2 l_3 l_4 σ = some p → vz_ev P0 (d + 1) 60 3 lv [] (hp σ) (.inl (some (.int p.1)), hp p.2) := by
  intro k
  induction k with
  | zero => intro l_1 l_2 l_3 l_4 σ lv p g_0 g_1 g_2 g_3 g_4 hnb H; unfold L_60 at H; cases H
  | succ k ih =>
    intro l_1 l_2 l_3 l_4 σ lv p g_0 g_1 g_2 g_3 g_4 hnb H
    unfold L_60 at H
    refine ev_x (i := .iload 4) (len := 2) (p' := 5) (s' := [.int l_4]) rfl rfl (ld_i g_4) ?_
    refine ev_x (i := .iload_n 3) (len := 1) (p' := 6) (s' := [.int l_3, .int l_4]) rfl rfl (ld_i g_3) ?_
    refine F_if H (fun c_1 H => ?_) (fun c_1 H => ?_)
    · refine ev_b2 (t := 44) (p' := 44) rfl rfl rfl (if_pos c_1) ?_
      refine ev_x (i := .iconst 1) (len := 1) (p' := 45) (s' := [.int 1]) rfl rfl rfl ?_
      obtain rfl := Option.some.inj H
      exact ev_iret rfl rfl rfl rfl
    · refine ev_b2 (t := 44) (p' := 9) rfl rfl rfl (if_neg c_1) ?_
      refine ev_x (i := .aload_n 0) (len := 1) (p' := 10) (s' := [.ref 47]) rfl rfl (ld_a g_0) ?_
      refine ev_gc (p' := 13) (v := 2) rfl rfl rfl ly_47 rfl rfl ?_
      refine ev_gc (p' := 16) (v := 3) rfl rfl rfl ly_2 rfl rfl ?_
      refine ev_x (i := .iload_n 1) (len := 1) (p' := 17) (s' := [.int l_1, .ref 3]) rfl rfl (ld_i g_1) ?_
      refine ev_x (i := .iload 4) (len := 2) (p' := 19) (s' := [.int l_4, .int l_1, .ref 3]) rfl rfl (ld_i g_4) ?_
      refine ev_x (i := .iadd) (len := 1) (p' := 20) (s' := [.int (l_1 + l_4), .ref 3]) rfl rfl rfl ?_
      obtain ⟨b_2, H⟩ := F_gd H
      refine ev_ga (p' := 21) (v := (gE (σ) 3 ((l_1 + l_4) : Int32).toNatClampNeg)) rfl rfl ly_3 rfl (gd_in b_2) rfl ?_
      refine ev_x (i := .aload_n 0) (len := 1) (p' := 22) (s' := [.ref 47, .int (gE (σ) 3 ((l_1 + l_4) : Int32).toNatClampNeg)]) rfl rfl (ld_a g_0) ?_
      refine ev_gc (p' := 25) (v := 2) rfl rfl rfl ly_47 rfl rfl ?_
      refine ev_gc (p' := 28) (v := 3) rfl rfl rfl ly_2 rfl rfl ?_
      refine ev_x (i := .iload_n 2) (len := 1) (p' := 29) (s' := [.int l_2, .ref 3, .int (gE (σ) 3 ((l_1 + l_4) : Int32).toNatClampNeg)]) rfl rfl (ld_i g_2) ?_
      refine ev_x (i := .iload 4) (len := 2) (p' := 31) (s' := [.int l_4, .int l_2, .ref 3, .int (gE (σ) 3 ((l_1 + l_4) : Int32).toNatClampNeg)]) rfl rfl (ld_i g_4) ?_
      refine ev_x (i := .iadd) (len := 1) (p' := 32) (s' := [.int (l_2 + l_4), .ref 3, .int (gE (σ) 3 ((l_1 + l_4) : Int32).toNatClampNeg)]) rfl rfl rfl ?_
      obtain ⟨b_3, H⟩ := F_gd H
      refine ev_ga (p' := 33) (v := (gE (σ) 3 ((l_2 + l_4) : Int32).toNatClampNeg)) rfl rfl ly_3 rfl (gd_in b_3) rfl ?_
      refine F_if H (fun c_4 H => ?_) (fun c_4 H => ?_)
      · refine ev_b2 (t := 38) (p' := 38) rfl rfl rfl (if_pos c_4) ?_
        refine ev_x (i := .iinc 4 1) (len := 3) (p' := 41) (s' := []) (l' := vz_s1 (lv) 4 (.int (l_4 + 1))) rfl rfl (ld_inc g_4 rfl) ?_
        refine ev_x (i := .goto (-38)) (len := 3) (p' := 3) (s' := []) rfl rfl rfl ?_
        exact ih _ _ _ _ _ _ _ (vg_o (i := 4) (v := .int (l_4 + 1)) g_0 (by decide) (Or.inl rfl)) (vg_o (i := 4) (v := .int (l_4 + 1)) g_1 (by decide) (Or.inl rfl)) (vg_o (i := 4) (v := .int (l_4 + 1)) g_2 (by decide) (Or.inl rfl)) (vg_o (i := 4) (v := .int (l_4 + 1)) g_3 (by decide) (Or.inl rfl)) (vg_s (lv) 4 (.int (l_4 + 1))) (nb_s1 hnb rfl)  H
      · refine ev_b2 (t := 38) (p' := 36) rfl rfl rfl (if_neg c_4) ?_
        refine ev_x (i := .iconst 0) (len := 1) (p' := 37) (s' := [.int 0]) rfl rfl rfl ?_
        obtain rfl := Option.some.inj H
        exact ev_iret rfl rfl rfl rfl
/-- GameText$Names.isSame(III)Z -/
def F_60 (N : Nat) (x_1 : Int32) (x_2 : Int32) (x_3 : Int32) (σ : st_S) : Option (Int32 × st_S) :=
  L_60 N N x_1 x_2 x_3 0 (σ)
set_option maxRecDepth 100000 in
theorem F_60_R {N : Nat} {x_1 : Int32} {x_2 : Int32} {x_3 : Int32} {σ : st_S} {p : Int32 × st_S} (H : F_60 N x_1 x_2 x_3 σ = some p) : gR p.2 = gR σ := by
  unfold F_60 at H
  exact (((L_60_R _ _ _ _ _ _ _ H)).trans rfl)
set_option maxHeartbeats 4000000 in
set_option maxRecDepth 100000 in
theorem F_60_ok {N d : Nat} {x_1 : Int32} {x_2 : Int32} {x_3 : Int32} {σ : st_S} {p : Int32 × st_S}  (H : F_60 N x_1 x_2 x_3 σ = some p) : vz_ev P0 (d + 1) 60 0 (lv_args 0 [.ref 47, .int x_1, .int x_2, .int x_3]) [] (hp σ) (.inl (some (.int p.1)), hp p.2) := by
  unfold F_60 at H
  refine ev_x (i := .iconst 0) (len := 1) (p' := 1) (s' := [.int 0]) rfl rfl rfl ?_
  refine ev_x (i := .istore 4) (len := 2) (p' := 3) (s' := []) (l' := [(4, .int 0), (0, .ref 47), (1, .int x_1), (2, .int x_2), (3, .int x_3)]) rfl rfl rfl ?_
  exact (L_60_ok (d := d) N) _ _ _ _ _ _ _ rfl rfl rfl rfl rfl rfl  H
/-- GameText$Names.find(II)I, its loops -/
def L_59 (N : Nat) : Nat → Int32 → Int32 → Int32 → st_S → Option (Int32 × st_S)
  | 0, _, _, _, _ => none
  | k + 1, l_1, l_2, l_3, σ =>
      if (gI σ 47 5) ≤ l_3 then
        some ((-1), σ)
      else
        if aB l_3 (gN σ 49) then
        if (gE (σ) 49 (l_3 : Int32).toNatClampNeg) = l_2 then
          if aB l_3 (gN σ 48) then
          (F_60 N (gE (σ) 48 (l_3 : Int32).toNatClampNeg) l_1 l_2 (σ)).bind fun p_5 =>
          if p_5.1 = 0 then
            L_59 N k l_1 l_2 (l_3 + 1) (p_5.2)
          else
            some (l_3, p_5.2)
          else none
        else
          L_59 N k l_1 l_2 (l_3 + 1) (σ)
        else none
set_option maxRecDepth 100000 in
theorem L_59_R {N : Nat} : ∀ (k : Nat) (l_1 : Int32) (l_2 : Int32) (l_3 : Int32) (σ : st_S) (p : Int32 × st_S), L_59 N k l_1 l_2 l_3 σ = some p → gR p.2 = gR σ := by
  intro k
  induction k with
  | zero => intro l_1 l_2 l_3 σ p H; unfold L_59 at H; cases H
  | succ k ih =>
    intro l_1 l_2 l_3 σ p H
    unfold L_59 at H
    refine F_if H (fun _ H => ?_) (fun _ H => ?_)
    · obtain rfl := Option.some.inj H
      exact rfl
    · obtain ⟨_, H⟩ := F_gd H
      refine F_if H (fun _ H => ?_) (fun _ H => ?_)
      · obtain ⟨_, H⟩ := F_gd H
        obtain ⟨p_5, G_5, H⟩ := F_bd H
        refine F_if H (fun _ H => ?_) (fun _ H => ?_)
        · exact (((ih _ _ _ _ _ H)).trans ((F_60_R G_5).trans rfl))
        · obtain rfl := Option.some.inj H
          exact ((F_60_R G_5).trans rfl)
      · exact (((ih _ _ _ _ _ H)).trans rfl)
set_option maxHeartbeats 4000000 in
set_option maxRecDepth 100000 in
theorem L_59_ok {N d : Nat} : ∀ k : Nat, ∀ (l_1 : Int32) (l_2 : Int32) (l_3 : Int32) (σ : st_S) (lv : vz_L) (p : Int32 × st_S), vz_g lv 0 = some (.ref 47) → vz_g lv 1 = some (.int l_1) → vz_g lv 2 = some (.int l_2) → vz_g lv 3 = some (.int l_3) → vz_nbL (vz_gr P0) lv = true → L_59 N k l_1 l_2 l_3 σ = some p → vz_ev P0 (d + 2) 59 2 lv [] (hp σ) (.inl (some (.int p.1)), hp p.2) := by
  intro k
  induction k with
  | zero => intro l_1 l_2 l_3 σ lv p g_0 g_1 g_2 g_3 hnb H; unfold L_59 at H; cases H
  | succ k ih =>
    intro l_1 l_2 l_3 σ lv p g_0 g_1 g_2 g_3 hnb H
    unfold L_59 at H
    refine ev_x (i := .iload_n 3) (len := 1) (p' := 3) (s' := [.int l_3]) rfl rfl (ld_i g_3) ?_
    refine ev_x (i := .aload_n 0) (len := 1) (p' := 4) (s' := [.ref 47, .int l_3]) rfl rfl (ld_a g_0) ?_
    refine ev_gi (p' := 7) (v := (gI σ 47 5)) rfl rfl rfl ly_47 rfl rfl rfl ?_
    refine F_if H (fun c_1 H => ?_) (fun c_1 H => ?_)
    · refine ev_b2 (t := 43) (p' := 43) rfl rfl rfl (if_pos c_1) ?_
      refine ev_x (i := .iconst (-1)) (len := 1) (p' := 44) (s' := [.int (-1)]) rfl rfl rfl ?_
      obtain rfl := Option.some.inj H
      exact ev_iret rfl rfl rfl rfl
    · refine ev_b2 (t := 43) (p' := 10) rfl rfl rfl (if_neg c_1) ?_
      refine ev_x (i := .aload_n 0) (len := 1) (p' := 11) (s' := [.ref 47]) rfl rfl (ld_a g_0) ?_
      refine ev_gc (p' := 14) (v := 49) rfl rfl rfl ly_47 rfl rfl ?_
      refine ev_x (i := .iload_n 3) (len := 1) (p' := 15) (s' := [.int l_3, .ref 49]) rfl rfl (ld_i g_3) ?_
      obtain ⟨b_2, H⟩ := F_gd H
      refine ev_ga (p' := 16) (v := (gE (σ) 49 (l_3 : Int32).toNatClampNeg)) rfl rfl ly_49 rfl (gd_in b_2) rfl ?_
      refine ev_x (i := .iload_n 2) (len := 1) (p' := 17) (s' := [.int l_2, .int (gE (σ) 49 (l_3 : Int32).toNatClampNeg)]) rfl rfl (ld_i g_2) ?_
      refine F_if H (fun c_3 H => ?_) (fun c_3 H => ?_)
      · refine ev_b2 (t := 37) (p' := 20) rfl rfl rfl (if_neg (fun q => q c_3)) ?_
        refine ev_x (i := .aload_n 0) (len := 1) (p' := 21) (s' := [.ref 47]) rfl rfl (ld_a g_0) ?_
        refine ev_x (i := .aload_n 0) (len := 1) (p' := 22) (s' := [.ref 47, .ref 47]) rfl rfl (ld_a g_0) ?_
        refine ev_gc (p' := 25) (v := 48) rfl rfl rfl ly_47 rfl rfl ?_
        refine ev_x (i := .iload_n 3) (len := 1) (p' := 26) (s' := [.int l_3, .ref 48, .ref 47]) rfl rfl (ld_i g_3) ?_
        obtain ⟨b_4, H⟩ := F_gd H
        refine ev_ga (p' := 27) (v := (gE (σ) 48 (l_3 : Int32).toNatClampNeg)) rfl rfl ly_48 rfl (gd_in b_4) rfl ?_
        refine ev_x (i := .iload_n 1) (len := 1) (p' := 28) (s' := [.int l_1, .int (gE (σ) 48 (l_3 : Int32).toNatClampNeg), .ref 47]) rfl rfl (ld_i g_1) ?_
        refine ev_x (i := .iload_n 2) (len := 1) (p' := 29) (s' := [.int l_2, .int l_1, .int (gE (σ) 48 (l_3 : Int32).toNatClampNeg), .ref 47]) rfl rfl (ld_i g_2) ?_
        obtain ⟨p_5, G_5, H⟩ := F_bd H
        refine ev_cv (d := d + 1) (As := [.int (gE (σ) 48 (l_3 : Int32).toNatClampNeg), .int l_1, .int l_2]) (a := 47) (p' := 32) rfl rfl rfl ly_47 rfl rfl rfl rfl rfl hnb rfl (F_60_ok (d := d + 0)   G_5) ?_
        refine ev_st (st' := [.int p_5.1]) rfl ?_
        have e_5 := F_60_R G_5
        refine F_if H (fun c_6 H => ?_) (fun c_6 H => ?_)
        · refine ev_b0 (t := 37) (p' := 37) rfl rfl rfl (if_pos c_6) ?_
          refine ev_x (i := .iinc 3 1) (len := 3) (p' := 40) (s' := []) (l' := vz_s1 (lv) 3 (.int (l_3 + 1))) rfl rfl (ld_inc g_3 rfl) ?_
          refine ev_x (i := .goto (-38)) (len := 3) (p' := 2) (s' := []) rfl rfl rfl ?_
          exact ih _ _ _ _ _ _ (vg_o (i := 3) (v := .int (l_3 + 1)) g_0 (by decide) (Or.inl rfl)) (vg_o (i := 3) (v := .int (l_3 + 1)) g_1 (by decide) (Or.inl rfl)) (vg_o (i := 3) (v := .int (l_3 + 1)) g_2 (by decide) (Or.inl rfl)) (vg_s (lv) 3 (.int (l_3 + 1))) (nb_s1 hnb rfl)  H
        · refine ev_b0 (t := 37) (p' := 35) rfl rfl rfl (if_neg c_6) ?_
          refine ev_x (i := .iload_n 3) (len := 1) (p' := 36) (s' := [.int l_3]) rfl rfl (ld_i g_3) ?_
          obtain rfl := Option.some.inj H
          exact ev_iret rfl rfl rfl rfl
      · refine ev_b2 (t := 37) (p' := 37) rfl rfl rfl (if_pos c_3) ?_
        refine ev_x (i := .iinc 3 1) (len := 3) (p' := 40) (s' := []) (l' := vz_s1 (lv) 3 (.int (l_3 + 1))) rfl rfl (ld_inc g_3 rfl) ?_
        refine ev_x (i := .goto (-38)) (len := 3) (p' := 2) (s' := []) rfl rfl rfl ?_
        exact ih _ _ _ _ _ _ (vg_o (i := 3) (v := .int (l_3 + 1)) g_0 (by decide) (Or.inl rfl)) (vg_o (i := 3) (v := .int (l_3 + 1)) g_1 (by decide) (Or.inl rfl)) (vg_o (i := 3) (v := .int (l_3 + 1)) g_2 (by decide) (Or.inl rfl)) (vg_s (lv) 3 (.int (l_3 + 1))) (nb_s1 hnb rfl)  H
/-- GameText$Names.find(II)I -/
def F_59 (N : Nat) (x_1 : Int32) (x_2 : Int32) (σ : st_S) : Option (Int32 × st_S) :=
  L_59 N N x_1 x_2 0 (σ)
set_option maxRecDepth 100000 in
theorem F_59_R {N : Nat} {x_1 : Int32} {x_2 : Int32} {σ : st_S} {p : Int32 × st_S} (H : F_59 N x_1 x_2 σ = some p) : gR p.2 = gR σ := by
  unfold F_59 at H
  exact (((L_59_R _ _ _ _ _ _ H)).trans rfl)
set_option maxHeartbeats 4000000 in
set_option maxRecDepth 100000 in
theorem F_59_ok {N d : Nat} {x_1 : Int32} {x_2 : Int32} {σ : st_S} {p : Int32 × st_S}  (H : F_59 N x_1 x_2 σ = some p) : vz_ev P0 (d + 2) 59 0 (lv_args 0 [.ref 47, .int x_1, .int x_2]) [] (hp σ) (.inl (some (.int p.1)), hp p.2) := by
  unfold F_59 at H
  refine ev_x (i := .iconst 0) (len := 1) (p' := 1) (s' := [.int 0]) rfl rfl rfl ?_
  refine ev_x (i := .istore_n 3) (len := 1) (p' := 2) (s' := []) (l' := [(3, .int 0), (0, .ref 47), (1, .int x_1), (2, .int x_2)]) rfl rfl rfl ?_
  exact (L_59_ok (d := d) N) _ _ _ _ _ _ rfl rfl rfl rfl rfl  H
/-- GameText$Checker.fails(II)I -/
def F_61 (N : Nat) (x_1 : Int32) (x_2 : Int32) (σ : st_S) : Option (Int32 × st_S) :=
  some (x_1, st_i (σ) 46 4 x_2)
set_option maxRecDepth 100000 in
theorem F_61_R {N : Nat} {x_1 : Int32} {x_2 : Int32} {σ : st_S} {p : Int32 × st_S} (H : F_61 N x_1 x_2 σ = some p) : gR p.2 = gR σ := by
  unfold F_61 at H
  obtain rfl := Option.some.inj H
  exact rfl
set_option maxHeartbeats 4000000 in
set_option maxRecDepth 100000 in
theorem F_61_ok {N d : Nat} {x_1 : Int32} {x_2 : Int32} {σ : st_S} {p : Int32 × st_S}  (H : F_61 N x_1 x_2 σ = some p) : vz_ev P0 (d + 1) 61 0 (lv_args 0 [.ref 46, .int x_1, .int x_2]) [] (hp σ) (.inl (some (.int p.1)), hp p.2) := by
  unfold F_61 at H
  refine ev_x (i := .aload_n 0) (len := 1) (p' := 1) (s' := [.ref 46]) rfl rfl rfl ?_
  refine ev_x (i := .iload_n 2) (len := 1) (p' := 2) (s' := [.int x_2, .ref 46]) rfl rfl rfl ?_
  refine ev_pi (p' := 5) rfl rfl rfl ly_46 rfl rfl rfl rfl ?_
  refine ev_x (i := .iload_n 1) (len := 1) (p' := 6) (s' := [.int x_1]) rfl rfl rfl ?_
  obtain rfl := Option.some.inj H
  exact ev_iret rfl rfl rfl rfl
/-- GameText$Checker.kindOfFirst(I)I -/
def F_63 (N : Nat) (t : Nat) (x_1 : Int32) (σ : st_S) : Option (Int32 × st_S) :=
  if aB x_1 (gN σ (t + 4)) then
  if aB (gE (σ) (t + 4) (x_1 : Int32).toNatClampNeg) (gN σ (t + 7)) then
  some ((gE (σ) (t + 7) ((gE (σ) (t + 4) (x_1 : Int32).toNatClampNeg) : Int32).toNatClampNeg), σ)
  else none
  else none
set_option maxRecDepth 100000 in
theorem F_63_R {N : Nat} {t : Nat} {x_1 : Int32} {σ : st_S} {p : Int32 × st_S} (H : F_63 N t x_1 σ = some p) : gR p.2 = gR σ := by
  unfold F_63 at H
  obtain ⟨_, H⟩ := F_gd H
  obtain ⟨_, H⟩ := F_gd H
  obtain rfl := Option.some.inj H
  exact rfl
set_option maxHeartbeats 4000000 in
set_option maxRecDepth 100000 in
theorem F_63_ok {N d : Nat} {t : Nat} (ht : t = 4 ∨ t = 20) {x_1 : Int32} {σ : st_S} {p : Int32 × st_S} (hr_46_3 : gR σ 46 3 = (t + 1)) (H : F_63 N t x_1 σ = some p) : vz_ev P0 (d + 1) 63 0 (lv_args 0 [.ref 46, .int x_1]) [] (hp σ) (.inl (some (.int p.1)), hp p.2) := by
  unfold F_63 at H
  rcases ht with rfl | rfl
  · refine ev_x (i := .aload_n 0) (len := 1) (p' := 1) (s' := [.ref 46]) rfl rfl rfl ?_
    refine ev_gr (p' := 4) (v := 5) rfl rfl rfl ly_46 rfl rfl hr_46_3 ?_
    refine ev_gc (p' := 7) (v := 11) rfl rfl rfl ly_5 rfl rfl ?_
    refine ev_x (i := .aload_n 0) (len := 1) (p' := 8) (s' := [.ref 46, .ref 11]) rfl rfl rfl ?_
    refine ev_gr (p' := 11) (v := 5) rfl rfl rfl ly_46 rfl rfl hr_46_3 ?_
    refine ev_gc (p' := 14) (v := 8) rfl rfl rfl ly_5 rfl rfl ?_
    refine ev_x (i := .iload_n 1) (len := 1) (p' := 15) (s' := [.int x_1, .ref 8, .ref 11]) rfl rfl rfl ?_
    obtain ⟨b_1, H⟩ := F_gd H
    refine ev_ga (p' := 16) (v := (gE (σ) 8 (x_1 : Int32).toNatClampNeg)) rfl rfl ly_8 rfl (gd_in b_1) rfl ?_
    obtain ⟨b_2, H⟩ := F_gd H
    refine ev_ga (p' := 17) (v := (gE (σ) 11 ((gE (σ) 8 (x_1 : Int32).toNatClampNeg) : Int32).toNatClampNeg)) rfl rfl ly_11 rfl (gd_in b_2) rfl ?_
    obtain rfl := Option.some.inj H
    exact ev_iret rfl rfl rfl rfl
  · refine ev_x (i := .aload_n 0) (len := 1) (p' := 1) (s' := [.ref 46]) rfl rfl rfl ?_
    refine ev_gr (p' := 4) (v := 21) rfl rfl rfl ly_46 rfl rfl hr_46_3 ?_
    refine ev_gc (p' := 7) (v := 27) rfl rfl rfl ly_21 rfl rfl ?_
    refine ev_x (i := .aload_n 0) (len := 1) (p' := 8) (s' := [.ref 46, .ref 27]) rfl rfl rfl ?_
    refine ev_gr (p' := 11) (v := 21) rfl rfl rfl ly_46 rfl rfl hr_46_3 ?_
    refine ev_gc (p' := 14) (v := 24) rfl rfl rfl ly_21 rfl rfl ?_
    refine ev_x (i := .iload_n 1) (len := 1) (p' := 15) (s' := [.int x_1, .ref 24, .ref 27]) rfl rfl rfl ?_
    obtain ⟨b_1, H⟩ := F_gd H
    refine ev_ga (p' := 16) (v := (gE (σ) 24 (x_1 : Int32).toNatClampNeg)) rfl rfl ly_24 rfl (gd_in b_1) rfl ?_
    obtain ⟨b_2, H⟩ := F_gd H
    refine ev_ga (p' := 17) (v := (gE (σ) 27 ((gE (σ) 24 (x_1 : Int32).toNatClampNeg) : Int32).toNatClampNeg)) rfl rfl ly_27 rfl (gd_in b_2) rfl ?_
    obtain rfl := Option.some.inj H
    exact ev_iret rfl rfl rfl rfl
/-- GameText$Checker.looksAtName(I)I, from 96 -/
def J_58_96 (N : Nat) (t : Nat) (l_1 : Int32) (l_2 : Int32) (σ : st_S) : Option (Int32 × st_S) :=
  if aB l_2 (gN σ 51) then
  if aB l_2 (gN σ 50) then
  if (gE (σ) 50 (l_2 : Int32).toNatClampNeg) = 27 then
    (F_62 N t (gE (σ) 51 (l_2 : Int32).toNatClampNeg) l_1 (σ)).bind fun p_16 =>
    if aB l_1 (gN p_16 (t + 2)) then
    some (0, st_e (p_16) (t + 2) ((l_1 : Int32).toNatClampNeg) 0)
    else none
  else
    if (gE (σ) 50 (l_2 : Int32).toNatClampNeg) = 28 then
      if aB l_1 (gN σ (t + 2)) then
      if aB l_1 (gN σ (t + 4)) then
      if aB (gE (σ) 51 (l_2 : Int32).toNatClampNeg) (gN σ (t + 14)) then
      (F_63 N t (gE (σ) (t + 14) ((gE (σ) 51 (l_2 : Int32).toNatClampNeg) : Int32).toNatClampNeg) (st_e (st_e (σ) (t + 2) ((l_1 : Int32).toNatClampNeg) 3) (t + 4) ((l_1 : Int32).toNatClampNeg) (gE (σ) 51 (l_2 : Int32).toNatClampNeg))).bind fun p_22 =>
      if aB l_1 (gN p_22.2 (t + 7)) then
      some (0, st_e (p_22.2) (t + 7) ((l_1 : Int32).toNatClampNeg) p_22.1)
      else none
      else none
      else none
      else none
    else
      if aB l_1 (gN σ (t + 2)) then
      if aB l_1 (gN σ (t + 4)) then
      if aB (gE (σ) 51 (l_2 : Int32).toNatClampNeg) (gN σ (t + 13)) then
      if aB l_1 (gN σ (t + 7)) then
      some (0, st_e (st_e (st_e (σ) (t + 2) ((l_1 : Int32).toNatClampNeg) 2) (t + 4) ((l_1 : Int32).toNatClampNeg) (gE (σ) 51 (l_2 : Int32).toNatClampNeg)) (t + 7) ((l_1 : Int32).toNatClampNeg) (gE (σ) (t + 13) ((gE (σ) 51 (l_2 : Int32).toNatClampNeg) : Int32).toNatClampNeg))
      else none
      else none
      else none
      else none
  else none
  else none
set_option maxRecDepth 100000 in
theorem J_58_96_R {N : Nat} {t : Nat} {l_1 : Int32} {l_2 : Int32} {σ : st_S} {p : Int32 × st_S} (H : J_58_96 N t l_1 l_2 σ = some p) : gR p.2 = gR σ := by
  unfold J_58_96 at H
  obtain ⟨_, H⟩ := F_gd H
  obtain ⟨_, H⟩ := F_gd H
  refine F_if H (fun _ H => ?_) (fun _ H => ?_)
  · obtain ⟨p_16, G_16, H⟩ := F_bd H
    obtain ⟨_, H⟩ := F_gd H
    obtain rfl := Option.some.inj H
    exact ((F_62_R G_16).trans rfl)
  · refine F_if H (fun _ H => ?_) (fun _ H => ?_)
    · obtain ⟨_, H⟩ := F_gd H
      obtain ⟨_, H⟩ := F_gd H
      obtain ⟨_, H⟩ := F_gd H
      obtain ⟨p_22, G_22, H⟩ := F_bd H
      obtain ⟨_, H⟩ := F_gd H
      obtain rfl := Option.some.inj H
      exact ((F_63_R G_22).trans rfl)
    · obtain ⟨_, H⟩ := F_gd H
      obtain ⟨_, H⟩ := F_gd H
      obtain ⟨_, H⟩ := F_gd H
      obtain ⟨_, H⟩ := F_gd H
      obtain rfl := Option.some.inj H
      exact rfl
set_option maxHeartbeats 4000000 in
set_option maxRecDepth 100000 in
theorem J_58_96_ok {N d : Nat} {t : Nat} (ht : t = 4 ∨ t = 20) {l_1 : Int32} {l_2 : Int32} {σ : st_S} {lv : vz_L} {p : Int32 × st_S} (g_0 : vz_g lv 0 = some (.ref 46)) (g_1 : vz_g lv 1 = some (.int l_1)) (g_2 : vz_g lv 2 = some (.int l_2)) (hnb : vz_nbL (vz_gr P0) lv = true) (hr_46_2 : gR σ 46 2 = t) (hr_46_3 : gR σ 46 3 = (t + 1)) (H : J_58_96 N t l_1 l_2 σ = some p) : vz_ev P0 (d + 3) 58 96 lv [] (hp σ) (.inl (some (.int p.1)), hp p.2) := by
  unfold J_58_96 at H
  rcases ht with rfl | rfl
  · refine ev_x (i := .aload_n 0) (len := 1) (p' := 97) (s' := [.ref 46]) rfl rfl (ld_a g_0) ?_
    refine ev_gc (p' := 100) (v := 47) rfl rfl rfl ly_46 rfl rfl ?_
    refine ev_gc (p' := 103) (v := 51) rfl rfl rfl ly_47 rfl rfl ?_
    refine ev_x (i := .iload_n 2) (len := 1) (p' := 104) (s' := [.int l_2, .ref 51]) rfl rfl (ld_i g_2) ?_
    obtain ⟨b_13, H⟩ := F_gd H
    refine ev_ga (p' := 105) (v := (gE (σ) 51 (l_2 : Int32).toNatClampNeg)) rfl rfl ly_51 rfl (gd_in b_13) rfl ?_
    refine ev_x (i := .istore 5) (len := 2) (p' := 107) (s' := []) (l' := vz_s1 (lv) 5 (.int (gE (σ) 51 (l_2 : Int32).toNatClampNeg))) rfl rfl rfl ?_
    refine ev_x (i := .aload_n 0) (len := 1) (p' := 108) (s' := [.ref 46]) rfl rfl (ld_a (vg_o (i := 5) (v := .int (gE (σ) 51 (l_2 : Int32).toNatClampNeg)) g_0 (by decide) (Or.inl rfl))) ?_
    refine ev_gc (p' := 111) (v := 47) rfl rfl rfl ly_46 rfl rfl ?_
    refine ev_gc (p' := 114) (v := 50) rfl rfl rfl ly_47 rfl rfl ?_
    refine ev_x (i := .iload_n 2) (len := 1) (p' := 115) (s' := [.int l_2, .ref 50]) rfl rfl (ld_i (vg_o (i := 5) (v := .int (gE (σ) 51 (l_2 : Int32).toNatClampNeg)) g_2 (by decide) (Or.inl rfl))) ?_
    obtain ⟨b_14, H⟩ := F_gd H
    refine ev_ga (p' := 116) (v := (gE (σ) 50 (l_2 : Int32).toNatClampNeg)) rfl rfl ly_50 rfl (gd_in b_14) rfl ?_
    refine ev_x (i := .bipush 27) (len := 2) (p' := 118) (s' := [.int 27, .int (gE (σ) 50 (l_2 : Int32).toNatClampNeg)]) rfl rfl rfl ?_
    refine F_if H (fun c_15 H => ?_) (fun c_15 H => ?_)
    · refine ev_b2 (t := 144) (p' := 121) rfl rfl rfl (if_neg (fun q => q c_15)) ?_
      refine ev_x (i := .aload_n 0) (len := 1) (p' := 122) (s' := [.ref 46]) rfl rfl (ld_a (vg_o (i := 5) (v := .int (gE (σ) 51 (l_2 : Int32).toNatClampNeg)) g_0 (by decide) (Or.inl rfl))) ?_
      refine ev_gr (p' := 125) (v := 5) rfl rfl rfl ly_46 rfl rfl hr_46_3 ?_
      refine ev_x (i := .iload 5) (len := 2) (p' := 127) (s' := [.int (gE (σ) 51 (l_2 : Int32).toNatClampNeg), .ref 5]) rfl rfl (ld_i (vg_s (lv) 5 (.int (gE (σ) 51 (l_2 : Int32).toNatClampNeg)))) ?_
      refine ev_x (i := .iload_n 1) (len := 1) (p' := 128) (s' := [.int l_1, .int (gE (σ) 51 (l_2 : Int32).toNatClampNeg), .ref 5]) rfl rfl (ld_i (vg_o (i := 5) (v := .int (gE (σ) 51 (l_2 : Int32).toNatClampNeg)) g_1 (by decide) (Or.inl rfl))) ?_
      obtain ⟨p_16, G_16, H⟩ := F_bd H
      refine ev_cv (d := d + 2) (As := [.int (gE (σ) 51 (l_2 : Int32).toNatClampNeg), .int l_1]) (a := 5) (p' := 131) rfl rfl rfl ly_5 rfl rfl rfl rfl rfl (nb_s1 hnb rfl) rfl (F_62_ok (d := d + 1) (ht := (Or.inl rfl))  G_16) ?_
      refine ev_st (st' := []) rfl ?_
      have e_16 := F_62_R G_16
      refine ev_x (i := .aload_n 0) (len := 1) (p' := 132) (s' := [.ref 46]) rfl rfl (ld_a (vg_o (i := 5) (v := .int (gE (σ) 51 (l_2 : Int32).toNatClampNeg)) g_0 (by decide) (Or.inl rfl))) ?_
      refine ev_gr (p' := 135) (v := 5) rfl rfl rfl ly_46 rfl rfl ((congrFun (congrFun e_16 46) 3).trans hr_46_3) ?_
      refine ev_gc (p' := 138) (v := 6) rfl rfl rfl ly_5 rfl rfl ?_
      refine ev_x (i := .iload_n 1) (len := 1) (p' := 139) (s' := [.int l_1, .ref 6]) rfl rfl (ld_i (vg_o (i := 5) (v := .int (gE (σ) 51 (l_2 : Int32).toNatClampNeg)) g_1 (by decide) (Or.inl rfl))) ?_
      refine ev_x (i := .iconst 0) (len := 1) (p' := 140) (s' := [.int 0, .int l_1, .ref 6]) rfl rfl rfl ?_
      obtain ⟨b_17, H⟩ := F_gd H
      refine ev_pa (j := (l_1 : Int32).toNatClampNeg) (p' := 141) rfl rfl ly_6 rfl (gd_in b_17) rfl ?_
      refine ev_x (i := .goto 104) (len := 3) (p' := 245) (s' := []) rfl rfl rfl ?_
      refine ev_x (i := .iconst 0) (len := 1) (p' := 246) (s' := [.int 0]) rfl rfl rfl ?_
      obtain rfl := Option.some.inj H
      exact ev_iret rfl rfl rfl rfl
    · refine ev_b2 (t := 144) (p' := 144) rfl rfl rfl (if_pos c_15) ?_
      refine ev_x (i := .aload_n 0) (len := 1) (p' := 145) (s' := [.ref 46]) rfl rfl (ld_a (vg_o (i := 5) (v := .int (gE (σ) 51 (l_2 : Int32).toNatClampNeg)) g_0 (by decide) (Or.inl rfl))) ?_
      refine ev_gc (p' := 148) (v := 47) rfl rfl rfl ly_46 rfl rfl ?_
      refine ev_gc (p' := 151) (v := 50) rfl rfl rfl ly_47 rfl rfl ?_
      refine ev_x (i := .iload_n 2) (len := 1) (p' := 152) (s' := [.int l_2, .ref 50]) rfl rfl (ld_i (vg_o (i := 5) (v := .int (gE (σ) 51 (l_2 : Int32).toNatClampNeg)) g_2 (by decide) (Or.inl rfl))) ?_
      refine ev_ga (p' := 153) (v := (gE (σ) 50 (l_2 : Int32).toNatClampNeg)) rfl rfl ly_50 rfl (gd_in b_14) rfl ?_
      refine ev_x (i := .bipush 28) (len := 2) (p' := 155) (s' := [.int 28, .int (gE (σ) 50 (l_2 : Int32).toNatClampNeg)]) rfl rfl rfl ?_
      refine F_if H (fun c_18 H => ?_) (fun c_18 H => ?_)
      · refine ev_b2 (t := 205) (p' := 158) rfl rfl rfl (if_neg (fun q => q c_18)) ?_
        refine ev_x (i := .aload_n 0) (len := 1) (p' := 159) (s' := [.ref 46]) rfl rfl (ld_a (vg_o (i := 5) (v := .int (gE (σ) 51 (l_2 : Int32).toNatClampNeg)) g_0 (by decide) (Or.inl rfl))) ?_
        refine ev_gr (p' := 162) (v := 5) rfl rfl rfl ly_46 rfl rfl hr_46_3 ?_
        refine ev_gc (p' := 165) (v := 6) rfl rfl rfl ly_5 rfl rfl ?_
        refine ev_x (i := .iload_n 1) (len := 1) (p' := 166) (s' := [.int l_1, .ref 6]) rfl rfl (ld_i (vg_o (i := 5) (v := .int (gE (σ) 51 (l_2 : Int32).toNatClampNeg)) g_1 (by decide) (Or.inl rfl))) ?_
        refine ev_x (i := .iconst 3) (len := 1) (p' := 167) (s' := [.int 3, .int l_1, .ref 6]) rfl rfl rfl ?_
        obtain ⟨b_19, H⟩ := F_gd H
        refine ev_pa (j := (l_1 : Int32).toNatClampNeg) (p' := 168) rfl rfl ly_6 rfl (gd_in b_19) rfl ?_
        refine ev_x (i := .aload_n 0) (len := 1) (p' := 169) (s' := [.ref 46]) rfl rfl (ld_a (vg_o (i := 5) (v := .int (gE (σ) 51 (l_2 : Int32).toNatClampNeg)) g_0 (by decide) (Or.inl rfl))) ?_
        refine ev_gr (p' := 172) (v := 5) rfl rfl rfl ly_46 rfl rfl hr_46_3 ?_
        refine ev_gc (p' := 175) (v := 8) rfl rfl rfl ly_5 rfl rfl ?_
        refine ev_x (i := .iload_n 1) (len := 1) (p' := 176) (s' := [.int l_1, .ref 8]) rfl rfl (ld_i (vg_o (i := 5) (v := .int (gE (σ) 51 (l_2 : Int32).toNatClampNeg)) g_1 (by decide) (Or.inl rfl))) ?_
        refine ev_x (i := .iload 5) (len := 2) (p' := 178) (s' := [.int (gE (σ) 51 (l_2 : Int32).toNatClampNeg), .int l_1, .ref 8]) rfl rfl (ld_i (vg_s (lv) 5 (.int (gE (σ) 51 (l_2 : Int32).toNatClampNeg)))) ?_
        obtain ⟨b_20, H⟩ := F_gd H
        refine ev_pa (j := (l_1 : Int32).toNatClampNeg) (p' := 179) rfl rfl ly_8 rfl (gd_in b_20) rfl ?_
        refine ev_x (i := .aload_n 0) (len := 1) (p' := 180) (s' := [.ref 46]) rfl rfl (ld_a (vg_o (i := 5) (v := .int (gE (σ) 51 (l_2 : Int32).toNatClampNeg)) g_0 (by decide) (Or.inl rfl))) ?_
        refine ev_gr (p' := 183) (v := 5) rfl rfl rfl ly_46 rfl rfl hr_46_3 ?_
        refine ev_gc (p' := 186) (v := 11) rfl rfl rfl ly_5 rfl rfl ?_
        refine ev_x (i := .iload_n 1) (len := 1) (p' := 187) (s' := [.int l_1, .ref 11]) rfl rfl (ld_i (vg_o (i := 5) (v := .int (gE (σ) 51 (l_2 : Int32).toNatClampNeg)) g_1 (by decide) (Or.inl rfl))) ?_
        refine ev_x (i := .aload_n 0) (len := 1) (p' := 188) (s' := [.ref 46, .int l_1, .ref 11]) rfl rfl (ld_a (vg_o (i := 5) (v := .int (gE (σ) 51 (l_2 : Int32).toNatClampNeg)) g_0 (by decide) (Or.inl rfl))) ?_
        refine ev_x (i := .aload_n 0) (len := 1) (p' := 189) (s' := [.ref 46, .ref 46, .int l_1, .ref 11]) rfl rfl (ld_a (vg_o (i := 5) (v := .int (gE (σ) 51 (l_2 : Int32).toNatClampNeg)) g_0 (by decide) (Or.inl rfl))) ?_
        refine ev_gr (p' := 192) (v := 4) rfl rfl rfl ly_46 rfl rfl hr_46_2 ?_
        refine ev_gc (p' := 195) (v := 18) rfl rfl rfl ly_4 rfl rfl ?_
        refine ev_x (i := .iload 5) (len := 2) (p' := 197) (s' := [.int (gE (σ) 51 (l_2 : Int32).toNatClampNeg), .ref 18, .ref 46, .int l_1, .ref 11]) rfl rfl (ld_i (vg_s (lv) 5 (.int (gE (σ) 51 (l_2 : Int32).toNatClampNeg)))) ?_
        obtain ⟨b_21, H⟩ := F_gd H
        refine ev_ga (p' := 198) (v := (gE (σ) 18 ((gE (σ) 51 (l_2 : Int32).toNatClampNeg) : Int32).toNatClampNeg)) rfl rfl ly_18 rfl (gd_in b_21) rfl ?_
        obtain ⟨p_22, G_22, H⟩ := F_bd H
        refine ev_cv (d := d + 2) (As := [.int (gE (σ) 18 ((gE (σ) 51 (l_2 : Int32).toNatClampNeg) : Int32).toNatClampNeg)]) (a := 46) (p' := 201) rfl rfl rfl ly_46 rfl rfl rfl rfl rfl (nb_s1 hnb rfl) rfl (F_63_ok (d := d + 1) (ht := (Or.inl rfl)) (hr_46_3 := hr_46_3) G_22) ?_
        refine ev_st (st' := [.int p_22.1, .int l_1, .ref 11]) rfl ?_
        have e_22 := F_63_R G_22
        obtain ⟨b_23, H⟩ := F_gd H
        refine ev_pa (j := (l_1 : Int32).toNatClampNeg) (p' := 202) rfl rfl ly_11 rfl (gd_in b_23) rfl ?_
        refine ev_x (i := .goto 43) (len := 3) (p' := 245) (s' := []) rfl rfl rfl ?_
        refine ev_x (i := .iconst 0) (len := 1) (p' := 246) (s' := [.int 0]) rfl rfl rfl ?_
        obtain rfl := Option.some.inj H
        exact ev_iret rfl rfl rfl rfl
      · refine ev_b2 (t := 205) (p' := 205) rfl rfl rfl (if_pos c_18) ?_
        refine ev_x (i := .aload_n 0) (len := 1) (p' := 206) (s' := [.ref 46]) rfl rfl (ld_a (vg_o (i := 5) (v := .int (gE (σ) 51 (l_2 : Int32).toNatClampNeg)) g_0 (by decide) (Or.inl rfl))) ?_
        refine ev_gr (p' := 209) (v := 5) rfl rfl rfl ly_46 rfl rfl hr_46_3 ?_
        refine ev_gc (p' := 212) (v := 6) rfl rfl rfl ly_5 rfl rfl ?_
        refine ev_x (i := .iload_n 1) (len := 1) (p' := 213) (s' := [.int l_1, .ref 6]) rfl rfl (ld_i (vg_o (i := 5) (v := .int (gE (σ) 51 (l_2 : Int32).toNatClampNeg)) g_1 (by decide) (Or.inl rfl))) ?_
        refine ev_x (i := .iconst 2) (len := 1) (p' := 214) (s' := [.int 2, .int l_1, .ref 6]) rfl rfl rfl ?_
        obtain ⟨b_24, H⟩ := F_gd H
        refine ev_pa (j := (l_1 : Int32).toNatClampNeg) (p' := 215) rfl rfl ly_6 rfl (gd_in b_24) rfl ?_
        refine ev_x (i := .aload_n 0) (len := 1) (p' := 216) (s' := [.ref 46]) rfl rfl (ld_a (vg_o (i := 5) (v := .int (gE (σ) 51 (l_2 : Int32).toNatClampNeg)) g_0 (by decide) (Or.inl rfl))) ?_
        refine ev_gr (p' := 219) (v := 5) rfl rfl rfl ly_46 rfl rfl hr_46_3 ?_
        refine ev_gc (p' := 222) (v := 8) rfl rfl rfl ly_5 rfl rfl ?_
        refine ev_x (i := .iload_n 1) (len := 1) (p' := 223) (s' := [.int l_1, .ref 8]) rfl rfl (ld_i (vg_o (i := 5) (v := .int (gE (σ) 51 (l_2 : Int32).toNatClampNeg)) g_1 (by decide) (Or.inl rfl))) ?_
        refine ev_x (i := .iload 5) (len := 2) (p' := 225) (s' := [.int (gE (σ) 51 (l_2 : Int32).toNatClampNeg), .int l_1, .ref 8]) rfl rfl (ld_i (vg_s (lv) 5 (.int (gE (σ) 51 (l_2 : Int32).toNatClampNeg)))) ?_
        obtain ⟨b_25, H⟩ := F_gd H
        refine ev_pa (j := (l_1 : Int32).toNatClampNeg) (p' := 226) rfl rfl ly_8 rfl (gd_in b_25) rfl ?_
        refine ev_x (i := .aload_n 0) (len := 1) (p' := 227) (s' := [.ref 46]) rfl rfl (ld_a (vg_o (i := 5) (v := .int (gE (σ) 51 (l_2 : Int32).toNatClampNeg)) g_0 (by decide) (Or.inl rfl))) ?_
        refine ev_gr (p' := 230) (v := 5) rfl rfl rfl ly_46 rfl rfl hr_46_3 ?_
        refine ev_gc (p' := 233) (v := 11) rfl rfl rfl ly_5 rfl rfl ?_
        refine ev_x (i := .iload_n 1) (len := 1) (p' := 234) (s' := [.int l_1, .ref 11]) rfl rfl (ld_i (vg_o (i := 5) (v := .int (gE (σ) 51 (l_2 : Int32).toNatClampNeg)) g_1 (by decide) (Or.inl rfl))) ?_
        refine ev_x (i := .aload_n 0) (len := 1) (p' := 235) (s' := [.ref 46, .int l_1, .ref 11]) rfl rfl (ld_a (vg_o (i := 5) (v := .int (gE (σ) 51 (l_2 : Int32).toNatClampNeg)) g_0 (by decide) (Or.inl rfl))) ?_
        refine ev_gr (p' := 238) (v := 4) rfl rfl rfl ly_46 rfl rfl hr_46_2 ?_
        refine ev_gc (p' := 241) (v := 17) rfl rfl rfl ly_4 rfl rfl ?_
        refine ev_x (i := .iload 5) (len := 2) (p' := 243) (s' := [.int (gE (σ) 51 (l_2 : Int32).toNatClampNeg), .ref 17, .int l_1, .ref 11]) rfl rfl (ld_i (vg_s (lv) 5 (.int (gE (σ) 51 (l_2 : Int32).toNatClampNeg)))) ?_
        obtain ⟨b_26, H⟩ := F_gd H
        refine ev_ga (p' := 244) (v := (gE (σ) 17 ((gE (σ) 51 (l_2 : Int32).toNatClampNeg) : Int32).toNatClampNeg)) rfl rfl ly_17 rfl (gd_in b_26) rfl ?_
        obtain ⟨b_27, H⟩ := F_gd H
        refine ev_pa (j := (l_1 : Int32).toNatClampNeg) (p' := 245) rfl rfl ly_11 rfl (gd_in b_27) rfl ?_
        refine ev_x (i := .iconst 0) (len := 1) (p' := 246) (s' := [.int 0]) rfl rfl rfl ?_
        obtain rfl := Option.some.inj H
        exact ev_iret rfl rfl rfl rfl
  · refine ev_x (i := .aload_n 0) (len := 1) (p' := 97) (s' := [.ref 46]) rfl rfl (ld_a g_0) ?_
    refine ev_gc (p' := 100) (v := 47) rfl rfl rfl ly_46 rfl rfl ?_
    refine ev_gc (p' := 103) (v := 51) rfl rfl rfl ly_47 rfl rfl ?_
    refine ev_x (i := .iload_n 2) (len := 1) (p' := 104) (s' := [.int l_2, .ref 51]) rfl rfl (ld_i g_2) ?_
    obtain ⟨b_13, H⟩ := F_gd H
    refine ev_ga (p' := 105) (v := (gE (σ) 51 (l_2 : Int32).toNatClampNeg)) rfl rfl ly_51 rfl (gd_in b_13) rfl ?_
    refine ev_x (i := .istore 5) (len := 2) (p' := 107) (s' := []) (l' := vz_s1 (lv) 5 (.int (gE (σ) 51 (l_2 : Int32).toNatClampNeg))) rfl rfl rfl ?_
    refine ev_x (i := .aload_n 0) (len := 1) (p' := 108) (s' := [.ref 46]) rfl rfl (ld_a (vg_o (i := 5) (v := .int (gE (σ) 51 (l_2 : Int32).toNatClampNeg)) g_0 (by decide) (Or.inl rfl))) ?_
    refine ev_gc (p' := 111) (v := 47) rfl rfl rfl ly_46 rfl rfl ?_
    refine ev_gc (p' := 114) (v := 50) rfl rfl rfl ly_47 rfl rfl ?_
    refine ev_x (i := .iload_n 2) (len := 1) (p' := 115) (s' := [.int l_2, .ref 50]) rfl rfl (ld_i (vg_o (i := 5) (v := .int (gE (σ) 51 (l_2 : Int32).toNatClampNeg)) g_2 (by decide) (Or.inl rfl))) ?_
    obtain ⟨b_14, H⟩ := F_gd H
    refine ev_ga (p' := 116) (v := (gE (σ) 50 (l_2 : Int32).toNatClampNeg)) rfl rfl ly_50 rfl (gd_in b_14) rfl ?_
    refine ev_x (i := .bipush 27) (len := 2) (p' := 118) (s' := [.int 27, .int (gE (σ) 50 (l_2 : Int32).toNatClampNeg)]) rfl rfl rfl ?_
    refine F_if H (fun c_15 H => ?_) (fun c_15 H => ?_)
    · refine ev_b2 (t := 144) (p' := 121) rfl rfl rfl (if_neg (fun q => q c_15)) ?_
      refine ev_x (i := .aload_n 0) (len := 1) (p' := 122) (s' := [.ref 46]) rfl rfl (ld_a (vg_o (i := 5) (v := .int (gE (σ) 51 (l_2 : Int32).toNatClampNeg)) g_0 (by decide) (Or.inl rfl))) ?_
      refine ev_gr (p' := 125) (v := 21) rfl rfl rfl ly_46 rfl rfl hr_46_3 ?_
      refine ev_x (i := .iload 5) (len := 2) (p' := 127) (s' := [.int (gE (σ) 51 (l_2 : Int32).toNatClampNeg), .ref 21]) rfl rfl (ld_i (vg_s (lv) 5 (.int (gE (σ) 51 (l_2 : Int32).toNatClampNeg)))) ?_
      refine ev_x (i := .iload_n 1) (len := 1) (p' := 128) (s' := [.int l_1, .int (gE (σ) 51 (l_2 : Int32).toNatClampNeg), .ref 21]) rfl rfl (ld_i (vg_o (i := 5) (v := .int (gE (σ) 51 (l_2 : Int32).toNatClampNeg)) g_1 (by decide) (Or.inl rfl))) ?_
      obtain ⟨p_16, G_16, H⟩ := F_bd H
      refine ev_cv (d := d + 2) (As := [.int (gE (σ) 51 (l_2 : Int32).toNatClampNeg), .int l_1]) (a := 21) (p' := 131) rfl rfl rfl ly_21 rfl rfl rfl rfl rfl (nb_s1 hnb rfl) rfl (F_62_ok (d := d + 1) (ht := (Or.inr rfl))  G_16) ?_
      refine ev_st (st' := []) rfl ?_
      have e_16 := F_62_R G_16
      refine ev_x (i := .aload_n 0) (len := 1) (p' := 132) (s' := [.ref 46]) rfl rfl (ld_a (vg_o (i := 5) (v := .int (gE (σ) 51 (l_2 : Int32).toNatClampNeg)) g_0 (by decide) (Or.inl rfl))) ?_
      refine ev_gr (p' := 135) (v := 21) rfl rfl rfl ly_46 rfl rfl ((congrFun (congrFun e_16 46) 3).trans hr_46_3) ?_
      refine ev_gc (p' := 138) (v := 22) rfl rfl rfl ly_21 rfl rfl ?_
      refine ev_x (i := .iload_n 1) (len := 1) (p' := 139) (s' := [.int l_1, .ref 22]) rfl rfl (ld_i (vg_o (i := 5) (v := .int (gE (σ) 51 (l_2 : Int32).toNatClampNeg)) g_1 (by decide) (Or.inl rfl))) ?_
      refine ev_x (i := .iconst 0) (len := 1) (p' := 140) (s' := [.int 0, .int l_1, .ref 22]) rfl rfl rfl ?_
      obtain ⟨b_17, H⟩ := F_gd H
      refine ev_pa (j := (l_1 : Int32).toNatClampNeg) (p' := 141) rfl rfl ly_22 rfl (gd_in b_17) rfl ?_
      refine ev_x (i := .goto 104) (len := 3) (p' := 245) (s' := []) rfl rfl rfl ?_
      refine ev_x (i := .iconst 0) (len := 1) (p' := 246) (s' := [.int 0]) rfl rfl rfl ?_
      obtain rfl := Option.some.inj H
      exact ev_iret rfl rfl rfl rfl
    · refine ev_b2 (t := 144) (p' := 144) rfl rfl rfl (if_pos c_15) ?_
      refine ev_x (i := .aload_n 0) (len := 1) (p' := 145) (s' := [.ref 46]) rfl rfl (ld_a (vg_o (i := 5) (v := .int (gE (σ) 51 (l_2 : Int32).toNatClampNeg)) g_0 (by decide) (Or.inl rfl))) ?_
      refine ev_gc (p' := 148) (v := 47) rfl rfl rfl ly_46 rfl rfl ?_
      refine ev_gc (p' := 151) (v := 50) rfl rfl rfl ly_47 rfl rfl ?_
      refine ev_x (i := .iload_n 2) (len := 1) (p' := 152) (s' := [.int l_2, .ref 50]) rfl rfl (ld_i (vg_o (i := 5) (v := .int (gE (σ) 51 (l_2 : Int32).toNatClampNeg)) g_2 (by decide) (Or.inl rfl))) ?_
      refine ev_ga (p' := 153) (v := (gE (σ) 50 (l_2 : Int32).toNatClampNeg)) rfl rfl ly_50 rfl (gd_in b_14) rfl ?_
      refine ev_x (i := .bipush 28) (len := 2) (p' := 155) (s' := [.int 28, .int (gE (σ) 50 (l_2 : Int32).toNatClampNeg)]) rfl rfl rfl ?_
      refine F_if H (fun c_18 H => ?_) (fun c_18 H => ?_)
      · refine ev_b2 (t := 205) (p' := 158) rfl rfl rfl (if_neg (fun q => q c_18)) ?_
        refine ev_x (i := .aload_n 0) (len := 1) (p' := 159) (s' := [.ref 46]) rfl rfl (ld_a (vg_o (i := 5) (v := .int (gE (σ) 51 (l_2 : Int32).toNatClampNeg)) g_0 (by decide) (Or.inl rfl))) ?_
        refine ev_gr (p' := 162) (v := 21) rfl rfl rfl ly_46 rfl rfl hr_46_3 ?_
        refine ev_gc (p' := 165) (v := 22) rfl rfl rfl ly_21 rfl rfl ?_
        refine ev_x (i := .iload_n 1) (len := 1) (p' := 166) (s' := [.int l_1, .ref 22]) rfl rfl (ld_i (vg_o (i := 5) (v := .int (gE (σ) 51 (l_2 : Int32).toNatClampNeg)) g_1 (by decide) (Or.inl rfl))) ?_
        refine ev_x (i := .iconst 3) (len := 1) (p' := 167) (s' := [.int 3, .int l_1, .ref 22]) rfl rfl rfl ?_
        obtain ⟨b_19, H⟩ := F_gd H
        refine ev_pa (j := (l_1 : Int32).toNatClampNeg) (p' := 168) rfl rfl ly_22 rfl (gd_in b_19) rfl ?_
        refine ev_x (i := .aload_n 0) (len := 1) (p' := 169) (s' := [.ref 46]) rfl rfl (ld_a (vg_o (i := 5) (v := .int (gE (σ) 51 (l_2 : Int32).toNatClampNeg)) g_0 (by decide) (Or.inl rfl))) ?_
        refine ev_gr (p' := 172) (v := 21) rfl rfl rfl ly_46 rfl rfl hr_46_3 ?_
        refine ev_gc (p' := 175) (v := 24) rfl rfl rfl ly_21 rfl rfl ?_
        refine ev_x (i := .iload_n 1) (len := 1) (p' := 176) (s' := [.int l_1, .ref 24]) rfl rfl (ld_i (vg_o (i := 5) (v := .int (gE (σ) 51 (l_2 : Int32).toNatClampNeg)) g_1 (by decide) (Or.inl rfl))) ?_
        refine ev_x (i := .iload 5) (len := 2) (p' := 178) (s' := [.int (gE (σ) 51 (l_2 : Int32).toNatClampNeg), .int l_1, .ref 24]) rfl rfl (ld_i (vg_s (lv) 5 (.int (gE (σ) 51 (l_2 : Int32).toNatClampNeg)))) ?_
        obtain ⟨b_20, H⟩ := F_gd H
        refine ev_pa (j := (l_1 : Int32).toNatClampNeg) (p' := 179) rfl rfl ly_24 rfl (gd_in b_20) rfl ?_
        refine ev_x (i := .aload_n 0) (len := 1) (p' := 180) (s' := [.ref 46]) rfl rfl (ld_a (vg_o (i := 5) (v := .int (gE (σ) 51 (l_2 : Int32).toNatClampNeg)) g_0 (by decide) (Or.inl rfl))) ?_
        refine ev_gr (p' := 183) (v := 21) rfl rfl rfl ly_46 rfl rfl hr_46_3 ?_
        refine ev_gc (p' := 186) (v := 27) rfl rfl rfl ly_21 rfl rfl ?_
        refine ev_x (i := .iload_n 1) (len := 1) (p' := 187) (s' := [.int l_1, .ref 27]) rfl rfl (ld_i (vg_o (i := 5) (v := .int (gE (σ) 51 (l_2 : Int32).toNatClampNeg)) g_1 (by decide) (Or.inl rfl))) ?_
        refine ev_x (i := .aload_n 0) (len := 1) (p' := 188) (s' := [.ref 46, .int l_1, .ref 27]) rfl rfl (ld_a (vg_o (i := 5) (v := .int (gE (σ) 51 (l_2 : Int32).toNatClampNeg)) g_0 (by decide) (Or.inl rfl))) ?_
        refine ev_x (i := .aload_n 0) (len := 1) (p' := 189) (s' := [.ref 46, .ref 46, .int l_1, .ref 27]) rfl rfl (ld_a (vg_o (i := 5) (v := .int (gE (σ) 51 (l_2 : Int32).toNatClampNeg)) g_0 (by decide) (Or.inl rfl))) ?_
        refine ev_gr (p' := 192) (v := 20) rfl rfl rfl ly_46 rfl rfl hr_46_2 ?_
        refine ev_gc (p' := 195) (v := 34) rfl rfl rfl ly_20 rfl rfl ?_
        refine ev_x (i := .iload 5) (len := 2) (p' := 197) (s' := [.int (gE (σ) 51 (l_2 : Int32).toNatClampNeg), .ref 34, .ref 46, .int l_1, .ref 27]) rfl rfl (ld_i (vg_s (lv) 5 (.int (gE (σ) 51 (l_2 : Int32).toNatClampNeg)))) ?_
        obtain ⟨b_21, H⟩ := F_gd H
        refine ev_ga (p' := 198) (v := (gE (σ) 34 ((gE (σ) 51 (l_2 : Int32).toNatClampNeg) : Int32).toNatClampNeg)) rfl rfl ly_34 rfl (gd_in b_21) rfl ?_
        obtain ⟨p_22, G_22, H⟩ := F_bd H
        refine ev_cv (d := d + 2) (As := [.int (gE (σ) 34 ((gE (σ) 51 (l_2 : Int32).toNatClampNeg) : Int32).toNatClampNeg)]) (a := 46) (p' := 201) rfl rfl rfl ly_46 rfl rfl rfl rfl rfl (nb_s1 hnb rfl) rfl (F_63_ok (d := d + 1) (ht := (Or.inr rfl)) (hr_46_3 := hr_46_3) G_22) ?_
        refine ev_st (st' := [.int p_22.1, .int l_1, .ref 27]) rfl ?_
        have e_22 := F_63_R G_22
        obtain ⟨b_23, H⟩ := F_gd H
        refine ev_pa (j := (l_1 : Int32).toNatClampNeg) (p' := 202) rfl rfl ly_27 rfl (gd_in b_23) rfl ?_
        refine ev_x (i := .goto 43) (len := 3) (p' := 245) (s' := []) rfl rfl rfl ?_
        refine ev_x (i := .iconst 0) (len := 1) (p' := 246) (s' := [.int 0]) rfl rfl rfl ?_
        obtain rfl := Option.some.inj H
        exact ev_iret rfl rfl rfl rfl
      · refine ev_b2 (t := 205) (p' := 205) rfl rfl rfl (if_pos c_18) ?_
        refine ev_x (i := .aload_n 0) (len := 1) (p' := 206) (s' := [.ref 46]) rfl rfl (ld_a (vg_o (i := 5) (v := .int (gE (σ) 51 (l_2 : Int32).toNatClampNeg)) g_0 (by decide) (Or.inl rfl))) ?_
        refine ev_gr (p' := 209) (v := 21) rfl rfl rfl ly_46 rfl rfl hr_46_3 ?_
        refine ev_gc (p' := 212) (v := 22) rfl rfl rfl ly_21 rfl rfl ?_
        refine ev_x (i := .iload_n 1) (len := 1) (p' := 213) (s' := [.int l_1, .ref 22]) rfl rfl (ld_i (vg_o (i := 5) (v := .int (gE (σ) 51 (l_2 : Int32).toNatClampNeg)) g_1 (by decide) (Or.inl rfl))) ?_
        refine ev_x (i := .iconst 2) (len := 1) (p' := 214) (s' := [.int 2, .int l_1, .ref 22]) rfl rfl rfl ?_
        obtain ⟨b_24, H⟩ := F_gd H
        refine ev_pa (j := (l_1 : Int32).toNatClampNeg) (p' := 215) rfl rfl ly_22 rfl (gd_in b_24) rfl ?_
        refine ev_x (i := .aload_n 0) (len := 1) (p' := 216) (s' := [.ref 46]) rfl rfl (ld_a (vg_o (i := 5) (v := .int (gE (σ) 51 (l_2 : Int32).toNatClampNeg)) g_0 (by decide) (Or.inl rfl))) ?_
        refine ev_gr (p' := 219) (v := 21) rfl rfl rfl ly_46 rfl rfl hr_46_3 ?_
        refine ev_gc (p' := 222) (v := 24) rfl rfl rfl ly_21 rfl rfl ?_
        refine ev_x (i := .iload_n 1) (len := 1) (p' := 223) (s' := [.int l_1, .ref 24]) rfl rfl (ld_i (vg_o (i := 5) (v := .int (gE (σ) 51 (l_2 : Int32).toNatClampNeg)) g_1 (by decide) (Or.inl rfl))) ?_
        refine ev_x (i := .iload 5) (len := 2) (p' := 225) (s' := [.int (gE (σ) 51 (l_2 : Int32).toNatClampNeg), .int l_1, .ref 24]) rfl rfl (ld_i (vg_s (lv) 5 (.int (gE (σ) 51 (l_2 : Int32).toNatClampNeg)))) ?_
        obtain ⟨b_25, H⟩ := F_gd H
        refine ev_pa (j := (l_1 : Int32).toNatClampNeg) (p' := 226) rfl rfl ly_24 rfl (gd_in b_25) rfl ?_
        refine ev_x (i := .aload_n 0) (len := 1) (p' := 227) (s' := [.ref 46]) rfl rfl (ld_a (vg_o (i := 5) (v := .int (gE (σ) 51 (l_2 : Int32).toNatClampNeg)) g_0 (by decide) (Or.inl rfl))) ?_
        refine ev_gr (p' := 230) (v := 21) rfl rfl rfl ly_46 rfl rfl hr_46_3 ?_
        refine ev_gc (p' := 233) (v := 27) rfl rfl rfl ly_21 rfl rfl ?_
        refine ev_x (i := .iload_n 1) (len := 1) (p' := 234) (s' := [.int l_1, .ref 27]) rfl rfl (ld_i (vg_o (i := 5) (v := .int (gE (σ) 51 (l_2 : Int32).toNatClampNeg)) g_1 (by decide) (Or.inl rfl))) ?_
        refine ev_x (i := .aload_n 0) (len := 1) (p' := 235) (s' := [.ref 46, .int l_1, .ref 27]) rfl rfl (ld_a (vg_o (i := 5) (v := .int (gE (σ) 51 (l_2 : Int32).toNatClampNeg)) g_0 (by decide) (Or.inl rfl))) ?_
        refine ev_gr (p' := 238) (v := 20) rfl rfl rfl ly_46 rfl rfl hr_46_2 ?_
        refine ev_gc (p' := 241) (v := 33) rfl rfl rfl ly_20 rfl rfl ?_
        refine ev_x (i := .iload 5) (len := 2) (p' := 243) (s' := [.int (gE (σ) 51 (l_2 : Int32).toNatClampNeg), .ref 33, .int l_1, .ref 27]) rfl rfl (ld_i (vg_s (lv) 5 (.int (gE (σ) 51 (l_2 : Int32).toNatClampNeg)))) ?_
        obtain ⟨b_26, H⟩ := F_gd H
        refine ev_ga (p' := 244) (v := (gE (σ) 33 ((gE (σ) 51 (l_2 : Int32).toNatClampNeg) : Int32).toNatClampNeg)) rfl rfl ly_33 rfl (gd_in b_26) rfl ?_
        obtain ⟨b_27, H⟩ := F_gd H
        refine ev_pa (j := (l_1 : Int32).toNatClampNeg) (p' := 245) rfl rfl ly_27 rfl (gd_in b_27) rfl ?_
        refine ev_x (i := .iconst 0) (len := 1) (p' := 246) (s' := [.int 0]) rfl rfl rfl ?_
        obtain rfl := Option.some.inj H
        exact ev_iret rfl rfl rfl rfl
/-- GameText$Checker.looksAtName(I)I, from 81 -/
def J_58_81 (N : Nat) (t : Nat) (l_1 : Int32) (σ : st_S) : Option (Int32 × st_S) :=
  if aB l_1 (gN σ (t + 3)) then
  (F_61 N 2 (gE (σ) (t + 3) (l_1 : Int32).toNatClampNeg) (σ)).bind fun p_12 =>
  some (p_12.1, p_12.2)
  else none
set_option maxRecDepth 100000 in
theorem J_58_81_R {N : Nat} {t : Nat} {l_1 : Int32} {σ : st_S} {p : Int32 × st_S} (H : J_58_81 N t l_1 σ = some p) : gR p.2 = gR σ := by
  unfold J_58_81 at H
  obtain ⟨_, H⟩ := F_gd H
  obtain ⟨p_12, G_12, H⟩ := F_bd H
  obtain rfl := Option.some.inj H
  exact ((F_61_R G_12).trans rfl)
set_option maxHeartbeats 4000000 in
set_option maxRecDepth 100000 in
theorem J_58_81_ok {N d : Nat} {t : Nat} (ht : t = 4 ∨ t = 20) {l_1 : Int32} {σ : st_S} {lv : vz_L} {p : Int32 × st_S} (g_0 : vz_g lv 0 = some (.ref 46)) (g_1 : vz_g lv 1 = some (.int l_1)) (hnb : vz_nbL (vz_gr P0) lv = true) (hr_46_2 : gR σ 46 2 = t) (hr_46_3 : gR σ 46 3 = (t + 1)) (H : J_58_81 N t l_1 σ = some p) : vz_ev P0 (d + 3) 58 81 lv [] (hp σ) (.inl (some (.int p.1)), hp p.2) := by
  unfold J_58_81 at H
  rcases ht with rfl | rfl
  · refine ev_x (i := .aload_n 0) (len := 1) (p' := 82) (s' := [.ref 46]) rfl rfl (ld_a g_0) ?_
    refine ev_x (i := .iconst 2) (len := 1) (p' := 83) (s' := [.int 2, .ref 46]) rfl rfl rfl ?_
    refine ev_x (i := .aload_n 0) (len := 1) (p' := 84) (s' := [.ref 46, .int 2, .ref 46]) rfl rfl (ld_a g_0) ?_
    refine ev_gr (p' := 87) (v := 5) rfl rfl rfl ly_46 rfl rfl hr_46_3 ?_
    refine ev_gc (p' := 90) (v := 7) rfl rfl rfl ly_5 rfl rfl ?_
    refine ev_x (i := .iload_n 1) (len := 1) (p' := 91) (s' := [.int l_1, .ref 7, .int 2, .ref 46]) rfl rfl (ld_i g_1) ?_
    obtain ⟨b_11, H⟩ := F_gd H
    refine ev_ga (p' := 92) (v := (gE (σ) 7 (l_1 : Int32).toNatClampNeg)) rfl rfl ly_7 rfl (gd_in b_11) rfl ?_
    obtain ⟨p_12, G_12, H⟩ := F_bd H
    refine ev_cv (d := d + 2) (As := [.int 2, .int (gE (σ) 7 (l_1 : Int32).toNatClampNeg)]) (a := 46) (p' := 95) rfl rfl rfl ly_46 rfl rfl rfl rfl rfl hnb rfl (F_61_ok (d := d + 1)   G_12) ?_
    refine ev_st (st' := [.int p_12.1]) rfl ?_
    have e_12 := F_61_R G_12
    obtain rfl := Option.some.inj H
    exact ev_iret rfl rfl rfl rfl
  · refine ev_x (i := .aload_n 0) (len := 1) (p' := 82) (s' := [.ref 46]) rfl rfl (ld_a g_0) ?_
    refine ev_x (i := .iconst 2) (len := 1) (p' := 83) (s' := [.int 2, .ref 46]) rfl rfl rfl ?_
    refine ev_x (i := .aload_n 0) (len := 1) (p' := 84) (s' := [.ref 46, .int 2, .ref 46]) rfl rfl (ld_a g_0) ?_
    refine ev_gr (p' := 87) (v := 21) rfl rfl rfl ly_46 rfl rfl hr_46_3 ?_
    refine ev_gc (p' := 90) (v := 23) rfl rfl rfl ly_21 rfl rfl ?_
    refine ev_x (i := .iload_n 1) (len := 1) (p' := 91) (s' := [.int l_1, .ref 23, .int 2, .ref 46]) rfl rfl (ld_i g_1) ?_
    obtain ⟨b_11, H⟩ := F_gd H
    refine ev_ga (p' := 92) (v := (gE (σ) 23 (l_1 : Int32).toNatClampNeg)) rfl rfl ly_23 rfl (gd_in b_11) rfl ?_
    obtain ⟨p_12, G_12, H⟩ := F_bd H
    refine ev_cv (d := d + 2) (As := [.int 2, .int (gE (σ) 23 (l_1 : Int32).toNatClampNeg)]) (a := 46) (p' := 95) rfl rfl rfl ly_46 rfl rfl rfl rfl rfl hnb rfl (F_61_ok (d := d + 1)   G_12) ?_
    refine ev_st (st' := [.int p_12.1]) rfl ?_
    have e_12 := F_61_R G_12
    obtain rfl := Option.some.inj H
    exact ev_iret rfl rfl rfl rfl
/-- GameText$Checker.looksAtName(I)I, from 51 -/
def J_58_51 (N : Nat) (t : Nat) (l_1 : Int32) (l_2 : Int32) (σ : st_S) : Option (Int32 × st_S) :=
  if l_2 < 0 then
    J_58_81 N t l_1 (σ)
  else
    if aB l_2 (gN σ 50) then
    if (gE (σ) 50 (l_2 : Int32).toNatClampNeg) = 27 then
      J_58_96 N t l_1 l_2 (σ)
    else
      J_58_81 N t l_1 (σ)
    else none
set_option maxRecDepth 100000 in
theorem J_58_51_R {N : Nat} {t : Nat} {l_1 : Int32} {l_2 : Int32} {σ : st_S} {p : Int32 × st_S} (H : J_58_51 N t l_1 l_2 σ = some p) : gR p.2 = gR σ := by
  unfold J_58_51 at H
  refine F_if H (fun _ H => ?_) (fun _ H => ?_)
  · exact (((J_58_81_R H)).trans rfl)
  · obtain ⟨_, H⟩ := F_gd H
    refine F_if H (fun _ H => ?_) (fun _ H => ?_)
    · exact (((J_58_96_R H)).trans rfl)
    · exact (((J_58_81_R H)).trans rfl)
set_option maxHeartbeats 4000000 in
set_option maxRecDepth 100000 in
theorem J_58_51_ok {N d : Nat} {t : Nat} (ht : t = 4 ∨ t = 20) {l_1 : Int32} {l_2 : Int32} {σ : st_S} {lv : vz_L} {p : Int32 × st_S} (g_0 : vz_g lv 0 = some (.ref 46)) (g_1 : vz_g lv 1 = some (.int l_1)) (g_2 : vz_g lv 2 = some (.int l_2)) (hnb : vz_nbL (vz_gr P0) lv = true) (hr_46_2 : gR σ 46 2 = t) (hr_46_3 : gR σ 46 3 = (t + 1)) (H : J_58_51 N t l_1 l_2 σ = some p) : vz_ev P0 (d + 3) 58 51 lv [] (hp σ) (.inl (some (.int p.1)), hp p.2) := by
  unfold J_58_51 at H
  refine ev_x (i := .iconst 1) (len := 1) (p' := 52) (s' := [.int 1]) rfl rfl rfl ?_
  refine ev_x (i := .goto 4) (len := 3) (p' := 56) (s' := [.int 1]) rfl rfl rfl ?_
  refine ev_x (i := .istore 4) (len := 2) (p' := 58) (s' := []) (l' := vz_s1 (lv) 4 (.int 1)) rfl rfl rfl ?_
  refine ev_x (i := .iload_n 2) (len := 1) (p' := 59) (s' := [.int l_2]) rfl rfl (ld_i (vg_o (i := 4) (v := .int 1) g_2 (by decide) (Or.inl rfl))) ?_
  refine F_if H (fun c_8 H => ?_) (fun c_8 H => ?_)
  · refine ev_b0 (t := 81) (p' := 81) rfl rfl rfl (if_pos c_8) ?_
    exact J_58_81_ok (d := d) ht (vg_o (i := 4) (v := .int 1) g_0 (by decide) (Or.inl rfl)) (vg_o (i := 4) (v := .int 1) g_1 (by decide) (Or.inl rfl)) (nb_s1 hnb rfl) hr_46_2 hr_46_3 H
  · refine ev_b0 (t := 81) (p' := 62) rfl rfl rfl (if_neg c_8) ?_
    refine ev_x (i := .iload 4) (len := 2) (p' := 64) (s' := [.int 1]) rfl rfl (ld_i (vg_s (lv) 4 (.int 1))) ?_
    refine ev_b0 (t := 96) (p' := 67) rfl rfl rfl (by decide) ?_
    refine ev_x (i := .aload_n 0) (len := 1) (p' := 68) (s' := [.ref 46]) rfl rfl (ld_a (vg_o (i := 4) (v := .int 1) g_0 (by decide) (Or.inl rfl))) ?_
    refine ev_gc (p' := 71) (v := 47) rfl rfl rfl ly_46 rfl rfl ?_
    refine ev_gc (p' := 74) (v := 50) rfl rfl rfl ly_47 rfl rfl ?_
    refine ev_x (i := .iload_n 2) (len := 1) (p' := 75) (s' := [.int l_2, .ref 50]) rfl rfl (ld_i (vg_o (i := 4) (v := .int 1) g_2 (by decide) (Or.inl rfl))) ?_
    obtain ⟨b_9, H⟩ := F_gd H
    refine ev_ga (p' := 76) (v := (gE (σ) 50 (l_2 : Int32).toNatClampNeg)) rfl rfl ly_50 rfl (gd_in b_9) rfl ?_
    refine ev_x (i := .bipush 27) (len := 2) (p' := 78) (s' := [.int 27, .int (gE (σ) 50 (l_2 : Int32).toNatClampNeg)]) rfl rfl rfl ?_
    refine F_if H (fun c_10 H => ?_) (fun c_10 H => ?_)
    · refine ev_b2 (t := 96) (p' := 96) rfl rfl rfl (if_pos c_10) ?_
      exact J_58_96_ok (d := d) ht (vg_o (i := 4) (v := .int 1) g_0 (by decide) (Or.inl rfl)) (vg_o (i := 4) (v := .int 1) g_1 (by decide) (Or.inl rfl)) (vg_o (i := 4) (v := .int 1) g_2 (by decide) (Or.inl rfl)) (nb_s1 hnb rfl) hr_46_2 hr_46_3 H
    · refine ev_b2 (t := 96) (p' := 81) rfl rfl rfl (if_neg c_10) ?_
      exact J_58_81_ok (d := d) ht (vg_o (i := 4) (v := .int 1) g_0 (by decide) (Or.inl rfl)) (vg_o (i := 4) (v := .int 1) g_1 (by decide) (Or.inl rfl)) (nb_s1 hnb rfl) hr_46_2 hr_46_3 H
/-- GameText$Checker.looksAtName(I)I -/
def F_58 (N : Nat) (t : Nat) (x_1 : Int32) (σ : st_S) : Option (Int32 × st_S) :=
  if aB x_1 (gN σ (t + 4)) then
  if aB x_1 (gN σ (t + 5)) then
  (F_59 N (gE (σ) (t + 4) (x_1 : Int32).toNatClampNeg) (gE (σ) (t + 5) (x_1 : Int32).toNatClampNeg) (σ)).bind fun p_3 =>
  if aB (gI p_3.2 46 5) (gN p_3.2 (t + 2)) then
  if (gE (p_3.2) (t + 2) ((gI p_3.2 46 5) : Int32).toNatClampNeg) = 27 then
    J_58_51 N t x_1 p_3.1 (p_3.2)
  else
    if (gE (p_3.2) (t + 2) ((gI p_3.2 46 5) : Int32).toNatClampNeg) = 29 then
      J_58_51 N t x_1 p_3.1 (p_3.2)
    else
      if p_3.1 < 0 then
        J_58_81 N t x_1 (p_3.2)
      else
        J_58_96 N t x_1 p_3.1 (p_3.2)
  else none
  else none
  else none
set_option maxRecDepth 100000 in
theorem F_58_R {N : Nat} {t : Nat} {x_1 : Int32} {σ : st_S} {p : Int32 × st_S} (H : F_58 N t x_1 σ = some p) : gR p.2 = gR σ := by
  unfold F_58 at H
  obtain ⟨_, H⟩ := F_gd H
  obtain ⟨_, H⟩ := F_gd H
  obtain ⟨p_3, G_3, H⟩ := F_bd H
  obtain ⟨_, H⟩ := F_gd H
  refine F_if H (fun _ H => ?_) (fun _ H => ?_)
  · exact (((J_58_51_R H)).trans ((F_59_R G_3).trans rfl))
  · refine F_if H (fun _ H => ?_) (fun _ H => ?_)
    · exact (((J_58_51_R H)).trans ((F_59_R G_3).trans rfl))
    · refine F_if H (fun _ H => ?_) (fun _ H => ?_)
      · exact (((J_58_81_R H)).trans ((F_59_R G_3).trans rfl))
      · exact (((J_58_96_R H)).trans ((F_59_R G_3).trans rfl))
set_option maxHeartbeats 4000000 in
set_option maxRecDepth 100000 in
theorem F_58_ok {N d : Nat} {t : Nat} (ht : t = 4 ∨ t = 20) {x_1 : Int32} {σ : st_S} {p : Int32 × st_S} (hr_46_2 : gR σ 46 2 = t) (hr_46_3 : gR σ 46 3 = (t + 1)) (H : F_58 N t x_1 σ = some p) : vz_ev P0 (d + 3) 58 0 (lv_args 0 [.ref 46, .int x_1]) [] (hp σ) (.inl (some (.int p.1)), hp p.2) := by
  unfold F_58 at H
  rcases ht with rfl | rfl
  · refine ev_x (i := .aload_n 0) (len := 1) (p' := 1) (s' := [.ref 46]) rfl rfl rfl ?_
    refine ev_gc (p' := 4) (v := 47) rfl rfl rfl ly_46 rfl rfl ?_
    refine ev_x (i := .aload_n 0) (len := 1) (p' := 5) (s' := [.ref 46, .ref 47]) rfl rfl rfl ?_
    refine ev_gr (p' := 8) (v := 5) rfl rfl rfl ly_46 rfl rfl hr_46_3 ?_
    refine ev_gc (p' := 11) (v := 8) rfl rfl rfl ly_5 rfl rfl ?_
    refine ev_x (i := .iload_n 1) (len := 1) (p' := 12) (s' := [.int x_1, .ref 8, .ref 47]) rfl rfl rfl ?_
    obtain ⟨b_1, H⟩ := F_gd H
    refine ev_ga (p' := 13) (v := (gE (σ) 8 (x_1 : Int32).toNatClampNeg)) rfl rfl ly_8 rfl (gd_in b_1) rfl ?_
    refine ev_x (i := .aload_n 0) (len := 1) (p' := 14) (s' := [.ref 46, .int (gE (σ) 8 (x_1 : Int32).toNatClampNeg), .ref 47]) rfl rfl rfl ?_
    refine ev_gr (p' := 17) (v := 5) rfl rfl rfl ly_46 rfl rfl hr_46_3 ?_
    refine ev_gc (p' := 20) (v := 9) rfl rfl rfl ly_5 rfl rfl ?_
    refine ev_x (i := .iload_n 1) (len := 1) (p' := 21) (s' := [.int x_1, .ref 9, .int (gE (σ) 8 (x_1 : Int32).toNatClampNeg), .ref 47]) rfl rfl rfl ?_
    obtain ⟨b_2, H⟩ := F_gd H
    refine ev_ga (p' := 22) (v := (gE (σ) 9 (x_1 : Int32).toNatClampNeg)) rfl rfl ly_9 rfl (gd_in b_2) rfl ?_
    obtain ⟨p_3, G_3, H⟩ := F_bd H
    refine ev_cv (d := d + 2) (As := [.int (gE (σ) 8 (x_1 : Int32).toNatClampNeg), .int (gE (σ) 9 (x_1 : Int32).toNatClampNeg)]) (a := 47) (p' := 25) rfl rfl rfl ly_47 rfl rfl rfl rfl rfl rfl rfl (F_59_ok (d := d + 0)   G_3) ?_
    refine ev_st (st' := [.int p_3.1]) rfl ?_
    have e_3 := F_59_R G_3
    refine ev_x (i := .istore_n 2) (len := 1) (p' := 26) (s' := []) (l' := [(2, .int p_3.1), (0, .ref 46), (1, .int x_1)]) rfl rfl rfl ?_
    refine ev_x (i := .aload_n 0) (len := 1) (p' := 27) (s' := [.ref 46]) rfl rfl rfl ?_
    refine ev_gr (p' := 30) (v := 5) rfl rfl rfl ly_46 rfl rfl ((congrFun (congrFun e_3 46) 3).trans hr_46_3) ?_
    refine ev_gc (p' := 33) (v := 6) rfl rfl rfl ly_5 rfl rfl ?_
    refine ev_x (i := .aload_n 0) (len := 1) (p' := 34) (s' := [.ref 46, .ref 6]) rfl rfl rfl ?_
    refine ev_gi (p' := 37) (v := (gI p_3.2 46 5)) rfl rfl rfl ly_46 rfl rfl rfl ?_
    obtain ⟨b_4, H⟩ := F_gd H
    refine ev_ga (p' := 38) (v := (gE (p_3.2) 6 ((gI p_3.2 46 5) : Int32).toNatClampNeg)) rfl rfl ly_6 rfl (gd_in b_4) rfl ?_
    refine ev_x (i := .istore_n 3) (len := 1) (p' := 39) (s' := []) (l' := [(3, .int (gE (p_3.2) 6 ((gI p_3.2 46 5) : Int32).toNatClampNeg)), (2, .int p_3.1), (0, .ref 46), (1, .int x_1)]) rfl rfl rfl ?_
    refine ev_x (i := .iload_n 3) (len := 1) (p' := 40) (s' := [.int (gE (p_3.2) 6 ((gI p_3.2 46 5) : Int32).toNatClampNeg)]) rfl rfl rfl ?_
    refine ev_x (i := .bipush 27) (len := 2) (p' := 42) (s' := [.int 27, .int (gE (p_3.2) 6 ((gI p_3.2 46 5) : Int32).toNatClampNeg)]) rfl rfl rfl ?_
    refine F_if H (fun c_5 H => ?_) (fun c_5 H => ?_)
    · refine ev_b2 (t := 51) (p' := 51) rfl rfl rfl (if_pos c_5) ?_
      exact J_58_51_ok (d := d) (Or.inl rfl) rfl rfl rfl rfl ((congrFun (congrFun e_3 46) 2).trans hr_46_2) ((congrFun (congrFun e_3 46) 3).trans hr_46_3) H
    · refine ev_b2 (t := 51) (p' := 45) rfl rfl rfl (if_neg c_5) ?_
      refine ev_x (i := .iload_n 3) (len := 1) (p' := 46) (s' := [.int (gE (p_3.2) 6 ((gI p_3.2 46 5) : Int32).toNatClampNeg)]) rfl rfl rfl ?_
      refine ev_x (i := .bipush 29) (len := 2) (p' := 48) (s' := [.int 29, .int (gE (p_3.2) 6 ((gI p_3.2 46 5) : Int32).toNatClampNeg)]) rfl rfl rfl ?_
      refine F_if H (fun c_6 H => ?_) (fun c_6 H => ?_)
      · refine ev_b2 (t := 55) (p' := 51) rfl rfl rfl (if_neg (fun q => q c_6)) ?_
        exact J_58_51_ok (d := d) (Or.inl rfl) rfl rfl rfl rfl ((congrFun (congrFun e_3 46) 2).trans hr_46_2) ((congrFun (congrFun e_3 46) 3).trans hr_46_3) H
      · refine ev_b2 (t := 55) (p' := 55) rfl rfl rfl (if_pos c_6) ?_
        refine ev_x (i := .iconst 0) (len := 1) (p' := 56) (s' := [.int 0]) rfl rfl rfl ?_
        refine ev_x (i := .istore 4) (len := 2) (p' := 58) (s' := []) (l' := [(4, .int 0), (3, .int (gE (p_3.2) 6 ((gI p_3.2 46 5) : Int32).toNatClampNeg)), (2, .int p_3.1), (0, .ref 46), (1, .int x_1)]) rfl rfl rfl ?_
        refine ev_x (i := .iload_n 2) (len := 1) (p' := 59) (s' := [.int p_3.1]) rfl rfl rfl ?_
        refine F_if H (fun c_7 H => ?_) (fun c_7 H => ?_)
        · refine ev_b0 (t := 81) (p' := 81) rfl rfl rfl (if_pos c_7) ?_
          exact J_58_81_ok (d := d) (Or.inl rfl) rfl rfl rfl ((congrFun (congrFun e_3 46) 2).trans hr_46_2) ((congrFun (congrFun e_3 46) 3).trans hr_46_3) H
        · refine ev_b0 (t := 81) (p' := 62) rfl rfl rfl (if_neg c_7) ?_
          refine ev_x (i := .iload 4) (len := 2) (p' := 64) (s' := [.int 0]) rfl rfl rfl ?_
          refine ev_b0 (t := 96) (p' := 96) rfl rfl rfl (by decide) ?_
          exact J_58_96_ok (d := d) (Or.inl rfl) rfl rfl rfl rfl ((congrFun (congrFun e_3 46) 2).trans hr_46_2) ((congrFun (congrFun e_3 46) 3).trans hr_46_3) H
  · refine ev_x (i := .aload_n 0) (len := 1) (p' := 1) (s' := [.ref 46]) rfl rfl rfl ?_
    refine ev_gc (p' := 4) (v := 47) rfl rfl rfl ly_46 rfl rfl ?_
    refine ev_x (i := .aload_n 0) (len := 1) (p' := 5) (s' := [.ref 46, .ref 47]) rfl rfl rfl ?_
    refine ev_gr (p' := 8) (v := 21) rfl rfl rfl ly_46 rfl rfl hr_46_3 ?_
    refine ev_gc (p' := 11) (v := 24) rfl rfl rfl ly_21 rfl rfl ?_
    refine ev_x (i := .iload_n 1) (len := 1) (p' := 12) (s' := [.int x_1, .ref 24, .ref 47]) rfl rfl rfl ?_
    obtain ⟨b_1, H⟩ := F_gd H
    refine ev_ga (p' := 13) (v := (gE (σ) 24 (x_1 : Int32).toNatClampNeg)) rfl rfl ly_24 rfl (gd_in b_1) rfl ?_
    refine ev_x (i := .aload_n 0) (len := 1) (p' := 14) (s' := [.ref 46, .int (gE (σ) 24 (x_1 : Int32).toNatClampNeg), .ref 47]) rfl rfl rfl ?_
    refine ev_gr (p' := 17) (v := 21) rfl rfl rfl ly_46 rfl rfl hr_46_3 ?_
    refine ev_gc (p' := 20) (v := 25) rfl rfl rfl ly_21 rfl rfl ?_
    refine ev_x (i := .iload_n 1) (len := 1) (p' := 21) (s' := [.int x_1, .ref 25, .int (gE (σ) 24 (x_1 : Int32).toNatClampNeg), .ref 47]) rfl rfl rfl ?_
    obtain ⟨b_2, H⟩ := F_gd H
    refine ev_ga (p' := 22) (v := (gE (σ) 25 (x_1 : Int32).toNatClampNeg)) rfl rfl ly_25 rfl (gd_in b_2) rfl ?_
    obtain ⟨p_3, G_3, H⟩ := F_bd H
    refine ev_cv (d := d + 2) (As := [.int (gE (σ) 24 (x_1 : Int32).toNatClampNeg), .int (gE (σ) 25 (x_1 : Int32).toNatClampNeg)]) (a := 47) (p' := 25) rfl rfl rfl ly_47 rfl rfl rfl rfl rfl rfl rfl (F_59_ok (d := d + 0)   G_3) ?_
    refine ev_st (st' := [.int p_3.1]) rfl ?_
    have e_3 := F_59_R G_3
    refine ev_x (i := .istore_n 2) (len := 1) (p' := 26) (s' := []) (l' := [(2, .int p_3.1), (0, .ref 46), (1, .int x_1)]) rfl rfl rfl ?_
    refine ev_x (i := .aload_n 0) (len := 1) (p' := 27) (s' := [.ref 46]) rfl rfl rfl ?_
    refine ev_gr (p' := 30) (v := 21) rfl rfl rfl ly_46 rfl rfl ((congrFun (congrFun e_3 46) 3).trans hr_46_3) ?_
    refine ev_gc (p' := 33) (v := 22) rfl rfl rfl ly_21 rfl rfl ?_
    refine ev_x (i := .aload_n 0) (len := 1) (p' := 34) (s' := [.ref 46, .ref 22]) rfl rfl rfl ?_
    refine ev_gi (p' := 37) (v := (gI p_3.2 46 5)) rfl rfl rfl ly_46 rfl rfl rfl ?_
    obtain ⟨b_4, H⟩ := F_gd H
    refine ev_ga (p' := 38) (v := (gE (p_3.2) 22 ((gI p_3.2 46 5) : Int32).toNatClampNeg)) rfl rfl ly_22 rfl (gd_in b_4) rfl ?_
    refine ev_x (i := .istore_n 3) (len := 1) (p' := 39) (s' := []) (l' := [(3, .int (gE (p_3.2) 22 ((gI p_3.2 46 5) : Int32).toNatClampNeg)), (2, .int p_3.1), (0, .ref 46), (1, .int x_1)]) rfl rfl rfl ?_
    refine ev_x (i := .iload_n 3) (len := 1) (p' := 40) (s' := [.int (gE (p_3.2) 22 ((gI p_3.2 46 5) : Int32).toNatClampNeg)]) rfl rfl rfl ?_
    refine ev_x (i := .bipush 27) (len := 2) (p' := 42) (s' := [.int 27, .int (gE (p_3.2) 22 ((gI p_3.2 46 5) : Int32).toNatClampNeg)]) rfl rfl rfl ?_
    refine F_if H (fun c_5 H => ?_) (fun c_5 H => ?_)
    · refine ev_b2 (t := 51) (p' := 51) rfl rfl rfl (if_pos c_5) ?_
      exact J_58_51_ok (d := d) (Or.inr rfl) rfl rfl rfl rfl ((congrFun (congrFun e_3 46) 2).trans hr_46_2) ((congrFun (congrFun e_3 46) 3).trans hr_46_3) H
    · refine ev_b2 (t := 51) (p' := 45) rfl rfl rfl (if_neg c_5) ?_
      refine ev_x (i := .iload_n 3) (len := 1) (p' := 46) (s' := [.int (gE (p_3.2) 22 ((gI p_3.2 46 5) : Int32).toNatClampNeg)]) rfl rfl rfl ?_
      refine ev_x (i := .bipush 29) (len := 2) (p' := 48) (s' := [.int 29, .int (gE (p_3.2) 22 ((gI p_3.2 46 5) : Int32).toNatClampNeg)]) rfl rfl rfl ?_
      refine F_if H (fun c_6 H => ?_) (fun c_6 H => ?_)
      · refine ev_b2 (t := 55) (p' := 51) rfl rfl rfl (if_neg (fun q => q c_6)) ?_
        exact J_58_51_ok (d := d) (Or.inr rfl) rfl rfl rfl rfl ((congrFun (congrFun e_3 46) 2).trans hr_46_2) ((congrFun (congrFun e_3 46) 3).trans hr_46_3) H
      · refine ev_b2 (t := 55) (p' := 55) rfl rfl rfl (if_pos c_6) ?_
        refine ev_x (i := .iconst 0) (len := 1) (p' := 56) (s' := [.int 0]) rfl rfl rfl ?_
        refine ev_x (i := .istore 4) (len := 2) (p' := 58) (s' := []) (l' := [(4, .int 0), (3, .int (gE (p_3.2) 22 ((gI p_3.2 46 5) : Int32).toNatClampNeg)), (2, .int p_3.1), (0, .ref 46), (1, .int x_1)]) rfl rfl rfl ?_
        refine ev_x (i := .iload_n 2) (len := 1) (p' := 59) (s' := [.int p_3.1]) rfl rfl rfl ?_
        refine F_if H (fun c_7 H => ?_) (fun c_7 H => ?_)
        · refine ev_b0 (t := 81) (p' := 81) rfl rfl rfl (if_pos c_7) ?_
          exact J_58_81_ok (d := d) (Or.inr rfl) rfl rfl rfl ((congrFun (congrFun e_3 46) 2).trans hr_46_2) ((congrFun (congrFun e_3 46) 3).trans hr_46_3) H
        · refine ev_b0 (t := 81) (p' := 62) rfl rfl rfl (if_neg c_7) ?_
          refine ev_x (i := .iload 4) (len := 2) (p' := 64) (s' := [.int 0]) rfl rfl rfl ?_
          refine ev_b0 (t := 96) (p' := 96) rfl rfl rfl (by decide) ?_
          exact J_58_96_ok (d := d) (Or.inr rfl) rfl rfl rfl rfl ((congrFun (congrFun e_3 46) 2).trans hr_46_2) ((congrFun (congrFun e_3 46) 3).trans hr_46_3) H
/-- GameText$Checker.areBoth(II)Z -/
def F_64 (N : Nat) (t : Nat) (x_1 : Int32) (x_2 : Int32) (σ : st_S) : Option (Int32 × st_S) :=
  if aB x_1 (gN σ (t + 4)) then
  if aB (gE (σ) (t + 4) (x_1 : Int32).toNatClampNeg) (gN σ (t + 7)) then
  if (gE (σ) (t + 7) ((gE (σ) (t + 4) (x_1 : Int32).toNatClampNeg) : Int32).toNatClampNeg) = x_2 then
    if aB x_1 (gN σ (t + 5)) then
    if aB (gE (σ) (t + 5) (x_1 : Int32).toNatClampNeg) (gN σ (t + 7)) then
    some ((if (gE (σ) (t + 7) ((gE (σ) (t + 5) (x_1 : Int32).toNatClampNeg) : Int32).toNatClampNeg) = x_2 then 1 else 0 : Int32), σ)
    else none
    else none
  else
    some (0, σ)
  else none
  else none
set_option maxRecDepth 100000 in
theorem F_64_R {N : Nat} {t : Nat} {x_1 : Int32} {x_2 : Int32} {σ : st_S} {p : Int32 × st_S} (H : F_64 N t x_1 x_2 σ = some p) : gR p.2 = gR σ := by
  unfold F_64 at H
  obtain ⟨_, H⟩ := F_gd H
  obtain ⟨_, H⟩ := F_gd H
  refine F_if H (fun _ H => ?_) (fun _ H => ?_)
  · obtain ⟨_, H⟩ := F_gd H
    obtain ⟨_, H⟩ := F_gd H
    obtain rfl := Option.some.inj H
    exact rfl
  · obtain rfl := Option.some.inj H
    exact rfl
set_option maxHeartbeats 4000000 in
set_option maxRecDepth 100000 in
theorem F_64_ok {N d : Nat} {t : Nat} (ht : t = 4 ∨ t = 20) {x_1 : Int32} {x_2 : Int32} {σ : st_S} {p : Int32 × st_S} (hr_46_3 : gR σ 46 3 = (t + 1)) (H : F_64 N t x_1 x_2 σ = some p) : vz_ev P0 (d + 1) 64 0 (lv_args 0 [.ref 46, .int x_1, .int x_2]) [] (hp σ) (.inl (some (.int p.1)), hp p.2) := by
  unfold F_64 at H
  rcases ht with rfl | rfl
  · refine ev_x (i := .aload_n 0) (len := 1) (p' := 1) (s' := [.ref 46]) rfl rfl rfl ?_
    refine ev_gr (p' := 4) (v := 5) rfl rfl rfl ly_46 rfl rfl hr_46_3 ?_
    refine ev_gc (p' := 7) (v := 11) rfl rfl rfl ly_5 rfl rfl ?_
    refine ev_x (i := .aload_n 0) (len := 1) (p' := 8) (s' := [.ref 46, .ref 11]) rfl rfl rfl ?_
    refine ev_gr (p' := 11) (v := 5) rfl rfl rfl ly_46 rfl rfl hr_46_3 ?_
    refine ev_gc (p' := 14) (v := 8) rfl rfl rfl ly_5 rfl rfl ?_
    refine ev_x (i := .iload_n 1) (len := 1) (p' := 15) (s' := [.int x_1, .ref 8, .ref 11]) rfl rfl rfl ?_
    obtain ⟨b_1, H⟩ := F_gd H
    refine ev_ga (p' := 16) (v := (gE (σ) 8 (x_1 : Int32).toNatClampNeg)) rfl rfl ly_8 rfl (gd_in b_1) rfl ?_
    obtain ⟨b_2, H⟩ := F_gd H
    refine ev_ga (p' := 17) (v := (gE (σ) 11 ((gE (σ) 8 (x_1 : Int32).toNatClampNeg) : Int32).toNatClampNeg)) rfl rfl ly_11 rfl (gd_in b_2) rfl ?_
    refine ev_x (i := .iload_n 2) (len := 1) (p' := 18) (s' := [.int x_2, .int (gE (σ) 11 ((gE (σ) 8 (x_1 : Int32).toNatClampNeg) : Int32).toNatClampNeg)]) rfl rfl rfl ?_
    refine F_if H (fun c_3 H => ?_) (fun c_3 H => ?_)
    · refine ev_b2 (t := 46) (p' := 21) rfl rfl rfl (if_neg (fun q => q c_3)) ?_
      refine ev_x (i := .aload_n 0) (len := 1) (p' := 22) (s' := [.ref 46]) rfl rfl rfl ?_
      refine ev_gr (p' := 25) (v := 5) rfl rfl rfl ly_46 rfl rfl hr_46_3 ?_
      refine ev_gc (p' := 28) (v := 11) rfl rfl rfl ly_5 rfl rfl ?_
      refine ev_x (i := .aload_n 0) (len := 1) (p' := 29) (s' := [.ref 46, .ref 11]) rfl rfl rfl ?_
      refine ev_gr (p' := 32) (v := 5) rfl rfl rfl ly_46 rfl rfl hr_46_3 ?_
      refine ev_gc (p' := 35) (v := 9) rfl rfl rfl ly_5 rfl rfl ?_
      refine ev_x (i := .iload_n 1) (len := 1) (p' := 36) (s' := [.int x_1, .ref 9, .ref 11]) rfl rfl rfl ?_
      obtain ⟨b_4, H⟩ := F_gd H
      refine ev_ga (p' := 37) (v := (gE (σ) 9 (x_1 : Int32).toNatClampNeg)) rfl rfl ly_9 rfl (gd_in b_4) rfl ?_
      obtain ⟨b_5, H⟩ := F_gd H
      refine ev_ga (p' := 38) (v := (gE (σ) 11 ((gE (σ) 9 (x_1 : Int32).toNatClampNeg) : Int32).toNatClampNeg)) rfl rfl ly_11 rfl (gd_in b_5) rfl ?_
      refine ev_x (i := .iload_n 2) (len := 1) (p' := 39) (s' := [.int x_2, .int (gE (σ) 11 ((gE (σ) 9 (x_1 : Int32).toNatClampNeg) : Int32).toNatClampNeg)]) rfl rfl rfl ?_
      refine F_jn (A := vz_ev P0 (d + 1) 64 47 [(0, .ref 46), (1, .int x_1), (2, .int x_2)] [.int (if (gE (σ) 11 ((gE (σ) 9 (x_1 : Int32).toNatClampNeg) : Int32).toNatClampNeg) = x_2 then 1 else 0 : Int32)] (hp (σ)) (.inl (some (.int p.1)), hp p.2)) ?_ (fun J => ?_)
      · obtain rfl := Option.some.inj H
        exact ev_iret rfl rfl rfl (fit_b (by (repeat' split) <;> decide))
      · by_cases c_6 : (gE (σ) 11 ((gE (σ) 9 (x_1 : Int32).toNatClampNeg) : Int32).toNatClampNeg) = x_2
        · refine ev_b2 (t := 46) (p' := 42) rfl rfl rfl (if_neg (fun q => q c_6)) ?_
          refine ev_x (i := .iconst 1) (len := 1) (p' := 43) (s' := [.int 1]) rfl rfl rfl ?_
          refine ev_x (i := .goto 4) (len := 3) (p' := 47) (s' := [.int 1]) rfl rfl rfl ?_
          exact ev_st (congrArg (fun z => Value.int z :: []) (by rw [if_pos c_6])) J
        · refine ev_b2 (t := 46) (p' := 46) rfl rfl rfl (if_pos c_6) ?_
          refine ev_x (i := .iconst 0) (len := 1) (p' := 47) (s' := [.int 0]) rfl rfl rfl ?_
          exact ev_st (congrArg (fun z => Value.int z :: []) (by rw [if_neg c_6])) J
    · refine ev_b2 (t := 46) (p' := 46) rfl rfl rfl (if_pos c_3) ?_
      refine ev_x (i := .iconst 0) (len := 1) (p' := 47) (s' := [.int 0]) rfl rfl rfl ?_
      obtain rfl := Option.some.inj H
      exact ev_iret rfl rfl rfl rfl
  · refine ev_x (i := .aload_n 0) (len := 1) (p' := 1) (s' := [.ref 46]) rfl rfl rfl ?_
    refine ev_gr (p' := 4) (v := 21) rfl rfl rfl ly_46 rfl rfl hr_46_3 ?_
    refine ev_gc (p' := 7) (v := 27) rfl rfl rfl ly_21 rfl rfl ?_
    refine ev_x (i := .aload_n 0) (len := 1) (p' := 8) (s' := [.ref 46, .ref 27]) rfl rfl rfl ?_
    refine ev_gr (p' := 11) (v := 21) rfl rfl rfl ly_46 rfl rfl hr_46_3 ?_
    refine ev_gc (p' := 14) (v := 24) rfl rfl rfl ly_21 rfl rfl ?_
    refine ev_x (i := .iload_n 1) (len := 1) (p' := 15) (s' := [.int x_1, .ref 24, .ref 27]) rfl rfl rfl ?_
    obtain ⟨b_1, H⟩ := F_gd H
    refine ev_ga (p' := 16) (v := (gE (σ) 24 (x_1 : Int32).toNatClampNeg)) rfl rfl ly_24 rfl (gd_in b_1) rfl ?_
    obtain ⟨b_2, H⟩ := F_gd H
    refine ev_ga (p' := 17) (v := (gE (σ) 27 ((gE (σ) 24 (x_1 : Int32).toNatClampNeg) : Int32).toNatClampNeg)) rfl rfl ly_27 rfl (gd_in b_2) rfl ?_
    refine ev_x (i := .iload_n 2) (len := 1) (p' := 18) (s' := [.int x_2, .int (gE (σ) 27 ((gE (σ) 24 (x_1 : Int32).toNatClampNeg) : Int32).toNatClampNeg)]) rfl rfl rfl ?_
    refine F_if H (fun c_3 H => ?_) (fun c_3 H => ?_)
    · refine ev_b2 (t := 46) (p' := 21) rfl rfl rfl (if_neg (fun q => q c_3)) ?_
      refine ev_x (i := .aload_n 0) (len := 1) (p' := 22) (s' := [.ref 46]) rfl rfl rfl ?_
      refine ev_gr (p' := 25) (v := 21) rfl rfl rfl ly_46 rfl rfl hr_46_3 ?_
      refine ev_gc (p' := 28) (v := 27) rfl rfl rfl ly_21 rfl rfl ?_
      refine ev_x (i := .aload_n 0) (len := 1) (p' := 29) (s' := [.ref 46, .ref 27]) rfl rfl rfl ?_
      refine ev_gr (p' := 32) (v := 21) rfl rfl rfl ly_46 rfl rfl hr_46_3 ?_
      refine ev_gc (p' := 35) (v := 25) rfl rfl rfl ly_21 rfl rfl ?_
      refine ev_x (i := .iload_n 1) (len := 1) (p' := 36) (s' := [.int x_1, .ref 25, .ref 27]) rfl rfl rfl ?_
      obtain ⟨b_4, H⟩ := F_gd H
      refine ev_ga (p' := 37) (v := (gE (σ) 25 (x_1 : Int32).toNatClampNeg)) rfl rfl ly_25 rfl (gd_in b_4) rfl ?_
      obtain ⟨b_5, H⟩ := F_gd H
      refine ev_ga (p' := 38) (v := (gE (σ) 27 ((gE (σ) 25 (x_1 : Int32).toNatClampNeg) : Int32).toNatClampNeg)) rfl rfl ly_27 rfl (gd_in b_5) rfl ?_
      refine ev_x (i := .iload_n 2) (len := 1) (p' := 39) (s' := [.int x_2, .int (gE (σ) 27 ((gE (σ) 25 (x_1 : Int32).toNatClampNeg) : Int32).toNatClampNeg)]) rfl rfl rfl ?_
      refine F_jn (A := vz_ev P0 (d + 1) 64 47 [(0, .ref 46), (1, .int x_1), (2, .int x_2)] [.int (if (gE (σ) 27 ((gE (σ) 25 (x_1 : Int32).toNatClampNeg) : Int32).toNatClampNeg) = x_2 then 1 else 0 : Int32)] (hp (σ)) (.inl (some (.int p.1)), hp p.2)) ?_ (fun J => ?_)
      · obtain rfl := Option.some.inj H
        exact ev_iret rfl rfl rfl (fit_b (by (repeat' split) <;> decide))
      · by_cases c_6 : (gE (σ) 27 ((gE (σ) 25 (x_1 : Int32).toNatClampNeg) : Int32).toNatClampNeg) = x_2
        · refine ev_b2 (t := 46) (p' := 42) rfl rfl rfl (if_neg (fun q => q c_6)) ?_
          refine ev_x (i := .iconst 1) (len := 1) (p' := 43) (s' := [.int 1]) rfl rfl rfl ?_
          refine ev_x (i := .goto 4) (len := 3) (p' := 47) (s' := [.int 1]) rfl rfl rfl ?_
          exact ev_st (congrArg (fun z => Value.int z :: []) (by rw [if_pos c_6])) J
        · refine ev_b2 (t := 46) (p' := 46) rfl rfl rfl (if_pos c_6) ?_
          refine ev_x (i := .iconst 0) (len := 1) (p' := 47) (s' := [.int 0]) rfl rfl rfl ?_
          exact ev_st (congrArg (fun z => Value.int z :: []) (by rw [if_neg c_6])) J
    · refine ev_b2 (t := 46) (p' := 46) rfl rfl rfl (if_pos c_3) ?_
      refine ev_x (i := .iconst 0) (len := 1) (p' := 47) (s' := [.int 0]) rfl rfl rfl ?_
      obtain rfl := Option.some.inj H
      exact ev_iret rfl rfl rfl rfl
/-- GameText$Checker.makes(IIZ)I -/
def F_65 (N : Nat) (t : Nat) (x_1 : Int32) (x_2 : Int32) (x_3 : Int32) (σ : st_S) : Option (Int32 × st_S) :=
  if aB x_1 (gN σ (t + 7)) then
  if x_3 = 0 then
    if aB x_1 (gN σ (t + 3)) then
    (F_61 N 3 (gE (σ) (t + 3) (x_1 : Int32).toNatClampNeg) (st_e (σ) (t + 7) ((x_1 : Int32).toNatClampNeg) x_2)).bind fun p_4 =>
    some (p_4.1, p_4.2)
    else none
  else
    some (0, st_e (σ) (t + 7) ((x_1 : Int32).toNatClampNeg) x_2)
  else none
set_option maxRecDepth 100000 in
theorem F_65_R {N : Nat} {t : Nat} {x_1 : Int32} {x_2 : Int32} {x_3 : Int32} {σ : st_S} {p : Int32 × st_S} (H : F_65 N t x_1 x_2 x_3 σ = some p) : gR p.2 = gR σ := by
  unfold F_65 at H
  obtain ⟨_, H⟩ := F_gd H
  refine F_if H (fun _ H => ?_) (fun _ H => ?_)
  · obtain ⟨_, H⟩ := F_gd H
    obtain ⟨p_4, G_4, H⟩ := F_bd H
    obtain rfl := Option.some.inj H
    exact ((F_61_R G_4).trans rfl)
  · obtain rfl := Option.some.inj H
    exact rfl
set_option maxHeartbeats 4000000 in
set_option maxRecDepth 100000 in
theorem F_65_ok {N d : Nat} {t : Nat} (ht : t = 4 ∨ t = 20) {x_1 : Int32} {x_2 : Int32} {x_3 : Int32} {σ : st_S} {p : Int32 × st_S} (hr_46_3 : gR σ 46 3 = (t + 1)) (H : F_65 N t x_1 x_2 x_3 σ = some p) : vz_ev P0 (d + 2) 65 0 (lv_args 0 [.ref 46, .int x_1, .int x_2, .int x_3]) [] (hp σ) (.inl (some (.int p.1)), hp p.2) := by
  unfold F_65 at H
  rcases ht with rfl | rfl
  · refine ev_x (i := .aload_n 0) (len := 1) (p' := 1) (s' := [.ref 46]) rfl rfl rfl ?_
    refine ev_gr (p' := 4) (v := 5) rfl rfl rfl ly_46 rfl rfl hr_46_3 ?_
    refine ev_gc (p' := 7) (v := 11) rfl rfl rfl ly_5 rfl rfl ?_
    refine ev_x (i := .iload_n 1) (len := 1) (p' := 8) (s' := [.int x_1, .ref 11]) rfl rfl rfl ?_
    refine ev_x (i := .iload_n 2) (len := 1) (p' := 9) (s' := [.int x_2, .int x_1, .ref 11]) rfl rfl rfl ?_
    obtain ⟨b_1, H⟩ := F_gd H
    refine ev_pa (j := (x_1 : Int32).toNatClampNeg) (p' := 10) rfl rfl ly_11 rfl (gd_in b_1) rfl ?_
    refine ev_x (i := .iload_n 3) (len := 1) (p' := 11) (s' := [.int x_3]) rfl rfl rfl ?_
    refine F_if H (fun c_2 H => ?_) (fun c_2 H => ?_)
    · refine ev_b0 (t := 18) (p' := 18) rfl rfl rfl (if_pos c_2) ?_
      refine ev_x (i := .aload_n 0) (len := 1) (p' := 19) (s' := [.ref 46]) rfl rfl rfl ?_
      refine ev_x (i := .iconst 3) (len := 1) (p' := 20) (s' := [.int 3, .ref 46]) rfl rfl rfl ?_
      refine ev_x (i := .aload_n 0) (len := 1) (p' := 21) (s' := [.ref 46, .int 3, .ref 46]) rfl rfl rfl ?_
      refine ev_gr (p' := 24) (v := 5) rfl rfl rfl ly_46 rfl rfl hr_46_3 ?_
      refine ev_gc (p' := 27) (v := 7) rfl rfl rfl ly_5 rfl rfl ?_
      refine ev_x (i := .iload_n 1) (len := 1) (p' := 28) (s' := [.int x_1, .ref 7, .int 3, .ref 46]) rfl rfl rfl ?_
      obtain ⟨b_3, H⟩ := F_gd H
      refine ev_ga (p' := 29) (v := (gE (σ) 7 (x_1 : Int32).toNatClampNeg)) rfl rfl ly_7 rfl (gd_in b_3) rfl ?_
      obtain ⟨p_4, G_4, H⟩ := F_bd H
      refine ev_cv (d := d + 1) (As := [.int 3, .int (gE (σ) 7 (x_1 : Int32).toNatClampNeg)]) (a := 46) (p' := 32) rfl rfl rfl ly_46 rfl rfl rfl rfl rfl rfl rfl (F_61_ok (d := d + 0)   G_4) ?_
      refine ev_st (st' := [.int p_4.1]) rfl ?_
      have e_4 := F_61_R G_4
      obtain rfl := Option.some.inj H
      exact ev_iret rfl rfl rfl rfl
    · refine ev_b0 (t := 18) (p' := 14) rfl rfl rfl (if_neg c_2) ?_
      refine ev_x (i := .iconst 0) (len := 1) (p' := 15) (s' := [.int 0]) rfl rfl rfl ?_
      refine ev_x (i := .goto 17) (len := 3) (p' := 32) (s' := [.int 0]) rfl rfl rfl ?_
      obtain rfl := Option.some.inj H
      exact ev_iret rfl rfl rfl rfl
  · refine ev_x (i := .aload_n 0) (len := 1) (p' := 1) (s' := [.ref 46]) rfl rfl rfl ?_
    refine ev_gr (p' := 4) (v := 21) rfl rfl rfl ly_46 rfl rfl hr_46_3 ?_
    refine ev_gc (p' := 7) (v := 27) rfl rfl rfl ly_21 rfl rfl ?_
    refine ev_x (i := .iload_n 1) (len := 1) (p' := 8) (s' := [.int x_1, .ref 27]) rfl rfl rfl ?_
    refine ev_x (i := .iload_n 2) (len := 1) (p' := 9) (s' := [.int x_2, .int x_1, .ref 27]) rfl rfl rfl ?_
    obtain ⟨b_1, H⟩ := F_gd H
    refine ev_pa (j := (x_1 : Int32).toNatClampNeg) (p' := 10) rfl rfl ly_27 rfl (gd_in b_1) rfl ?_
    refine ev_x (i := .iload_n 3) (len := 1) (p' := 11) (s' := [.int x_3]) rfl rfl rfl ?_
    refine F_if H (fun c_2 H => ?_) (fun c_2 H => ?_)
    · refine ev_b0 (t := 18) (p' := 18) rfl rfl rfl (if_pos c_2) ?_
      refine ev_x (i := .aload_n 0) (len := 1) (p' := 19) (s' := [.ref 46]) rfl rfl rfl ?_
      refine ev_x (i := .iconst 3) (len := 1) (p' := 20) (s' := [.int 3, .ref 46]) rfl rfl rfl ?_
      refine ev_x (i := .aload_n 0) (len := 1) (p' := 21) (s' := [.ref 46, .int 3, .ref 46]) rfl rfl rfl ?_
      refine ev_gr (p' := 24) (v := 21) rfl rfl rfl ly_46 rfl rfl hr_46_3 ?_
      refine ev_gc (p' := 27) (v := 23) rfl rfl rfl ly_21 rfl rfl ?_
      refine ev_x (i := .iload_n 1) (len := 1) (p' := 28) (s' := [.int x_1, .ref 23, .int 3, .ref 46]) rfl rfl rfl ?_
      obtain ⟨b_3, H⟩ := F_gd H
      refine ev_ga (p' := 29) (v := (gE (σ) 23 (x_1 : Int32).toNatClampNeg)) rfl rfl ly_23 rfl (gd_in b_3) rfl ?_
      obtain ⟨p_4, G_4, H⟩ := F_bd H
      refine ev_cv (d := d + 1) (As := [.int 3, .int (gE (σ) 23 (x_1 : Int32).toNatClampNeg)]) (a := 46) (p' := 32) rfl rfl rfl ly_46 rfl rfl rfl rfl rfl rfl rfl (F_61_ok (d := d + 0)   G_4) ?_
      refine ev_st (st' := [.int p_4.1]) rfl ?_
      have e_4 := F_61_R G_4
      obtain rfl := Option.some.inj H
      exact ev_iret rfl rfl rfl rfl
    · refine ev_b0 (t := 18) (p' := 14) rfl rfl rfl (if_neg c_2) ?_
      refine ev_x (i := .iconst 0) (len := 1) (p' := 15) (s' := [.int 0]) rfl rfl rfl ?_
      refine ev_x (i := .goto 17) (len := 3) (p' := 32) (s' := [.int 0]) rfl rfl rfl ?_
      obtain rfl := Option.some.inj H
      exact ev_iret rfl rfl rfl rfl
/-- GameText$Checker.looksAtChoice(I)I, from 52 -/
def J_66_52 (N : Nat) (t : Nat) (l_1 : Int32) (l_2 : Int32) (σ : st_S) : Option (Int32 × st_S) :=
  (F_65 N t l_1 l_2 0 (σ)).bind fun p_9 =>
  some (p_9.1, p_9.2)
set_option maxRecDepth 100000 in
theorem J_66_52_R {N : Nat} {t : Nat} {l_1 : Int32} {l_2 : Int32} {σ : st_S} {p : Int32 × st_S} (H : J_66_52 N t l_1 l_2 σ = some p) : gR p.2 = gR σ := by
  unfold J_66_52 at H
  obtain ⟨p_9, G_9, H⟩ := F_bd H
  obtain rfl := Option.some.inj H
  exact ((F_65_R G_9).trans rfl)
set_option maxHeartbeats 4000000 in
set_option maxRecDepth 100000 in
theorem J_66_52_ok {N d : Nat} {t : Nat} (ht : t = 4 ∨ t = 20) {l_1 : Int32} {l_2 : Int32} {σ : st_S} {lv : vz_L} {p : Int32 × st_S} (g_0 : vz_g lv 0 = some (.ref 46)) (g_1 : vz_g lv 1 = some (.int l_1)) (g_2 : vz_g lv 2 = some (.int l_2)) (hnb : vz_nbL (vz_gr P0) lv = true) (hr_46_3 : gR σ 46 3 = (t + 1)) (H : J_66_52 N t l_1 l_2 σ = some p) : vz_ev P0 (d + 3) 66 52 lv [] (hp σ) (.inl (some (.int p.1)), hp p.2) := by
  unfold J_66_52 at H
  refine ev_x (i := .iconst 0) (len := 1) (p' := 53) (s' := [.int 0]) rfl rfl rfl ?_
  refine ev_x (i := .istore_n 3) (len := 1) (p' := 54) (s' := []) (l' := vz_s1 (lv) 3 (.int 0)) rfl rfl rfl ?_
  refine ev_x (i := .aload_n 0) (len := 1) (p' := 55) (s' := [.ref 46]) rfl rfl (ld_a (vg_o (i := 3) (v := .int 0) g_0 (by decide) (Or.inl rfl))) ?_
  refine ev_x (i := .iload_n 1) (len := 1) (p' := 56) (s' := [.int l_1, .ref 46]) rfl rfl (ld_i (vg_o (i := 3) (v := .int 0) g_1 (by decide) (Or.inl rfl))) ?_
  refine ev_x (i := .iload_n 2) (len := 1) (p' := 57) (s' := [.int l_2, .int l_1, .ref 46]) rfl rfl (ld_i (vg_o (i := 3) (v := .int 0) g_2 (by decide) (Or.inl rfl))) ?_
  refine ev_x (i := .iload_n 3) (len := 1) (p' := 58) (s' := [.int 0, .int l_2, .int l_1, .ref 46]) rfl rfl (ld_i (vg_s (lv) 3 (.int 0))) ?_
  obtain ⟨p_9, G_9, H⟩ := F_bd H
  refine ev_cv (d := d + 2) (As := [.int l_1, .int l_2, .int 0]) (a := 46) (p' := 61) rfl rfl rfl ly_46 rfl rfl rfl rfl rfl (nb_s1 hnb rfl) rfl (F_65_ok (d := d + 0) (ht := ht) (hr_46_3 := hr_46_3) G_9) ?_
  refine ev_st (st' := [.int p_9.1]) rfl ?_
  have e_9 := F_65_R G_9
  obtain rfl := Option.some.inj H
  exact ev_iret rfl rfl rfl rfl
/-- GameText$Checker.looksAtChoice(I)I -/
def F_66 (N : Nat) (t : Nat) (x_1 : Int32) (σ : st_S) : Option (Int32 × st_S) :=
  if aB x_1 (gN σ (t + 5)) then
  if aB (gE (σ) (t + 5) (x_1 : Int32).toNatClampNeg) (gN σ (t + 7)) then
  (F_63 N t x_1 (σ)).bind fun p_3 =>
  if p_3.1 = 2 then
    if aB x_1 (gN p_3.2 (t + 6)) then
    if aB (gE (p_3.2) (t + 6) (x_1 : Int32).toNatClampNeg) (gN p_3.2 (t + 7)) then
    if (gE (p_3.2) (t + 7) ((gE (p_3.2) (t + 6) (x_1 : Int32).toNatClampNeg) : Int32).toNatClampNeg) = (gE (σ) (t + 7) ((gE (σ) (t + 5) (x_1 : Int32).toNatClampNeg) : Int32).toNatClampNeg) then
      (F_65 N t x_1 (gE (σ) (t + 7) ((gE (σ) (t + 5) (x_1 : Int32).toNatClampNeg) : Int32).toNatClampNeg) 1 (p_3.2)).bind fun p_8 =>
      some (p_8.1, p_8.2)
    else
      J_66_52 N t x_1 (gE (σ) (t + 7) ((gE (σ) (t + 5) (x_1 : Int32).toNatClampNeg) : Int32).toNatClampNeg) (p_3.2)
    else none
    else none
  else
    J_66_52 N t x_1 (gE (σ) (t + 7) ((gE (σ) (t + 5) (x_1 : Int32).toNatClampNeg) : Int32).toNatClampNeg) (p_3.2)
  else none
  else none
set_option maxRecDepth 100000 in
theorem F_66_R {N : Nat} {t : Nat} {x_1 : Int32} {σ : st_S} {p : Int32 × st_S} (H : F_66 N t x_1 σ = some p) : gR p.2 = gR σ := by
  unfold F_66 at H
  obtain ⟨_, H⟩ := F_gd H
  obtain ⟨_, H⟩ := F_gd H
  obtain ⟨p_3, G_3, H⟩ := F_bd H
  refine F_if H (fun _ H => ?_) (fun _ H => ?_)
  · obtain ⟨_, H⟩ := F_gd H
    obtain ⟨_, H⟩ := F_gd H
    refine F_if H (fun _ H => ?_) (fun _ H => ?_)
    · obtain ⟨p_8, G_8, H⟩ := F_bd H
      obtain rfl := Option.some.inj H
      exact ((F_65_R G_8).trans ((F_63_R G_3).trans rfl))
    · exact (((J_66_52_R H)).trans ((F_63_R G_3).trans rfl))
  · exact (((J_66_52_R H)).trans ((F_63_R G_3).trans rfl))
set_option maxHeartbeats 4000000 in
set_option maxRecDepth 100000 in
theorem F_66_ok {N d : Nat} {t : Nat} (ht : t = 4 ∨ t = 20) {x_1 : Int32} {σ : st_S} {p : Int32 × st_S} (hr_46_3 : gR σ 46 3 = (t + 1)) (H : F_66 N t x_1 σ = some p) : vz_ev P0 (d + 3) 66 0 (lv_args 0 [.ref 46, .int x_1]) [] (hp σ) (.inl (some (.int p.1)), hp p.2) := by
  unfold F_66 at H
  rcases ht with rfl | rfl
  · refine ev_x (i := .aload_n 0) (len := 1) (p' := 1) (s' := [.ref 46]) rfl rfl rfl ?_
    refine ev_gr (p' := 4) (v := 5) rfl rfl rfl ly_46 rfl rfl hr_46_3 ?_
    refine ev_gc (p' := 7) (v := 11) rfl rfl rfl ly_5 rfl rfl ?_
    refine ev_x (i := .aload_n 0) (len := 1) (p' := 8) (s' := [.ref 46, .ref 11]) rfl rfl rfl ?_
    refine ev_gr (p' := 11) (v := 5) rfl rfl rfl ly_46 rfl rfl hr_46_3 ?_
    refine ev_gc (p' := 14) (v := 9) rfl rfl rfl ly_5 rfl rfl ?_
    refine ev_x (i := .iload_n 1) (len := 1) (p' := 15) (s' := [.int x_1, .ref 9, .ref 11]) rfl rfl rfl ?_
    obtain ⟨b_1, H⟩ := F_gd H
    refine ev_ga (p' := 16) (v := (gE (σ) 9 (x_1 : Int32).toNatClampNeg)) rfl rfl ly_9 rfl (gd_in b_1) rfl ?_
    obtain ⟨b_2, H⟩ := F_gd H
    refine ev_ga (p' := 17) (v := (gE (σ) 11 ((gE (σ) 9 (x_1 : Int32).toNatClampNeg) : Int32).toNatClampNeg)) rfl rfl ly_11 rfl (gd_in b_2) rfl ?_
    refine ev_x (i := .istore_n 2) (len := 1) (p' := 18) (s' := []) (l' := [(2, .int (gE (σ) 11 ((gE (σ) 9 (x_1 : Int32).toNatClampNeg) : Int32).toNatClampNeg)), (0, .ref 46), (1, .int x_1)]) rfl rfl rfl ?_
    refine ev_x (i := .aload_n 0) (len := 1) (p' := 19) (s' := [.ref 46]) rfl rfl rfl ?_
    refine ev_x (i := .iload_n 1) (len := 1) (p' := 20) (s' := [.int x_1, .ref 46]) rfl rfl rfl ?_
    obtain ⟨p_3, G_3, H⟩ := F_bd H
    refine ev_cv (d := d + 2) (As := [.int x_1]) (a := 46) (p' := 23) rfl rfl rfl ly_46 rfl rfl rfl rfl rfl rfl rfl (F_63_ok (d := d + 1) (ht := (Or.inl rfl)) (hr_46_3 := hr_46_3) G_3) ?_
    refine ev_st (st' := [.int p_3.1]) rfl ?_
    have e_3 := F_63_R G_3
    refine ev_x (i := .iconst 2) (len := 1) (p' := 24) (s' := [.int 2, .int p_3.1]) rfl rfl rfl ?_
    refine F_if H (fun c_4 H => ?_) (fun c_4 H => ?_)
    · refine ev_b2 (t := 52) (p' := 27) rfl rfl rfl (if_neg (fun q => q c_4)) ?_
      refine ev_x (i := .aload_n 0) (len := 1) (p' := 28) (s' := [.ref 46]) rfl rfl rfl ?_
      refine ev_gr (p' := 31) (v := 5) rfl rfl rfl ly_46 rfl rfl ((congrFun (congrFun e_3 46) 3).trans hr_46_3) ?_
      refine ev_gc (p' := 34) (v := 11) rfl rfl rfl ly_5 rfl rfl ?_
      refine ev_x (i := .aload_n 0) (len := 1) (p' := 35) (s' := [.ref 46, .ref 11]) rfl rfl rfl ?_
      refine ev_gr (p' := 38) (v := 5) rfl rfl rfl ly_46 rfl rfl ((congrFun (congrFun e_3 46) 3).trans hr_46_3) ?_
      refine ev_gc (p' := 41) (v := 10) rfl rfl rfl ly_5 rfl rfl ?_
      refine ev_x (i := .iload_n 1) (len := 1) (p' := 42) (s' := [.int x_1, .ref 10, .ref 11]) rfl rfl rfl ?_
      obtain ⟨b_5, H⟩ := F_gd H
      refine ev_ga (p' := 43) (v := (gE (p_3.2) 10 (x_1 : Int32).toNatClampNeg)) rfl rfl ly_10 rfl (gd_in b_5) rfl ?_
      obtain ⟨b_6, H⟩ := F_gd H
      refine ev_ga (p' := 44) (v := (gE (p_3.2) 11 ((gE (p_3.2) 10 (x_1 : Int32).toNatClampNeg) : Int32).toNatClampNeg)) rfl rfl ly_11 rfl (gd_in b_6) rfl ?_
      refine ev_x (i := .iload_n 2) (len := 1) (p' := 45) (s' := [.int (gE (σ) 11 ((gE (σ) 9 (x_1 : Int32).toNatClampNeg) : Int32).toNatClampNeg), .int (gE (p_3.2) 11 ((gE (p_3.2) 10 (x_1 : Int32).toNatClampNeg) : Int32).toNatClampNeg)]) rfl rfl rfl ?_
      refine F_if H (fun c_7 H => ?_) (fun c_7 H => ?_)
      · refine ev_b2 (t := 52) (p' := 48) rfl rfl rfl (if_neg (fun q => q c_7)) ?_
        refine ev_x (i := .iconst 1) (len := 1) (p' := 49) (s' := [.int 1]) rfl rfl rfl ?_
        refine ev_x (i := .goto 4) (len := 3) (p' := 53) (s' := [.int 1]) rfl rfl rfl ?_
        refine ev_x (i := .istore_n 3) (len := 1) (p' := 54) (s' := []) (l' := [(3, .int 1), (2, .int (gE (σ) 11 ((gE (σ) 9 (x_1 : Int32).toNatClampNeg) : Int32).toNatClampNeg)), (0, .ref 46), (1, .int x_1)]) rfl rfl rfl ?_
        refine ev_x (i := .aload_n 0) (len := 1) (p' := 55) (s' := [.ref 46]) rfl rfl rfl ?_
        refine ev_x (i := .iload_n 1) (len := 1) (p' := 56) (s' := [.int x_1, .ref 46]) rfl rfl rfl ?_
        refine ev_x (i := .iload_n 2) (len := 1) (p' := 57) (s' := [.int (gE (σ) 11 ((gE (σ) 9 (x_1 : Int32).toNatClampNeg) : Int32).toNatClampNeg), .int x_1, .ref 46]) rfl rfl rfl ?_
        refine ev_x (i := .iload_n 3) (len := 1) (p' := 58) (s' := [.int 1, .int (gE (σ) 11 ((gE (σ) 9 (x_1 : Int32).toNatClampNeg) : Int32).toNatClampNeg), .int x_1, .ref 46]) rfl rfl rfl ?_
        obtain ⟨p_8, G_8, H⟩ := F_bd H
        refine ev_cv (d := d + 2) (As := [.int x_1, .int (gE (σ) 11 ((gE (σ) 9 (x_1 : Int32).toNatClampNeg) : Int32).toNatClampNeg), .int 1]) (a := 46) (p' := 61) rfl rfl rfl ly_46 rfl rfl rfl rfl rfl rfl rfl (F_65_ok (d := d + 0) (ht := (Or.inl rfl)) (hr_46_3 := ((congrFun (congrFun e_3 46) 3).trans hr_46_3)) G_8) ?_
        refine ev_st (st' := [.int p_8.1]) rfl ?_
        have e_8 := F_65_R G_8
        obtain rfl := Option.some.inj H
        exact ev_iret rfl rfl rfl rfl
      · refine ev_b2 (t := 52) (p' := 52) rfl rfl rfl (if_pos c_7) ?_
        exact J_66_52_ok (d := d) (Or.inl rfl) rfl rfl rfl rfl ((congrFun (congrFun e_3 46) 3).trans hr_46_3) H
    · refine ev_b2 (t := 52) (p' := 52) rfl rfl rfl (if_pos c_4) ?_
      exact J_66_52_ok (d := d) (Or.inl rfl) rfl rfl rfl rfl ((congrFun (congrFun e_3 46) 3).trans hr_46_3) H
  · refine ev_x (i := .aload_n 0) (len := 1) (p' := 1) (s' := [.ref 46]) rfl rfl rfl ?_
    refine ev_gr (p' := 4) (v := 21) rfl rfl rfl ly_46 rfl rfl hr_46_3 ?_
    refine ev_gc (p' := 7) (v := 27) rfl rfl rfl ly_21 rfl rfl ?_
    refine ev_x (i := .aload_n 0) (len := 1) (p' := 8) (s' := [.ref 46, .ref 27]) rfl rfl rfl ?_
    refine ev_gr (p' := 11) (v := 21) rfl rfl rfl ly_46 rfl rfl hr_46_3 ?_
    refine ev_gc (p' := 14) (v := 25) rfl rfl rfl ly_21 rfl rfl ?_
    refine ev_x (i := .iload_n 1) (len := 1) (p' := 15) (s' := [.int x_1, .ref 25, .ref 27]) rfl rfl rfl ?_
    obtain ⟨b_1, H⟩ := F_gd H
    refine ev_ga (p' := 16) (v := (gE (σ) 25 (x_1 : Int32).toNatClampNeg)) rfl rfl ly_25 rfl (gd_in b_1) rfl ?_
    obtain ⟨b_2, H⟩ := F_gd H
    refine ev_ga (p' := 17) (v := (gE (σ) 27 ((gE (σ) 25 (x_1 : Int32).toNatClampNeg) : Int32).toNatClampNeg)) rfl rfl ly_27 rfl (gd_in b_2) rfl ?_
    refine ev_x (i := .istore_n 2) (len := 1) (p' := 18) (s' := []) (l' := [(2, .int (gE (σ) 27 ((gE (σ) 25 (x_1 : Int32).toNatClampNeg) : Int32).toNatClampNeg)), (0, .ref 46), (1, .int x_1)]) rfl rfl rfl ?_
    refine ev_x (i := .aload_n 0) (len := 1) (p' := 19) (s' := [.ref 46]) rfl rfl rfl ?_
    refine ev_x (i := .iload_n 1) (len := 1) (p' := 20) (s' := [.int x_1, .ref 46]) rfl rfl rfl ?_
    obtain ⟨p_3, G_3, H⟩ := F_bd H
    refine ev_cv (d := d + 2) (As := [.int x_1]) (a := 46) (p' := 23) rfl rfl rfl ly_46 rfl rfl rfl rfl rfl rfl rfl (F_63_ok (d := d + 1) (ht := (Or.inr rfl)) (hr_46_3 := hr_46_3) G_3) ?_
    refine ev_st (st' := [.int p_3.1]) rfl ?_
    have e_3 := F_63_R G_3
    refine ev_x (i := .iconst 2) (len := 1) (p' := 24) (s' := [.int 2, .int p_3.1]) rfl rfl rfl ?_
    refine F_if H (fun c_4 H => ?_) (fun c_4 H => ?_)
    · refine ev_b2 (t := 52) (p' := 27) rfl rfl rfl (if_neg (fun q => q c_4)) ?_
      refine ev_x (i := .aload_n 0) (len := 1) (p' := 28) (s' := [.ref 46]) rfl rfl rfl ?_
      refine ev_gr (p' := 31) (v := 21) rfl rfl rfl ly_46 rfl rfl ((congrFun (congrFun e_3 46) 3).trans hr_46_3) ?_
      refine ev_gc (p' := 34) (v := 27) rfl rfl rfl ly_21 rfl rfl ?_
      refine ev_x (i := .aload_n 0) (len := 1) (p' := 35) (s' := [.ref 46, .ref 27]) rfl rfl rfl ?_
      refine ev_gr (p' := 38) (v := 21) rfl rfl rfl ly_46 rfl rfl ((congrFun (congrFun e_3 46) 3).trans hr_46_3) ?_
      refine ev_gc (p' := 41) (v := 26) rfl rfl rfl ly_21 rfl rfl ?_
      refine ev_x (i := .iload_n 1) (len := 1) (p' := 42) (s' := [.int x_1, .ref 26, .ref 27]) rfl rfl rfl ?_
      obtain ⟨b_5, H⟩ := F_gd H
      refine ev_ga (p' := 43) (v := (gE (p_3.2) 26 (x_1 : Int32).toNatClampNeg)) rfl rfl ly_26 rfl (gd_in b_5) rfl ?_
      obtain ⟨b_6, H⟩ := F_gd H
      refine ev_ga (p' := 44) (v := (gE (p_3.2) 27 ((gE (p_3.2) 26 (x_1 : Int32).toNatClampNeg) : Int32).toNatClampNeg)) rfl rfl ly_27 rfl (gd_in b_6) rfl ?_
      refine ev_x (i := .iload_n 2) (len := 1) (p' := 45) (s' := [.int (gE (σ) 27 ((gE (σ) 25 (x_1 : Int32).toNatClampNeg) : Int32).toNatClampNeg), .int (gE (p_3.2) 27 ((gE (p_3.2) 26 (x_1 : Int32).toNatClampNeg) : Int32).toNatClampNeg)]) rfl rfl rfl ?_
      refine F_if H (fun c_7 H => ?_) (fun c_7 H => ?_)
      · refine ev_b2 (t := 52) (p' := 48) rfl rfl rfl (if_neg (fun q => q c_7)) ?_
        refine ev_x (i := .iconst 1) (len := 1) (p' := 49) (s' := [.int 1]) rfl rfl rfl ?_
        refine ev_x (i := .goto 4) (len := 3) (p' := 53) (s' := [.int 1]) rfl rfl rfl ?_
        refine ev_x (i := .istore_n 3) (len := 1) (p' := 54) (s' := []) (l' := [(3, .int 1), (2, .int (gE (σ) 27 ((gE (σ) 25 (x_1 : Int32).toNatClampNeg) : Int32).toNatClampNeg)), (0, .ref 46), (1, .int x_1)]) rfl rfl rfl ?_
        refine ev_x (i := .aload_n 0) (len := 1) (p' := 55) (s' := [.ref 46]) rfl rfl rfl ?_
        refine ev_x (i := .iload_n 1) (len := 1) (p' := 56) (s' := [.int x_1, .ref 46]) rfl rfl rfl ?_
        refine ev_x (i := .iload_n 2) (len := 1) (p' := 57) (s' := [.int (gE (σ) 27 ((gE (σ) 25 (x_1 : Int32).toNatClampNeg) : Int32).toNatClampNeg), .int x_1, .ref 46]) rfl rfl rfl ?_
        refine ev_x (i := .iload_n 3) (len := 1) (p' := 58) (s' := [.int 1, .int (gE (σ) 27 ((gE (σ) 25 (x_1 : Int32).toNatClampNeg) : Int32).toNatClampNeg), .int x_1, .ref 46]) rfl rfl rfl ?_
        obtain ⟨p_8, G_8, H⟩ := F_bd H
        refine ev_cv (d := d + 2) (As := [.int x_1, .int (gE (σ) 27 ((gE (σ) 25 (x_1 : Int32).toNatClampNeg) : Int32).toNatClampNeg), .int 1]) (a := 46) (p' := 61) rfl rfl rfl ly_46 rfl rfl rfl rfl rfl rfl rfl (F_65_ok (d := d + 0) (ht := (Or.inr rfl)) (hr_46_3 := ((congrFun (congrFun e_3 46) 3).trans hr_46_3)) G_8) ?_
        refine ev_st (st' := [.int p_8.1]) rfl ?_
        have e_8 := F_65_R G_8
        obtain rfl := Option.some.inj H
        exact ev_iret rfl rfl rfl rfl
      · refine ev_b2 (t := 52) (p' := 52) rfl rfl rfl (if_pos c_7) ?_
        exact J_66_52_ok (d := d) (Or.inr rfl) rfl rfl rfl rfl ((congrFun (congrFun e_3 46) 3).trans hr_46_3) H
    · refine ev_b2 (t := 52) (p' := 52) rfl rfl rfl (if_pos c_4) ?_
      exact J_66_52_ok (d := d) (Or.inr rfl) rfl rfl rfl rfl ((congrFun (congrFun e_3 46) 3).trans hr_46_3) H
/-- GameText$Checker.looksAtValue(I)I -/
def F_57 (N : Nat) (t : Nat) (x_1 : Int32) (σ : st_S) : Option (Int32 × st_S) :=
  if aB x_1 (gN σ (t + 2)) then
  if (gE (σ) (t + 2) (x_1 : Int32).toNatClampNeg) = 1 then
    (F_58 N t x_1 (σ)).bind fun p_3 =>
    some (p_3.1, p_3.2)
  else
  if (gE (σ) (t + 2) (x_1 : Int32).toNatClampNeg) = 4 then
    (F_64 N t x_1 1 (σ)).bind fun p_5 =>
    (F_65 N t x_1 1 p_5.1 (p_5.2)).bind fun p_6 =>
    some (p_6.1, p_6.2)
  else
  if (gE (σ) (t + 2) (x_1 : Int32).toNatClampNeg) = 5 then
    (F_64 N t x_1 1 (σ)).bind fun p_8 =>
    (F_65 N t x_1 1 p_8.1 (p_8.2)).bind fun p_9 =>
    some (p_9.1, p_9.2)
  else
  if (gE (σ) (t + 2) (x_1 : Int32).toNatClampNeg) = 6 then
    (F_64 N t x_1 1 (σ)).bind fun p_11 =>
    (F_65 N t x_1 1 p_11.1 (p_11.2)).bind fun p_12 =>
    some (p_12.1, p_12.2)
  else
  if (gE (σ) (t + 2) (x_1 : Int32).toNatClampNeg) = 7 then
    (F_64 N t x_1 1 (σ)).bind fun p_14 =>
    (F_65 N t x_1 1 p_14.1 (p_14.2)).bind fun p_15 =>
    some (p_15.1, p_15.2)
  else
  if (gE (σ) (t + 2) (x_1 : Int32).toNatClampNeg) = 8 then
    (F_64 N t x_1 1 (σ)).bind fun p_17 =>
    (F_65 N t x_1 1 p_17.1 (p_17.2)).bind fun p_18 =>
    some (p_18.1, p_18.2)
  else
  if (gE (σ) (t + 2) (x_1 : Int32).toNatClampNeg) = 9 then
    (F_63 N t x_1 (σ)).bind fun p_20 =>
    (F_65 N t x_1 1 (if p_20.1 = 1 then 1 else 0 : Int32) (p_20.2)).bind fun p_22 =>
    some (p_22.1, p_22.2)
  else
  if (gE (σ) (t + 2) (x_1 : Int32).toNatClampNeg) = 10 then
    (F_63 N t x_1 (σ)).bind fun p_24 =>
    (F_64 N t x_1 p_24.1 (p_24.2)).bind fun p_25 =>
    (F_65 N t x_1 2 p_25.1 (p_25.2)).bind fun p_26 =>
    some (p_26.1, p_26.2)
  else
  if (gE (σ) (t + 2) (x_1 : Int32).toNatClampNeg) = 11 then
    (F_63 N t x_1 (σ)).bind fun p_28 =>
    (F_64 N t x_1 p_28.1 (p_28.2)).bind fun p_29 =>
    (F_65 N t x_1 2 p_29.1 (p_29.2)).bind fun p_30 =>
    some (p_30.1, p_30.2)
  else
  if (gE (σ) (t + 2) (x_1 : Int32).toNatClampNeg) = 12 then
    (F_64 N t x_1 1 (σ)).bind fun p_32 =>
    (F_65 N t x_1 2 p_32.1 (p_32.2)).bind fun p_33 =>
    some (p_33.1, p_33.2)
  else
  if (gE (σ) (t + 2) (x_1 : Int32).toNatClampNeg) = 13 then
    (F_64 N t x_1 1 (σ)).bind fun p_35 =>
    (F_65 N t x_1 2 p_35.1 (p_35.2)).bind fun p_36 =>
    some (p_36.1, p_36.2)
  else
  if (gE (σ) (t + 2) (x_1 : Int32).toNatClampNeg) = 14 then
    (F_64 N t x_1 1 (σ)).bind fun p_38 =>
    (F_65 N t x_1 2 p_38.1 (p_38.2)).bind fun p_39 =>
    some (p_39.1, p_39.2)
  else
  if (gE (σ) (t + 2) (x_1 : Int32).toNatClampNeg) = 15 then
    (F_64 N t x_1 1 (σ)).bind fun p_41 =>
    (F_65 N t x_1 2 p_41.1 (p_41.2)).bind fun p_42 =>
    some (p_42.1, p_42.2)
  else
  if (gE (σ) (t + 2) (x_1 : Int32).toNatClampNeg) = 16 then
    (F_63 N t x_1 (σ)).bind fun p_44 =>
    (F_65 N t x_1 2 (if p_44.1 = 2 then 1 else 0 : Int32) (p_44.2)).bind fun p_46 =>
    some (p_46.1, p_46.2)
  else
  if (gE (σ) (t + 2) (x_1 : Int32).toNatClampNeg) = 17 then
    (F_64 N t x_1 2 (σ)).bind fun p_48 =>
    (F_65 N t x_1 2 p_48.1 (p_48.2)).bind fun p_49 =>
    some (p_49.1, p_49.2)
  else
  if (gE (σ) (t + 2) (x_1 : Int32).toNatClampNeg) = 18 then
    (F_64 N t x_1 2 (σ)).bind fun p_51 =>
    (F_65 N t x_1 2 p_51.1 (p_51.2)).bind fun p_52 =>
    some (p_52.1, p_52.2)
  else
  if (gE (σ) (t + 2) (x_1 : Int32).toNatClampNeg) = 19 then
    (F_66 N t x_1 (σ)).bind fun p_54 =>
    some (p_54.1, p_54.2)
  else
  if (gE (σ) (t + 2) (x_1 : Int32).toNatClampNeg) = 20 then
    (F_64 N t x_1 1 (σ)).bind fun p_56 =>
    (F_65 N t x_1 (if p_56.1 = 0 then 0 else 1 : Int32) 1 (p_56.2)).bind fun p_58 =>
    some (p_58.1, p_58.2)
  else
  if (gE (σ) (t + 2) (x_1 : Int32).toNatClampNeg) = 21 then
    (F_64 N t x_1 1 (σ)).bind fun p_60 =>
    (F_65 N t x_1 (if p_60.1 = 0 then 0 else 1 : Int32) 1 (p_60.2)).bind fun p_62 =>
    some (p_62.1, p_62.2)
  else
  if (gE (σ) (t + 2) (x_1 : Int32).toNatClampNeg) = 22 then
    (F_63 N t x_1 (σ)).bind fun p_64 =>
    (F_65 N t x_1 1 (if p_64.1 = 1 then 1 else 0 : Int32) (p_64.2)).bind fun p_66 =>
    some (p_66.1, p_66.2)
  else
    some (0, σ)
  else none
set_option maxRecDepth 100000 in
theorem F_57_R {N : Nat} {t : Nat} {x_1 : Int32} {σ : st_S} {p : Int32 × st_S} (H : F_57 N t x_1 σ = some p) : gR p.2 = gR σ := by
  unfold F_57 at H
  obtain ⟨_, H⟩ := F_gd H
  refine F_if H (fun _ H => ?_) (fun _ H => ?_)
  · obtain ⟨p_3, G_3, H⟩ := F_bd H
    obtain rfl := Option.some.inj H
    exact ((F_58_R G_3).trans rfl)
  · refine F_if H (fun _ H => ?_) (fun _ H => ?_)
    · obtain ⟨p_5, G_5, H⟩ := F_bd H
      obtain ⟨p_6, G_6, H⟩ := F_bd H
      obtain rfl := Option.some.inj H
      exact ((F_65_R G_6).trans ((F_64_R G_5).trans rfl))
    · refine F_if H (fun _ H => ?_) (fun _ H => ?_)
      · obtain ⟨p_8, G_8, H⟩ := F_bd H
        obtain ⟨p_9, G_9, H⟩ := F_bd H
        obtain rfl := Option.some.inj H
        exact ((F_65_R G_9).trans ((F_64_R G_8).trans rfl))
      · refine F_if H (fun _ H => ?_) (fun _ H => ?_)
        · obtain ⟨p_11, G_11, H⟩ := F_bd H
          obtain ⟨p_12, G_12, H⟩ := F_bd H
          obtain rfl := Option.some.inj H
          exact ((F_65_R G_12).trans ((F_64_R G_11).trans rfl))
        · refine F_if H (fun _ H => ?_) (fun _ H => ?_)
          · obtain ⟨p_14, G_14, H⟩ := F_bd H
            obtain ⟨p_15, G_15, H⟩ := F_bd H
            obtain rfl := Option.some.inj H
            exact ((F_65_R G_15).trans ((F_64_R G_14).trans rfl))
          · refine F_if H (fun _ H => ?_) (fun _ H => ?_)
            · obtain ⟨p_17, G_17, H⟩ := F_bd H
              obtain ⟨p_18, G_18, H⟩ := F_bd H
              obtain rfl := Option.some.inj H
              exact ((F_65_R G_18).trans ((F_64_R G_17).trans rfl))
            · refine F_if H (fun _ H => ?_) (fun _ H => ?_)
              · obtain ⟨p_20, G_20, H⟩ := F_bd H
                obtain ⟨p_22, G_22, H⟩ := F_bd H
                obtain rfl := Option.some.inj H
                exact ((F_65_R G_22).trans ((F_63_R G_20).trans rfl))
              · refine F_if H (fun _ H => ?_) (fun _ H => ?_)
                · obtain ⟨p_24, G_24, H⟩ := F_bd H
                  obtain ⟨p_25, G_25, H⟩ := F_bd H
                  obtain ⟨p_26, G_26, H⟩ := F_bd H
                  obtain rfl := Option.some.inj H
                  exact ((F_65_R G_26).trans ((F_64_R G_25).trans ((F_63_R G_24).trans rfl)))
                · refine F_if H (fun _ H => ?_) (fun _ H => ?_)
                  · obtain ⟨p_28, G_28, H⟩ := F_bd H
                    obtain ⟨p_29, G_29, H⟩ := F_bd H
                    obtain ⟨p_30, G_30, H⟩ := F_bd H
                    obtain rfl := Option.some.inj H
                    exact ((F_65_R G_30).trans ((F_64_R G_29).trans ((F_63_R G_28).trans rfl)))
                  · refine F_if H (fun _ H => ?_) (fun _ H => ?_)
                    · obtain ⟨p_32, G_32, H⟩ := F_bd H
                      obtain ⟨p_33, G_33, H⟩ := F_bd H
                      obtain rfl := Option.some.inj H
                      exact ((F_65_R G_33).trans ((F_64_R G_32).trans rfl))
                    · refine F_if H (fun _ H => ?_) (fun _ H => ?_)
                      · obtain ⟨p_35, G_35, H⟩ := F_bd H
                        obtain ⟨p_36, G_36, H⟩ := F_bd H
                        obtain rfl := Option.some.inj H
                        exact ((F_65_R G_36).trans ((F_64_R G_35).trans rfl))
                      · refine F_if H (fun _ H => ?_) (fun _ H => ?_)
                        · obtain ⟨p_38, G_38, H⟩ := F_bd H
                          obtain ⟨p_39, G_39, H⟩ := F_bd H
                          obtain rfl := Option.some.inj H
                          exact ((F_65_R G_39).trans ((F_64_R G_38).trans rfl))
                        · refine F_if H (fun _ H => ?_) (fun _ H => ?_)
                          · obtain ⟨p_41, G_41, H⟩ := F_bd H
                            obtain ⟨p_42, G_42, H⟩ := F_bd H
                            obtain rfl := Option.some.inj H
                            exact ((F_65_R G_42).trans ((F_64_R G_41).trans rfl))
                          · refine F_if H (fun _ H => ?_) (fun _ H => ?_)
                            · obtain ⟨p_44, G_44, H⟩ := F_bd H
                              obtain ⟨p_46, G_46, H⟩ := F_bd H
                              obtain rfl := Option.some.inj H
                              exact ((F_65_R G_46).trans ((F_63_R G_44).trans rfl))
                            · refine F_if H (fun _ H => ?_) (fun _ H => ?_)
                              · obtain ⟨p_48, G_48, H⟩ := F_bd H
                                obtain ⟨p_49, G_49, H⟩ := F_bd H
                                obtain rfl := Option.some.inj H
                                exact ((F_65_R G_49).trans ((F_64_R G_48).trans rfl))
                              · refine F_if H (fun _ H => ?_) (fun _ H => ?_)
                                · obtain ⟨p_51, G_51, H⟩ := F_bd H
                                  obtain ⟨p_52, G_52, H⟩ := F_bd H
                                  obtain rfl := Option.some.inj H
                                  exact ((F_65_R G_52).trans ((F_64_R G_51).trans rfl))
                                · refine F_if H (fun _ H => ?_) (fun _ H => ?_)
                                  · obtain ⟨p_54, G_54, H⟩ := F_bd H
                                    obtain rfl := Option.some.inj H
                                    exact ((F_66_R G_54).trans rfl)
                                  · refine F_if H (fun _ H => ?_) (fun _ H => ?_)
                                    · obtain ⟨p_56, G_56, H⟩ := F_bd H
                                      obtain ⟨p_58, G_58, H⟩ := F_bd H
                                      obtain rfl := Option.some.inj H
                                      exact ((F_65_R G_58).trans ((F_64_R G_56).trans rfl))
                                    · refine F_if H (fun _ H => ?_) (fun _ H => ?_)
                                      · obtain ⟨p_60, G_60, H⟩ := F_bd H
                                        obtain ⟨p_62, G_62, H⟩ := F_bd H
                                        obtain rfl := Option.some.inj H
                                        exact ((F_65_R G_62).trans ((F_64_R G_60).trans rfl))
                                      · refine F_if H (fun _ H => ?_) (fun _ H => ?_)
                                        · obtain ⟨p_64, G_64, H⟩ := F_bd H
                                          obtain ⟨p_66, G_66, H⟩ := F_bd H
                                          obtain rfl := Option.some.inj H
                                          exact ((F_65_R G_66).trans ((F_63_R G_64).trans rfl))
                                        · obtain rfl := Option.some.inj H
                                          exact rfl
set_option maxHeartbeats 4000000 in
set_option maxRecDepth 100000 in
theorem F_57_ok {N d : Nat} {t : Nat} (ht : t = 4 ∨ t = 20) {x_1 : Int32} {σ : st_S} {p : Int32 × st_S} (hr_46_2 : gR σ 46 2 = t) (hr_46_3 : gR σ 46 3 = (t + 1)) (H : F_57 N t x_1 σ = some p) : vz_ev P0 (d + 4) 57 0 (lv_args 0 [.ref 46, .int x_1]) [] (hp σ) (.inl (some (.int p.1)), hp p.2) := by
  unfold F_57 at H
  rcases ht with rfl | rfl
  · refine ev_x (i := .aload_n 0) (len := 1) (p' := 1) (s' := [.ref 46]) rfl rfl rfl ?_
    refine ev_gr (p' := 4) (v := 5) rfl rfl rfl ly_46 rfl rfl hr_46_3 ?_
    refine ev_gc (p' := 7) (v := 6) rfl rfl rfl ly_5 rfl rfl ?_
    refine ev_x (i := .iload_n 1) (len := 1) (p' := 8) (s' := [.int x_1, .ref 6]) rfl rfl rfl ?_
    obtain ⟨b_1, H⟩ := F_gd H
    refine ev_ga (p' := 9) (v := (gE (σ) 6 (x_1 : Int32).toNatClampNeg)) rfl rfl ly_6 rfl (gd_in b_1) rfl ?_
    refine F_if H (fun c_2 H => ?_) (fun c_2 H => ?_)
    · refine ev_st (st' := [.int 1]) (congrArg (fun z => Value.int z :: []) c_2) ?_
      refine ev_ts (off := 103) (t := 112) rfl rfl (by decide) rfl ?_
      refine ev_x (i := .aload_n 0) (len := 1) (p' := 113) (s' := [.ref 46]) rfl rfl rfl ?_
      refine ev_x (i := .iload_n 1) (len := 1) (p' := 114) (s' := [.int x_1, .ref 46]) rfl rfl rfl ?_
      obtain ⟨p_3, G_3, H⟩ := F_bd H
      refine ev_cv (d := d + 3) (As := [.int x_1]) (a := 46) (p' := 117) rfl rfl rfl ly_46 rfl rfl rfl rfl rfl rfl rfl (F_58_ok (d := d + 0) (ht := (Or.inl rfl)) (hr_46_2 := hr_46_2) (hr_46_3 := hr_46_3) G_3) ?_
      refine ev_st (st' := [.int p_3.1]) rfl ?_
      have e_3 := F_58_R G_3
      obtain rfl := Option.some.inj H
      exact ev_iret rfl rfl rfl rfl
    · refine F_if H (fun c_4 H => ?_) (fun c_4 H => ?_)
      · refine ev_st (st' := [.int 4]) (congrArg (fun z => Value.int z :: []) c_4) ?_
        refine ev_ts (off := 109) (t := 118) rfl rfl (by decide) rfl ?_
        refine ev_x (i := .aload_n 0) (len := 1) (p' := 119) (s' := [.ref 46]) rfl rfl rfl ?_
        refine ev_x (i := .iload_n 1) (len := 1) (p' := 120) (s' := [.int x_1, .ref 46]) rfl rfl rfl ?_
        refine ev_x (i := .iconst 1) (len := 1) (p' := 121) (s' := [.int 1, .int x_1, .ref 46]) rfl rfl rfl ?_
        refine ev_x (i := .aload_n 0) (len := 1) (p' := 122) (s' := [.ref 46, .int 1, .int x_1, .ref 46]) rfl rfl rfl ?_
        refine ev_x (i := .iload_n 1) (len := 1) (p' := 123) (s' := [.int x_1, .ref 46, .int 1, .int x_1, .ref 46]) rfl rfl rfl ?_
        refine ev_x (i := .iconst 1) (len := 1) (p' := 124) (s' := [.int 1, .int x_1, .ref 46, .int 1, .int x_1, .ref 46]) rfl rfl rfl ?_
        obtain ⟨p_5, G_5, H⟩ := F_bd H
        refine ev_cv (d := d + 3) (As := [.int x_1, .int 1]) (a := 46) (p' := 127) rfl rfl rfl ly_46 rfl rfl rfl rfl rfl rfl rfl (F_64_ok (d := d + 2) (ht := (Or.inl rfl)) (hr_46_3 := hr_46_3) G_5) ?_
        refine ev_st (st' := [.int p_5.1, .int 1, .int x_1, .ref 46]) rfl ?_
        have e_5 := F_64_R G_5
        obtain ⟨p_6, G_6, H⟩ := F_bd H
        refine ev_cv (d := d + 3) (As := [.int x_1, .int 1, .int p_5.1]) (a := 46) (p' := 130) rfl rfl rfl ly_46 rfl rfl rfl rfl rfl rfl rfl (F_65_ok (d := d + 1) (ht := (Or.inl rfl)) (hr_46_3 := ((congrFun (congrFun e_5 46) 3).trans hr_46_3)) G_6) ?_
        refine ev_st (st' := [.int p_6.1]) rfl ?_
        have e_6 := F_65_R G_6
        obtain rfl := Option.some.inj H
        exact ev_iret rfl rfl rfl rfl
      · refine F_if H (fun c_7 H => ?_) (fun c_7 H => ?_)
        · refine ev_st (st' := [.int 5]) (congrArg (fun z => Value.int z :: []) c_7) ?_
          refine ev_ts (off := 109) (t := 118) rfl rfl (by decide) rfl ?_
          refine ev_x (i := .aload_n 0) (len := 1) (p' := 119) (s' := [.ref 46]) rfl rfl rfl ?_
          refine ev_x (i := .iload_n 1) (len := 1) (p' := 120) (s' := [.int x_1, .ref 46]) rfl rfl rfl ?_
          refine ev_x (i := .iconst 1) (len := 1) (p' := 121) (s' := [.int 1, .int x_1, .ref 46]) rfl rfl rfl ?_
          refine ev_x (i := .aload_n 0) (len := 1) (p' := 122) (s' := [.ref 46, .int 1, .int x_1, .ref 46]) rfl rfl rfl ?_
          refine ev_x (i := .iload_n 1) (len := 1) (p' := 123) (s' := [.int x_1, .ref 46, .int 1, .int x_1, .ref 46]) rfl rfl rfl ?_
          refine ev_x (i := .iconst 1) (len := 1) (p' := 124) (s' := [.int 1, .int x_1, .ref 46, .int 1, .int x_1, .ref 46]) rfl rfl rfl ?_
          obtain ⟨p_8, G_8, H⟩ := F_bd H
          refine ev_cv (d := d + 3) (As := [.int x_1, .int 1]) (a := 46) (p' := 127) rfl rfl rfl ly_46 rfl rfl rfl rfl rfl rfl rfl (F_64_ok (d := d + 2) (ht := (Or.inl rfl)) (hr_46_3 := hr_46_3) G_8) ?_
          refine ev_st (st' := [.int p_8.1, .int 1, .int x_1, .ref 46]) rfl ?_
          have e_8 := F_64_R G_8
          obtain ⟨p_9, G_9, H⟩ := F_bd H
          refine ev_cv (d := d + 3) (As := [.int x_1, .int 1, .int p_8.1]) (a := 46) (p' := 130) rfl rfl rfl ly_46 rfl rfl rfl rfl rfl rfl rfl (F_65_ok (d := d + 1) (ht := (Or.inl rfl)) (hr_46_3 := ((congrFun (congrFun e_8 46) 3).trans hr_46_3)) G_9) ?_
          refine ev_st (st' := [.int p_9.1]) rfl ?_
          have e_9 := F_65_R G_9
          obtain rfl := Option.some.inj H
          exact ev_iret rfl rfl rfl rfl
        · refine F_if H (fun c_10 H => ?_) (fun c_10 H => ?_)
          · refine ev_st (st' := [.int 6]) (congrArg (fun z => Value.int z :: []) c_10) ?_
            refine ev_ts (off := 109) (t := 118) rfl rfl (by decide) rfl ?_
            refine ev_x (i := .aload_n 0) (len := 1) (p' := 119) (s' := [.ref 46]) rfl rfl rfl ?_
            refine ev_x (i := .iload_n 1) (len := 1) (p' := 120) (s' := [.int x_1, .ref 46]) rfl rfl rfl ?_
            refine ev_x (i := .iconst 1) (len := 1) (p' := 121) (s' := [.int 1, .int x_1, .ref 46]) rfl rfl rfl ?_
            refine ev_x (i := .aload_n 0) (len := 1) (p' := 122) (s' := [.ref 46, .int 1, .int x_1, .ref 46]) rfl rfl rfl ?_
            refine ev_x (i := .iload_n 1) (len := 1) (p' := 123) (s' := [.int x_1, .ref 46, .int 1, .int x_1, .ref 46]) rfl rfl rfl ?_
            refine ev_x (i := .iconst 1) (len := 1) (p' := 124) (s' := [.int 1, .int x_1, .ref 46, .int 1, .int x_1, .ref 46]) rfl rfl rfl ?_
            obtain ⟨p_11, G_11, H⟩ := F_bd H
            refine ev_cv (d := d + 3) (As := [.int x_1, .int 1]) (a := 46) (p' := 127) rfl rfl rfl ly_46 rfl rfl rfl rfl rfl rfl rfl (F_64_ok (d := d + 2) (ht := (Or.inl rfl)) (hr_46_3 := hr_46_3) G_11) ?_
            refine ev_st (st' := [.int p_11.1, .int 1, .int x_1, .ref 46]) rfl ?_
            have e_11 := F_64_R G_11
            obtain ⟨p_12, G_12, H⟩ := F_bd H
            refine ev_cv (d := d + 3) (As := [.int x_1, .int 1, .int p_11.1]) (a := 46) (p' := 130) rfl rfl rfl ly_46 rfl rfl rfl rfl rfl rfl rfl (F_65_ok (d := d + 1) (ht := (Or.inl rfl)) (hr_46_3 := ((congrFun (congrFun e_11 46) 3).trans hr_46_3)) G_12) ?_
            refine ev_st (st' := [.int p_12.1]) rfl ?_
            have e_12 := F_65_R G_12
            obtain rfl := Option.some.inj H
            exact ev_iret rfl rfl rfl rfl
          · refine F_if H (fun c_13 H => ?_) (fun c_13 H => ?_)
            · refine ev_st (st' := [.int 7]) (congrArg (fun z => Value.int z :: []) c_13) ?_
              refine ev_ts (off := 109) (t := 118) rfl rfl (by decide) rfl ?_
              refine ev_x (i := .aload_n 0) (len := 1) (p' := 119) (s' := [.ref 46]) rfl rfl rfl ?_
              refine ev_x (i := .iload_n 1) (len := 1) (p' := 120) (s' := [.int x_1, .ref 46]) rfl rfl rfl ?_
              refine ev_x (i := .iconst 1) (len := 1) (p' := 121) (s' := [.int 1, .int x_1, .ref 46]) rfl rfl rfl ?_
              refine ev_x (i := .aload_n 0) (len := 1) (p' := 122) (s' := [.ref 46, .int 1, .int x_1, .ref 46]) rfl rfl rfl ?_
              refine ev_x (i := .iload_n 1) (len := 1) (p' := 123) (s' := [.int x_1, .ref 46, .int 1, .int x_1, .ref 46]) rfl rfl rfl ?_
              refine ev_x (i := .iconst 1) (len := 1) (p' := 124) (s' := [.int 1, .int x_1, .ref 46, .int 1, .int x_1, .ref 46]) rfl rfl rfl ?_
              obtain ⟨p_14, G_14, H⟩ := F_bd H
              refine ev_cv (d := d + 3) (As := [.int x_1, .int 1]) (a := 46) (p' := 127) rfl rfl rfl ly_46 rfl rfl rfl rfl rfl rfl rfl (F_64_ok (d := d + 2) (ht := (Or.inl rfl)) (hr_46_3 := hr_46_3) G_14) ?_
              refine ev_st (st' := [.int p_14.1, .int 1, .int x_1, .ref 46]) rfl ?_
              have e_14 := F_64_R G_14
              obtain ⟨p_15, G_15, H⟩ := F_bd H
              refine ev_cv (d := d + 3) (As := [.int x_1, .int 1, .int p_14.1]) (a := 46) (p' := 130) rfl rfl rfl ly_46 rfl rfl rfl rfl rfl rfl rfl (F_65_ok (d := d + 1) (ht := (Or.inl rfl)) (hr_46_3 := ((congrFun (congrFun e_14 46) 3).trans hr_46_3)) G_15) ?_
              refine ev_st (st' := [.int p_15.1]) rfl ?_
              have e_15 := F_65_R G_15
              obtain rfl := Option.some.inj H
              exact ev_iret rfl rfl rfl rfl
            · refine F_if H (fun c_16 H => ?_) (fun c_16 H => ?_)
              · refine ev_st (st' := [.int 8]) (congrArg (fun z => Value.int z :: []) c_16) ?_
                refine ev_ts (off := 109) (t := 118) rfl rfl (by decide) rfl ?_
                refine ev_x (i := .aload_n 0) (len := 1) (p' := 119) (s' := [.ref 46]) rfl rfl rfl ?_
                refine ev_x (i := .iload_n 1) (len := 1) (p' := 120) (s' := [.int x_1, .ref 46]) rfl rfl rfl ?_
                refine ev_x (i := .iconst 1) (len := 1) (p' := 121) (s' := [.int 1, .int x_1, .ref 46]) rfl rfl rfl ?_
                refine ev_x (i := .aload_n 0) (len := 1) (p' := 122) (s' := [.ref 46, .int 1, .int x_1, .ref 46]) rfl rfl rfl ?_
                refine ev_x (i := .iload_n 1) (len := 1) (p' := 123) (s' := [.int x_1, .ref 46, .int 1, .int x_1, .ref 46]) rfl rfl rfl ?_
                refine ev_x (i := .iconst 1) (len := 1) (p' := 124) (s' := [.int 1, .int x_1, .ref 46, .int 1, .int x_1, .ref 46]) rfl rfl rfl ?_
                obtain ⟨p_17, G_17, H⟩ := F_bd H
                refine ev_cv (d := d + 3) (As := [.int x_1, .int 1]) (a := 46) (p' := 127) rfl rfl rfl ly_46 rfl rfl rfl rfl rfl rfl rfl (F_64_ok (d := d + 2) (ht := (Or.inl rfl)) (hr_46_3 := hr_46_3) G_17) ?_
                refine ev_st (st' := [.int p_17.1, .int 1, .int x_1, .ref 46]) rfl ?_
                have e_17 := F_64_R G_17
                obtain ⟨p_18, G_18, H⟩ := F_bd H
                refine ev_cv (d := d + 3) (As := [.int x_1, .int 1, .int p_17.1]) (a := 46) (p' := 130) rfl rfl rfl ly_46 rfl rfl rfl rfl rfl rfl rfl (F_65_ok (d := d + 1) (ht := (Or.inl rfl)) (hr_46_3 := ((congrFun (congrFun e_17 46) 3).trans hr_46_3)) G_18) ?_
                refine ev_st (st' := [.int p_18.1]) rfl ?_
                have e_18 := F_65_R G_18
                obtain rfl := Option.some.inj H
                exact ev_iret rfl rfl rfl rfl
              · refine F_if H (fun c_19 H => ?_) (fun c_19 H => ?_)
                · refine ev_st (st' := [.int 9]) (congrArg (fun z => Value.int z :: []) c_19) ?_
                  refine ev_ts (off := 122) (t := 131) rfl rfl (by decide) rfl ?_
                  refine ev_x (i := .aload_n 0) (len := 1) (p' := 132) (s' := [.ref 46]) rfl rfl rfl ?_
                  refine ev_x (i := .iload_n 1) (len := 1) (p' := 133) (s' := [.int x_1, .ref 46]) rfl rfl rfl ?_
                  refine ev_x (i := .iconst 1) (len := 1) (p' := 134) (s' := [.int 1, .int x_1, .ref 46]) rfl rfl rfl ?_
                  refine ev_x (i := .aload_n 0) (len := 1) (p' := 135) (s' := [.ref 46, .int 1, .int x_1, .ref 46]) rfl rfl rfl ?_
                  refine ev_x (i := .iload_n 1) (len := 1) (p' := 136) (s' := [.int x_1, .ref 46, .int 1, .int x_1, .ref 46]) rfl rfl rfl ?_
                  obtain ⟨p_20, G_20, H⟩ := F_bd H
                  refine ev_cv (d := d + 3) (As := [.int x_1]) (a := 46) (p' := 139) rfl rfl rfl ly_46 rfl rfl rfl rfl rfl rfl rfl (F_63_ok (d := d + 2) (ht := (Or.inl rfl)) (hr_46_3 := hr_46_3) G_20) ?_
                  refine ev_st (st' := [.int p_20.1, .int 1, .int x_1, .ref 46]) rfl ?_
                  have e_20 := F_63_R G_20
                  refine ev_x (i := .iconst 1) (len := 1) (p' := 140) (s' := [.int 1, .int p_20.1, .int 1, .int x_1, .ref 46]) rfl rfl rfl ?_
                  refine F_jn (A := vz_ev P0 (d + 4) 57 148 [(0, .ref 46), (1, .int x_1)] [.int (if p_20.1 = 1 then 1 else 0 : Int32), .int 1, .int x_1, .ref 46] (hp (p_20.2)) (.inl (some (.int p.1)), hp p.2)) ?_ (fun J => ?_)
                  · obtain ⟨p_22, G_22, H⟩ := F_bd H
                    refine ev_cv (d := d + 3) (As := [.int x_1, .int 1, .int (if p_20.1 = 1 then 1 else 0 : Int32)]) (a := 46) (p' := 151) rfl rfl rfl ly_46 rfl rfl rfl rfl rfl rfl rfl (F_65_ok (d := d + 1) (ht := (Or.inl rfl)) (hr_46_3 := ((congrFun (congrFun e_20 46) 3).trans hr_46_3)) G_22) ?_
                    refine ev_st (st' := [.int p_22.1]) rfl ?_
                    have e_22 := F_65_R G_22
                    obtain rfl := Option.some.inj H
                    exact ev_iret rfl rfl rfl rfl
                  · by_cases c_21 : p_20.1 = 1
                    · refine ev_b2 (t := 147) (p' := 143) rfl rfl rfl (if_neg (fun q => q c_21)) ?_
                      refine ev_x (i := .iconst 1) (len := 1) (p' := 144) (s' := [.int 1, .int 1, .int x_1, .ref 46]) rfl rfl rfl ?_
                      refine ev_x (i := .goto 4) (len := 3) (p' := 148) (s' := [.int 1, .int 1, .int x_1, .ref 46]) rfl rfl rfl ?_
                      exact ev_st (congrArg (fun z => Value.int z :: [.int 1, .int x_1, .ref 46]) (by rw [if_pos c_21])) J
                    · refine ev_b2 (t := 147) (p' := 147) rfl rfl rfl (if_pos c_21) ?_
                      refine ev_x (i := .iconst 0) (len := 1) (p' := 148) (s' := [.int 0, .int 1, .int x_1, .ref 46]) rfl rfl rfl ?_
                      exact ev_st (congrArg (fun z => Value.int z :: [.int 1, .int x_1, .ref 46]) (by rw [if_neg c_21])) J
                · refine F_if H (fun c_23 H => ?_) (fun c_23 H => ?_)
                  · refine ev_st (st' := [.int 10]) (congrArg (fun z => Value.int z :: []) c_23) ?_
                    refine ev_ts (off := 143) (t := 152) rfl rfl (by decide) rfl ?_
                    refine ev_x (i := .aload_n 0) (len := 1) (p' := 153) (s' := [.ref 46]) rfl rfl rfl ?_
                    refine ev_x (i := .iload_n 1) (len := 1) (p' := 154) (s' := [.int x_1, .ref 46]) rfl rfl rfl ?_
                    refine ev_x (i := .iconst 2) (len := 1) (p' := 155) (s' := [.int 2, .int x_1, .ref 46]) rfl rfl rfl ?_
                    refine ev_x (i := .aload_n 0) (len := 1) (p' := 156) (s' := [.ref 46, .int 2, .int x_1, .ref 46]) rfl rfl rfl ?_
                    refine ev_x (i := .iload_n 1) (len := 1) (p' := 157) (s' := [.int x_1, .ref 46, .int 2, .int x_1, .ref 46]) rfl rfl rfl ?_
                    refine ev_x (i := .aload_n 0) (len := 1) (p' := 158) (s' := [.ref 46, .int x_1, .ref 46, .int 2, .int x_1, .ref 46]) rfl rfl rfl ?_
                    refine ev_x (i := .iload_n 1) (len := 1) (p' := 159) (s' := [.int x_1, .ref 46, .int x_1, .ref 46, .int 2, .int x_1, .ref 46]) rfl rfl rfl ?_
                    obtain ⟨p_24, G_24, H⟩ := F_bd H
                    refine ev_cv (d := d + 3) (As := [.int x_1]) (a := 46) (p' := 162) rfl rfl rfl ly_46 rfl rfl rfl rfl rfl rfl rfl (F_63_ok (d := d + 2) (ht := (Or.inl rfl)) (hr_46_3 := hr_46_3) G_24) ?_
                    refine ev_st (st' := [.int p_24.1, .int x_1, .ref 46, .int 2, .int x_1, .ref 46]) rfl ?_
                    have e_24 := F_63_R G_24
                    obtain ⟨p_25, G_25, H⟩ := F_bd H
                    refine ev_cv (d := d + 3) (As := [.int x_1, .int p_24.1]) (a := 46) (p' := 165) rfl rfl rfl ly_46 rfl rfl rfl rfl rfl rfl rfl (F_64_ok (d := d + 2) (ht := (Or.inl rfl)) (hr_46_3 := ((congrFun (congrFun e_24 46) 3).trans hr_46_3)) G_25) ?_
                    refine ev_st (st' := [.int p_25.1, .int 2, .int x_1, .ref 46]) rfl ?_
                    have e_25 := F_64_R G_25
                    obtain ⟨p_26, G_26, H⟩ := F_bd H
                    refine ev_cv (d := d + 3) (As := [.int x_1, .int 2, .int p_25.1]) (a := 46) (p' := 168) rfl rfl rfl ly_46 rfl rfl rfl rfl rfl rfl rfl (F_65_ok (d := d + 1) (ht := (Or.inl rfl)) (hr_46_3 := ((congrFun (congrFun e_25 46) 3).trans ((congrFun (congrFun e_24 46) 3).trans hr_46_3))) G_26) ?_
                    refine ev_st (st' := [.int p_26.1]) rfl ?_
                    have e_26 := F_65_R G_26
                    obtain rfl := Option.some.inj H
                    exact ev_iret rfl rfl rfl rfl
                  · refine F_if H (fun c_27 H => ?_) (fun c_27 H => ?_)
                    · refine ev_st (st' := [.int 11]) (congrArg (fun z => Value.int z :: []) c_27) ?_
                      refine ev_ts (off := 143) (t := 152) rfl rfl (by decide) rfl ?_
                      refine ev_x (i := .aload_n 0) (len := 1) (p' := 153) (s' := [.ref 46]) rfl rfl rfl ?_
                      refine ev_x (i := .iload_n 1) (len := 1) (p' := 154) (s' := [.int x_1, .ref 46]) rfl rfl rfl ?_
                      refine ev_x (i := .iconst 2) (len := 1) (p' := 155) (s' := [.int 2, .int x_1, .ref 46]) rfl rfl rfl ?_
                      refine ev_x (i := .aload_n 0) (len := 1) (p' := 156) (s' := [.ref 46, .int 2, .int x_1, .ref 46]) rfl rfl rfl ?_
                      refine ev_x (i := .iload_n 1) (len := 1) (p' := 157) (s' := [.int x_1, .ref 46, .int 2, .int x_1, .ref 46]) rfl rfl rfl ?_
                      refine ev_x (i := .aload_n 0) (len := 1) (p' := 158) (s' := [.ref 46, .int x_1, .ref 46, .int 2, .int x_1, .ref 46]) rfl rfl rfl ?_
                      refine ev_x (i := .iload_n 1) (len := 1) (p' := 159) (s' := [.int x_1, .ref 46, .int x_1, .ref 46, .int 2, .int x_1, .ref 46]) rfl rfl rfl ?_
                      obtain ⟨p_28, G_28, H⟩ := F_bd H
                      refine ev_cv (d := d + 3) (As := [.int x_1]) (a := 46) (p' := 162) rfl rfl rfl ly_46 rfl rfl rfl rfl rfl rfl rfl (F_63_ok (d := d + 2) (ht := (Or.inl rfl)) (hr_46_3 := hr_46_3) G_28) ?_
                      refine ev_st (st' := [.int p_28.1, .int x_1, .ref 46, .int 2, .int x_1, .ref 46]) rfl ?_
                      have e_28 := F_63_R G_28
                      obtain ⟨p_29, G_29, H⟩ := F_bd H
                      refine ev_cv (d := d + 3) (As := [.int x_1, .int p_28.1]) (a := 46) (p' := 165) rfl rfl rfl ly_46 rfl rfl rfl rfl rfl rfl rfl (F_64_ok (d := d + 2) (ht := (Or.inl rfl)) (hr_46_3 := ((congrFun (congrFun e_28 46) 3).trans hr_46_3)) G_29) ?_
                      refine ev_st (st' := [.int p_29.1, .int 2, .int x_1, .ref 46]) rfl ?_
                      have e_29 := F_64_R G_29
                      obtain ⟨p_30, G_30, H⟩ := F_bd H
                      refine ev_cv (d := d + 3) (As := [.int x_1, .int 2, .int p_29.1]) (a := 46) (p' := 168) rfl rfl rfl ly_46 rfl rfl rfl rfl rfl rfl rfl (F_65_ok (d := d + 1) (ht := (Or.inl rfl)) (hr_46_3 := ((congrFun (congrFun e_29 46) 3).trans ((congrFun (congrFun e_28 46) 3).trans hr_46_3))) G_30) ?_
                      refine ev_st (st' := [.int p_30.1]) rfl ?_
                      have e_30 := F_65_R G_30
                      obtain rfl := Option.some.inj H
                      exact ev_iret rfl rfl rfl rfl
                    · refine F_if H (fun c_31 H => ?_) (fun c_31 H => ?_)
                      · refine ev_st (st' := [.int 12]) (congrArg (fun z => Value.int z :: []) c_31) ?_
                        refine ev_ts (off := 160) (t := 169) rfl rfl (by decide) rfl ?_
                        refine ev_x (i := .aload_n 0) (len := 1) (p' := 170) (s' := [.ref 46]) rfl rfl rfl ?_
                        refine ev_x (i := .iload_n 1) (len := 1) (p' := 171) (s' := [.int x_1, .ref 46]) rfl rfl rfl ?_
                        refine ev_x (i := .iconst 2) (len := 1) (p' := 172) (s' := [.int 2, .int x_1, .ref 46]) rfl rfl rfl ?_
                        refine ev_x (i := .aload_n 0) (len := 1) (p' := 173) (s' := [.ref 46, .int 2, .int x_1, .ref 46]) rfl rfl rfl ?_
                        refine ev_x (i := .iload_n 1) (len := 1) (p' := 174) (s' := [.int x_1, .ref 46, .int 2, .int x_1, .ref 46]) rfl rfl rfl ?_
                        refine ev_x (i := .iconst 1) (len := 1) (p' := 175) (s' := [.int 1, .int x_1, .ref 46, .int 2, .int x_1, .ref 46]) rfl rfl rfl ?_
                        obtain ⟨p_32, G_32, H⟩ := F_bd H
                        refine ev_cv (d := d + 3) (As := [.int x_1, .int 1]) (a := 46) (p' := 178) rfl rfl rfl ly_46 rfl rfl rfl rfl rfl rfl rfl (F_64_ok (d := d + 2) (ht := (Or.inl rfl)) (hr_46_3 := hr_46_3) G_32) ?_
                        refine ev_st (st' := [.int p_32.1, .int 2, .int x_1, .ref 46]) rfl ?_
                        have e_32 := F_64_R G_32
                        obtain ⟨p_33, G_33, H⟩ := F_bd H
                        refine ev_cv (d := d + 3) (As := [.int x_1, .int 2, .int p_32.1]) (a := 46) (p' := 181) rfl rfl rfl ly_46 rfl rfl rfl rfl rfl rfl rfl (F_65_ok (d := d + 1) (ht := (Or.inl rfl)) (hr_46_3 := ((congrFun (congrFun e_32 46) 3).trans hr_46_3)) G_33) ?_
                        refine ev_st (st' := [.int p_33.1]) rfl ?_
                        have e_33 := F_65_R G_33
                        obtain rfl := Option.some.inj H
                        exact ev_iret rfl rfl rfl rfl
                      · refine F_if H (fun c_34 H => ?_) (fun c_34 H => ?_)
                        · refine ev_st (st' := [.int 13]) (congrArg (fun z => Value.int z :: []) c_34) ?_
                          refine ev_ts (off := 160) (t := 169) rfl rfl (by decide) rfl ?_
                          refine ev_x (i := .aload_n 0) (len := 1) (p' := 170) (s' := [.ref 46]) rfl rfl rfl ?_
                          refine ev_x (i := .iload_n 1) (len := 1) (p' := 171) (s' := [.int x_1, .ref 46]) rfl rfl rfl ?_
                          refine ev_x (i := .iconst 2) (len := 1) (p' := 172) (s' := [.int 2, .int x_1, .ref 46]) rfl rfl rfl ?_
                          refine ev_x (i := .aload_n 0) (len := 1) (p' := 173) (s' := [.ref 46, .int 2, .int x_1, .ref 46]) rfl rfl rfl ?_
                          refine ev_x (i := .iload_n 1) (len := 1) (p' := 174) (s' := [.int x_1, .ref 46, .int 2, .int x_1, .ref 46]) rfl rfl rfl ?_
                          refine ev_x (i := .iconst 1) (len := 1) (p' := 175) (s' := [.int 1, .int x_1, .ref 46, .int 2, .int x_1, .ref 46]) rfl rfl rfl ?_
                          obtain ⟨p_35, G_35, H⟩ := F_bd H
                          refine ev_cv (d := d + 3) (As := [.int x_1, .int 1]) (a := 46) (p' := 178) rfl rfl rfl ly_46 rfl rfl rfl rfl rfl rfl rfl (F_64_ok (d := d + 2) (ht := (Or.inl rfl)) (hr_46_3 := hr_46_3) G_35) ?_
                          refine ev_st (st' := [.int p_35.1, .int 2, .int x_1, .ref 46]) rfl ?_
                          have e_35 := F_64_R G_35
                          obtain ⟨p_36, G_36, H⟩ := F_bd H
                          refine ev_cv (d := d + 3) (As := [.int x_1, .int 2, .int p_35.1]) (a := 46) (p' := 181) rfl rfl rfl ly_46 rfl rfl rfl rfl rfl rfl rfl (F_65_ok (d := d + 1) (ht := (Or.inl rfl)) (hr_46_3 := ((congrFun (congrFun e_35 46) 3).trans hr_46_3)) G_36) ?_
                          refine ev_st (st' := [.int p_36.1]) rfl ?_
                          have e_36 := F_65_R G_36
                          obtain rfl := Option.some.inj H
                          exact ev_iret rfl rfl rfl rfl
                        · refine F_if H (fun c_37 H => ?_) (fun c_37 H => ?_)
                          · refine ev_st (st' := [.int 14]) (congrArg (fun z => Value.int z :: []) c_37) ?_
                            refine ev_ts (off := 160) (t := 169) rfl rfl (by decide) rfl ?_
                            refine ev_x (i := .aload_n 0) (len := 1) (p' := 170) (s' := [.ref 46]) rfl rfl rfl ?_
                            refine ev_x (i := .iload_n 1) (len := 1) (p' := 171) (s' := [.int x_1, .ref 46]) rfl rfl rfl ?_
                            refine ev_x (i := .iconst 2) (len := 1) (p' := 172) (s' := [.int 2, .int x_1, .ref 46]) rfl rfl rfl ?_
                            refine ev_x (i := .aload_n 0) (len := 1) (p' := 173) (s' := [.ref 46, .int 2, .int x_1, .ref 46]) rfl rfl rfl ?_
                            refine ev_x (i := .iload_n 1) (len := 1) (p' := 174) (s' := [.int x_1, .ref 46, .int 2, .int x_1, .ref 46]) rfl rfl rfl ?_
                            refine ev_x (i := .iconst 1) (len := 1) (p' := 175) (s' := [.int 1, .int x_1, .ref 46, .int 2, .int x_1, .ref 46]) rfl rfl rfl ?_
                            obtain ⟨p_38, G_38, H⟩ := F_bd H
                            refine ev_cv (d := d + 3) (As := [.int x_1, .int 1]) (a := 46) (p' := 178) rfl rfl rfl ly_46 rfl rfl rfl rfl rfl rfl rfl (F_64_ok (d := d + 2) (ht := (Or.inl rfl)) (hr_46_3 := hr_46_3) G_38) ?_
                            refine ev_st (st' := [.int p_38.1, .int 2, .int x_1, .ref 46]) rfl ?_
                            have e_38 := F_64_R G_38
                            obtain ⟨p_39, G_39, H⟩ := F_bd H
                            refine ev_cv (d := d + 3) (As := [.int x_1, .int 2, .int p_38.1]) (a := 46) (p' := 181) rfl rfl rfl ly_46 rfl rfl rfl rfl rfl rfl rfl (F_65_ok (d := d + 1) (ht := (Or.inl rfl)) (hr_46_3 := ((congrFun (congrFun e_38 46) 3).trans hr_46_3)) G_39) ?_
                            refine ev_st (st' := [.int p_39.1]) rfl ?_
                            have e_39 := F_65_R G_39
                            obtain rfl := Option.some.inj H
                            exact ev_iret rfl rfl rfl rfl
                          · refine F_if H (fun c_40 H => ?_) (fun c_40 H => ?_)
                            · refine ev_st (st' := [.int 15]) (congrArg (fun z => Value.int z :: []) c_40) ?_
                              refine ev_ts (off := 160) (t := 169) rfl rfl (by decide) rfl ?_
                              refine ev_x (i := .aload_n 0) (len := 1) (p' := 170) (s' := [.ref 46]) rfl rfl rfl ?_
                              refine ev_x (i := .iload_n 1) (len := 1) (p' := 171) (s' := [.int x_1, .ref 46]) rfl rfl rfl ?_
                              refine ev_x (i := .iconst 2) (len := 1) (p' := 172) (s' := [.int 2, .int x_1, .ref 46]) rfl rfl rfl ?_
                              refine ev_x (i := .aload_n 0) (len := 1) (p' := 173) (s' := [.ref 46, .int 2, .int x_1, .ref 46]) rfl rfl rfl ?_
                              refine ev_x (i := .iload_n 1) (len := 1) (p' := 174) (s' := [.int x_1, .ref 46, .int 2, .int x_1, .ref 46]) rfl rfl rfl ?_
                              refine ev_x (i := .iconst 1) (len := 1) (p' := 175) (s' := [.int 1, .int x_1, .ref 46, .int 2, .int x_1, .ref 46]) rfl rfl rfl ?_
                              obtain ⟨p_41, G_41, H⟩ := F_bd H
                              refine ev_cv (d := d + 3) (As := [.int x_1, .int 1]) (a := 46) (p' := 178) rfl rfl rfl ly_46 rfl rfl rfl rfl rfl rfl rfl (F_64_ok (d := d + 2) (ht := (Or.inl rfl)) (hr_46_3 := hr_46_3) G_41) ?_
                              refine ev_st (st' := [.int p_41.1, .int 2, .int x_1, .ref 46]) rfl ?_
                              have e_41 := F_64_R G_41
                              obtain ⟨p_42, G_42, H⟩ := F_bd H
                              refine ev_cv (d := d + 3) (As := [.int x_1, .int 2, .int p_41.1]) (a := 46) (p' := 181) rfl rfl rfl ly_46 rfl rfl rfl rfl rfl rfl rfl (F_65_ok (d := d + 1) (ht := (Or.inl rfl)) (hr_46_3 := ((congrFun (congrFun e_41 46) 3).trans hr_46_3)) G_42) ?_
                              refine ev_st (st' := [.int p_42.1]) rfl ?_
                              have e_42 := F_65_R G_42
                              obtain rfl := Option.some.inj H
                              exact ev_iret rfl rfl rfl rfl
                            · refine F_if H (fun c_43 H => ?_) (fun c_43 H => ?_)
                              · refine ev_st (st' := [.int 16]) (congrArg (fun z => Value.int z :: []) c_43) ?_
                                refine ev_ts (off := 173) (t := 182) rfl rfl (by decide) rfl ?_
                                refine ev_x (i := .aload_n 0) (len := 1) (p' := 183) (s' := [.ref 46]) rfl rfl rfl ?_
                                refine ev_x (i := .iload_n 1) (len := 1) (p' := 184) (s' := [.int x_1, .ref 46]) rfl rfl rfl ?_
                                refine ev_x (i := .iconst 2) (len := 1) (p' := 185) (s' := [.int 2, .int x_1, .ref 46]) rfl rfl rfl ?_
                                refine ev_x (i := .aload_n 0) (len := 1) (p' := 186) (s' := [.ref 46, .int 2, .int x_1, .ref 46]) rfl rfl rfl ?_
                                refine ev_x (i := .iload_n 1) (len := 1) (p' := 187) (s' := [.int x_1, .ref 46, .int 2, .int x_1, .ref 46]) rfl rfl rfl ?_
                                obtain ⟨p_44, G_44, H⟩ := F_bd H
                                refine ev_cv (d := d + 3) (As := [.int x_1]) (a := 46) (p' := 190) rfl rfl rfl ly_46 rfl rfl rfl rfl rfl rfl rfl (F_63_ok (d := d + 2) (ht := (Or.inl rfl)) (hr_46_3 := hr_46_3) G_44) ?_
                                refine ev_st (st' := [.int p_44.1, .int 2, .int x_1, .ref 46]) rfl ?_
                                have e_44 := F_63_R G_44
                                refine ev_x (i := .iconst 2) (len := 1) (p' := 191) (s' := [.int 2, .int p_44.1, .int 2, .int x_1, .ref 46]) rfl rfl rfl ?_
                                refine F_jn (A := vz_ev P0 (d + 4) 57 199 [(0, .ref 46), (1, .int x_1)] [.int (if p_44.1 = 2 then 1 else 0 : Int32), .int 2, .int x_1, .ref 46] (hp (p_44.2)) (.inl (some (.int p.1)), hp p.2)) ?_ (fun J => ?_)
                                · obtain ⟨p_46, G_46, H⟩ := F_bd H
                                  refine ev_cv (d := d + 3) (As := [.int x_1, .int 2, .int (if p_44.1 = 2 then 1 else 0 : Int32)]) (a := 46) (p' := 202) rfl rfl rfl ly_46 rfl rfl rfl rfl rfl rfl rfl (F_65_ok (d := d + 1) (ht := (Or.inl rfl)) (hr_46_3 := ((congrFun (congrFun e_44 46) 3).trans hr_46_3)) G_46) ?_
                                  refine ev_st (st' := [.int p_46.1]) rfl ?_
                                  have e_46 := F_65_R G_46
                                  obtain rfl := Option.some.inj H
                                  exact ev_iret rfl rfl rfl rfl
                                · by_cases c_45 : p_44.1 = 2
                                  · refine ev_b2 (t := 198) (p' := 194) rfl rfl rfl (if_neg (fun q => q c_45)) ?_
                                    refine ev_x (i := .iconst 1) (len := 1) (p' := 195) (s' := [.int 1, .int 2, .int x_1, .ref 46]) rfl rfl rfl ?_
                                    refine ev_x (i := .goto 4) (len := 3) (p' := 199) (s' := [.int 1, .int 2, .int x_1, .ref 46]) rfl rfl rfl ?_
                                    exact ev_st (congrArg (fun z => Value.int z :: [.int 2, .int x_1, .ref 46]) (by rw [if_pos c_45])) J
                                  · refine ev_b2 (t := 198) (p' := 198) rfl rfl rfl (if_pos c_45) ?_
                                    refine ev_x (i := .iconst 0) (len := 1) (p' := 199) (s' := [.int 0, .int 2, .int x_1, .ref 46]) rfl rfl rfl ?_
                                    exact ev_st (congrArg (fun z => Value.int z :: [.int 2, .int x_1, .ref 46]) (by rw [if_neg c_45])) J
                              · refine F_if H (fun c_47 H => ?_) (fun c_47 H => ?_)
                                · refine ev_st (st' := [.int 17]) (congrArg (fun z => Value.int z :: []) c_47) ?_
                                  refine ev_ts (off := 194) (t := 203) rfl rfl (by decide) rfl ?_
                                  refine ev_x (i := .aload_n 0) (len := 1) (p' := 204) (s' := [.ref 46]) rfl rfl rfl ?_
                                  refine ev_x (i := .iload_n 1) (len := 1) (p' := 205) (s' := [.int x_1, .ref 46]) rfl rfl rfl ?_
                                  refine ev_x (i := .iconst 2) (len := 1) (p' := 206) (s' := [.int 2, .int x_1, .ref 46]) rfl rfl rfl ?_
                                  refine ev_x (i := .aload_n 0) (len := 1) (p' := 207) (s' := [.ref 46, .int 2, .int x_1, .ref 46]) rfl rfl rfl ?_
                                  refine ev_x (i := .iload_n 1) (len := 1) (p' := 208) (s' := [.int x_1, .ref 46, .int 2, .int x_1, .ref 46]) rfl rfl rfl ?_
                                  refine ev_x (i := .iconst 2) (len := 1) (p' := 209) (s' := [.int 2, .int x_1, .ref 46, .int 2, .int x_1, .ref 46]) rfl rfl rfl ?_
                                  obtain ⟨p_48, G_48, H⟩ := F_bd H
                                  refine ev_cv (d := d + 3) (As := [.int x_1, .int 2]) (a := 46) (p' := 212) rfl rfl rfl ly_46 rfl rfl rfl rfl rfl rfl rfl (F_64_ok (d := d + 2) (ht := (Or.inl rfl)) (hr_46_3 := hr_46_3) G_48) ?_
                                  refine ev_st (st' := [.int p_48.1, .int 2, .int x_1, .ref 46]) rfl ?_
                                  have e_48 := F_64_R G_48
                                  obtain ⟨p_49, G_49, H⟩ := F_bd H
                                  refine ev_cv (d := d + 3) (As := [.int x_1, .int 2, .int p_48.1]) (a := 46) (p' := 215) rfl rfl rfl ly_46 rfl rfl rfl rfl rfl rfl rfl (F_65_ok (d := d + 1) (ht := (Or.inl rfl)) (hr_46_3 := ((congrFun (congrFun e_48 46) 3).trans hr_46_3)) G_49) ?_
                                  refine ev_st (st' := [.int p_49.1]) rfl ?_
                                  have e_49 := F_65_R G_49
                                  obtain rfl := Option.some.inj H
                                  exact ev_iret rfl rfl rfl rfl
                                · refine F_if H (fun c_50 H => ?_) (fun c_50 H => ?_)
                                  · refine ev_st (st' := [.int 18]) (congrArg (fun z => Value.int z :: []) c_50) ?_
                                    refine ev_ts (off := 194) (t := 203) rfl rfl (by decide) rfl ?_
                                    refine ev_x (i := .aload_n 0) (len := 1) (p' := 204) (s' := [.ref 46]) rfl rfl rfl ?_
                                    refine ev_x (i := .iload_n 1) (len := 1) (p' := 205) (s' := [.int x_1, .ref 46]) rfl rfl rfl ?_
                                    refine ev_x (i := .iconst 2) (len := 1) (p' := 206) (s' := [.int 2, .int x_1, .ref 46]) rfl rfl rfl ?_
                                    refine ev_x (i := .aload_n 0) (len := 1) (p' := 207) (s' := [.ref 46, .int 2, .int x_1, .ref 46]) rfl rfl rfl ?_
                                    refine ev_x (i := .iload_n 1) (len := 1) (p' := 208) (s' := [.int x_1, .ref 46, .int 2, .int x_1, .ref 46]) rfl rfl rfl ?_
                                    refine ev_x (i := .iconst 2) (len := 1) (p' := 209) (s' := [.int 2, .int x_1, .ref 46, .int 2, .int x_1, .ref 46]) rfl rfl rfl ?_
                                    obtain ⟨p_51, G_51, H⟩ := F_bd H
                                    refine ev_cv (d := d + 3) (As := [.int x_1, .int 2]) (a := 46) (p' := 212) rfl rfl rfl ly_46 rfl rfl rfl rfl rfl rfl rfl (F_64_ok (d := d + 2) (ht := (Or.inl rfl)) (hr_46_3 := hr_46_3) G_51) ?_
                                    refine ev_st (st' := [.int p_51.1, .int 2, .int x_1, .ref 46]) rfl ?_
                                    have e_51 := F_64_R G_51
                                    obtain ⟨p_52, G_52, H⟩ := F_bd H
                                    refine ev_cv (d := d + 3) (As := [.int x_1, .int 2, .int p_51.1]) (a := 46) (p' := 215) rfl rfl rfl ly_46 rfl rfl rfl rfl rfl rfl rfl (F_65_ok (d := d + 1) (ht := (Or.inl rfl)) (hr_46_3 := ((congrFun (congrFun e_51 46) 3).trans hr_46_3)) G_52) ?_
                                    refine ev_st (st' := [.int p_52.1]) rfl ?_
                                    have e_52 := F_65_R G_52
                                    obtain rfl := Option.some.inj H
                                    exact ev_iret rfl rfl rfl rfl
                                  · refine F_if H (fun c_53 H => ?_) (fun c_53 H => ?_)
                                    · refine ev_st (st' := [.int 19]) (congrArg (fun z => Value.int z :: []) c_53) ?_
                                      refine ev_ts (off := 207) (t := 216) rfl rfl (by decide) rfl ?_
                                      refine ev_x (i := .aload_n 0) (len := 1) (p' := 217) (s' := [.ref 46]) rfl rfl rfl ?_
                                      refine ev_x (i := .iload_n 1) (len := 1) (p' := 218) (s' := [.int x_1, .ref 46]) rfl rfl rfl ?_
                                      obtain ⟨p_54, G_54, H⟩ := F_bd H
                                      refine ev_cv (d := d + 3) (As := [.int x_1]) (a := 46) (p' := 221) rfl rfl rfl ly_46 rfl rfl rfl rfl rfl rfl rfl (F_66_ok (d := d + 0) (ht := (Or.inl rfl)) (hr_46_3 := hr_46_3) G_54) ?_
                                      refine ev_st (st' := [.int p_54.1]) rfl ?_
                                      have e_54 := F_66_R G_54
                                      obtain rfl := Option.some.inj H
                                      exact ev_iret rfl rfl rfl rfl
                                    · refine F_if H (fun c_55 H => ?_) (fun c_55 H => ?_)
                                      · refine ev_st (st' := [.int 20]) (congrArg (fun z => Value.int z :: []) c_55) ?_
                                        refine ev_ts (off := 213) (t := 222) rfl rfl (by decide) rfl ?_
                                        refine ev_x (i := .aload_n 0) (len := 1) (p' := 223) (s' := [.ref 46]) rfl rfl rfl ?_
                                        refine ev_x (i := .iload_n 1) (len := 1) (p' := 224) (s' := [.int x_1, .ref 46]) rfl rfl rfl ?_
                                        refine ev_x (i := .aload_n 0) (len := 1) (p' := 225) (s' := [.ref 46, .int x_1, .ref 46]) rfl rfl rfl ?_
                                        refine ev_x (i := .iload_n 1) (len := 1) (p' := 226) (s' := [.int x_1, .ref 46, .int x_1, .ref 46]) rfl rfl rfl ?_
                                        refine ev_x (i := .iconst 1) (len := 1) (p' := 227) (s' := [.int 1, .int x_1, .ref 46, .int x_1, .ref 46]) rfl rfl rfl ?_
                                        obtain ⟨p_56, G_56, H⟩ := F_bd H
                                        refine ev_cv (d := d + 3) (As := [.int x_1, .int 1]) (a := 46) (p' := 230) rfl rfl rfl ly_46 rfl rfl rfl rfl rfl rfl rfl (F_64_ok (d := d + 2) (ht := (Or.inl rfl)) (hr_46_3 := hr_46_3) G_56) ?_
                                        refine ev_st (st' := [.int p_56.1, .int x_1, .ref 46]) rfl ?_
                                        have e_56 := F_64_R G_56
                                        refine F_jn (A := vz_ev P0 (d + 4) 57 238 [(0, .ref 46), (1, .int x_1)] [.int (if p_56.1 = 0 then 0 else 1 : Int32), .int x_1, .ref 46] (hp (p_56.2)) (.inl (some (.int p.1)), hp p.2)) ?_ (fun J => ?_)
                                        · refine ev_x (i := .iconst 1) (len := 1) (p' := 239) (s' := [.int 1, .int (if p_56.1 = 0 then 0 else 1 : Int32), .int x_1, .ref 46]) rfl rfl rfl ?_
                                          obtain ⟨p_58, G_58, H⟩ := F_bd H
                                          refine ev_cv (d := d + 3) (As := [.int x_1, .int (if p_56.1 = 0 then 0 else 1 : Int32), .int 1]) (a := 46) (p' := 242) rfl rfl rfl ly_46 rfl rfl rfl rfl rfl rfl rfl (F_65_ok (d := d + 1) (ht := (Or.inl rfl)) (hr_46_3 := ((congrFun (congrFun e_56 46) 3).trans hr_46_3)) G_58) ?_
                                          refine ev_st (st' := [.int p_58.1]) rfl ?_
                                          have e_58 := F_65_R G_58
                                          obtain rfl := Option.some.inj H
                                          exact ev_iret rfl rfl rfl rfl
                                        · by_cases c_57 : p_56.1 = 0
                                          · refine ev_b0 (t := 237) (p' := 237) rfl rfl rfl (if_pos c_57) ?_
                                            refine ev_x (i := .iconst 0) (len := 1) (p' := 238) (s' := [.int 0, .int x_1, .ref 46]) rfl rfl rfl ?_
                                            exact ev_st (congrArg (fun z => Value.int z :: [.int x_1, .ref 46]) (by rw [if_pos c_57])) J
                                          · refine ev_b0 (t := 237) (p' := 233) rfl rfl rfl (if_neg c_57) ?_
                                            refine ev_x (i := .iconst 1) (len := 1) (p' := 234) (s' := [.int 1, .int x_1, .ref 46]) rfl rfl rfl ?_
                                            refine ev_x (i := .goto 4) (len := 3) (p' := 238) (s' := [.int 1, .int x_1, .ref 46]) rfl rfl rfl ?_
                                            exact ev_st (congrArg (fun z => Value.int z :: [.int x_1, .ref 46]) (by rw [if_neg c_57])) J
                                      · refine F_if H (fun c_59 H => ?_) (fun c_59 H => ?_)
                                        · refine ev_st (st' := [.int 21]) (congrArg (fun z => Value.int z :: []) c_59) ?_
                                          refine ev_ts (off := 213) (t := 222) rfl rfl (by decide) rfl ?_
                                          refine ev_x (i := .aload_n 0) (len := 1) (p' := 223) (s' := [.ref 46]) rfl rfl rfl ?_
                                          refine ev_x (i := .iload_n 1) (len := 1) (p' := 224) (s' := [.int x_1, .ref 46]) rfl rfl rfl ?_
                                          refine ev_x (i := .aload_n 0) (len := 1) (p' := 225) (s' := [.ref 46, .int x_1, .ref 46]) rfl rfl rfl ?_
                                          refine ev_x (i := .iload_n 1) (len := 1) (p' := 226) (s' := [.int x_1, .ref 46, .int x_1, .ref 46]) rfl rfl rfl ?_
                                          refine ev_x (i := .iconst 1) (len := 1) (p' := 227) (s' := [.int 1, .int x_1, .ref 46, .int x_1, .ref 46]) rfl rfl rfl ?_
                                          obtain ⟨p_60, G_60, H⟩ := F_bd H
                                          refine ev_cv (d := d + 3) (As := [.int x_1, .int 1]) (a := 46) (p' := 230) rfl rfl rfl ly_46 rfl rfl rfl rfl rfl rfl rfl (F_64_ok (d := d + 2) (ht := (Or.inl rfl)) (hr_46_3 := hr_46_3) G_60) ?_
                                          refine ev_st (st' := [.int p_60.1, .int x_1, .ref 46]) rfl ?_
                                          have e_60 := F_64_R G_60
                                          refine F_jn (A := vz_ev P0 (d + 4) 57 238 [(0, .ref 46), (1, .int x_1)] [.int (if p_60.1 = 0 then 0 else 1 : Int32), .int x_1, .ref 46] (hp (p_60.2)) (.inl (some (.int p.1)), hp p.2)) ?_ (fun J => ?_)
                                          · refine ev_x (i := .iconst 1) (len := 1) (p' := 239) (s' := [.int 1, .int (if p_60.1 = 0 then 0 else 1 : Int32), .int x_1, .ref 46]) rfl rfl rfl ?_
                                            obtain ⟨p_62, G_62, H⟩ := F_bd H
                                            refine ev_cv (d := d + 3) (As := [.int x_1, .int (if p_60.1 = 0 then 0 else 1 : Int32), .int 1]) (a := 46) (p' := 242) rfl rfl rfl ly_46 rfl rfl rfl rfl rfl rfl rfl (F_65_ok (d := d + 1) (ht := (Or.inl rfl)) (hr_46_3 := ((congrFun (congrFun e_60 46) 3).trans hr_46_3)) G_62) ?_
                                            refine ev_st (st' := [.int p_62.1]) rfl ?_
                                            have e_62 := F_65_R G_62
                                            obtain rfl := Option.some.inj H
                                            exact ev_iret rfl rfl rfl rfl
                                          · by_cases c_61 : p_60.1 = 0
                                            · refine ev_b0 (t := 237) (p' := 237) rfl rfl rfl (if_pos c_61) ?_
                                              refine ev_x (i := .iconst 0) (len := 1) (p' := 238) (s' := [.int 0, .int x_1, .ref 46]) rfl rfl rfl ?_
                                              exact ev_st (congrArg (fun z => Value.int z :: [.int x_1, .ref 46]) (by rw [if_pos c_61])) J
                                            · refine ev_b0 (t := 237) (p' := 233) rfl rfl rfl (if_neg c_61) ?_
                                              refine ev_x (i := .iconst 1) (len := 1) (p' := 234) (s' := [.int 1, .int x_1, .ref 46]) rfl rfl rfl ?_
                                              refine ev_x (i := .goto 4) (len := 3) (p' := 238) (s' := [.int 1, .int x_1, .ref 46]) rfl rfl rfl ?_
                                              exact ev_st (congrArg (fun z => Value.int z :: [.int x_1, .ref 46]) (by rw [if_neg c_61])) J
                                        · refine F_if H (fun c_63 H => ?_) (fun c_63 H => ?_)
                                          · refine ev_st (st' := [.int 22]) (congrArg (fun z => Value.int z :: []) c_63) ?_
                                            refine ev_ts (off := 122) (t := 131) rfl rfl (by decide) rfl ?_
                                            refine ev_x (i := .aload_n 0) (len := 1) (p' := 132) (s' := [.ref 46]) rfl rfl rfl ?_
                                            refine ev_x (i := .iload_n 1) (len := 1) (p' := 133) (s' := [.int x_1, .ref 46]) rfl rfl rfl ?_
                                            refine ev_x (i := .iconst 1) (len := 1) (p' := 134) (s' := [.int 1, .int x_1, .ref 46]) rfl rfl rfl ?_
                                            refine ev_x (i := .aload_n 0) (len := 1) (p' := 135) (s' := [.ref 46, .int 1, .int x_1, .ref 46]) rfl rfl rfl ?_
                                            refine ev_x (i := .iload_n 1) (len := 1) (p' := 136) (s' := [.int x_1, .ref 46, .int 1, .int x_1, .ref 46]) rfl rfl rfl ?_
                                            obtain ⟨p_64, G_64, H⟩ := F_bd H
                                            refine ev_cv (d := d + 3) (As := [.int x_1]) (a := 46) (p' := 139) rfl rfl rfl ly_46 rfl rfl rfl rfl rfl rfl rfl (F_63_ok (d := d + 2) (ht := (Or.inl rfl)) (hr_46_3 := hr_46_3) G_64) ?_
                                            refine ev_st (st' := [.int p_64.1, .int 1, .int x_1, .ref 46]) rfl ?_
                                            have e_64 := F_63_R G_64
                                            refine ev_x (i := .iconst 1) (len := 1) (p' := 140) (s' := [.int 1, .int p_64.1, .int 1, .int x_1, .ref 46]) rfl rfl rfl ?_
                                            refine F_jn (A := vz_ev P0 (d + 4) 57 148 [(0, .ref 46), (1, .int x_1)] [.int (if p_64.1 = 1 then 1 else 0 : Int32), .int 1, .int x_1, .ref 46] (hp (p_64.2)) (.inl (some (.int p.1)), hp p.2)) ?_ (fun J => ?_)
                                            · obtain ⟨p_66, G_66, H⟩ := F_bd H
                                              refine ev_cv (d := d + 3) (As := [.int x_1, .int 1, .int (if p_64.1 = 1 then 1 else 0 : Int32)]) (a := 46) (p' := 151) rfl rfl rfl ly_46 rfl rfl rfl rfl rfl rfl rfl (F_65_ok (d := d + 1) (ht := (Or.inl rfl)) (hr_46_3 := ((congrFun (congrFun e_64 46) 3).trans hr_46_3)) G_66) ?_
                                              refine ev_st (st' := [.int p_66.1]) rfl ?_
                                              have e_66 := F_65_R G_66
                                              obtain rfl := Option.some.inj H
                                              exact ev_iret rfl rfl rfl rfl
                                            · by_cases c_65 : p_64.1 = 1
                                              · refine ev_b2 (t := 147) (p' := 143) rfl rfl rfl (if_neg (fun q => q c_65)) ?_
                                                refine ev_x (i := .iconst 1) (len := 1) (p' := 144) (s' := [.int 1, .int 1, .int x_1, .ref 46]) rfl rfl rfl ?_
                                                refine ev_x (i := .goto 4) (len := 3) (p' := 148) (s' := [.int 1, .int 1, .int x_1, .ref 46]) rfl rfl rfl ?_
                                                exact ev_st (congrArg (fun z => Value.int z :: [.int 1, .int x_1, .ref 46]) (by rw [if_pos c_65])) J
                                              · refine ev_b2 (t := 147) (p' := 147) rfl rfl rfl (if_pos c_65) ?_
                                                refine ev_x (i := .iconst 0) (len := 1) (p' := 148) (s' := [.int 0, .int 1, .int x_1, .ref 46]) rfl rfl rfl ?_
                                                exact ev_st (congrArg (fun z => Value.int z :: [.int 1, .int x_1, .ref 46]) (by rw [if_neg c_65])) J
                                          · have n_1 : (1 : Int) ≠ ((gE (σ) 6 (x_1 : Int32).toNatClampNeg) : Int32).toInt := i32_ne (k := 1) (by decide) c_2
                                            have n_4 : (4 : Int) ≠ ((gE (σ) 6 (x_1 : Int32).toNatClampNeg) : Int32).toInt := i32_ne (k := 4) (by decide) c_4
                                            have n_5 : (5 : Int) ≠ ((gE (σ) 6 (x_1 : Int32).toNatClampNeg) : Int32).toInt := i32_ne (k := 5) (by decide) c_7
                                            have n_6 : (6 : Int) ≠ ((gE (σ) 6 (x_1 : Int32).toNatClampNeg) : Int32).toInt := i32_ne (k := 6) (by decide) c_10
                                            have n_7 : (7 : Int) ≠ ((gE (σ) 6 (x_1 : Int32).toNatClampNeg) : Int32).toInt := i32_ne (k := 7) (by decide) c_13
                                            have n_8 : (8 : Int) ≠ ((gE (σ) 6 (x_1 : Int32).toNatClampNeg) : Int32).toInt := i32_ne (k := 8) (by decide) c_16
                                            have n_9 : (9 : Int) ≠ ((gE (σ) 6 (x_1 : Int32).toNatClampNeg) : Int32).toInt := i32_ne (k := 9) (by decide) c_19
                                            have n_10 : (10 : Int) ≠ ((gE (σ) 6 (x_1 : Int32).toNatClampNeg) : Int32).toInt := i32_ne (k := 10) (by decide) c_23
                                            have n_11 : (11 : Int) ≠ ((gE (σ) 6 (x_1 : Int32).toNatClampNeg) : Int32).toInt := i32_ne (k := 11) (by decide) c_27
                                            have n_12 : (12 : Int) ≠ ((gE (σ) 6 (x_1 : Int32).toNatClampNeg) : Int32).toInt := i32_ne (k := 12) (by decide) c_31
                                            have n_13 : (13 : Int) ≠ ((gE (σ) 6 (x_1 : Int32).toNatClampNeg) : Int32).toInt := i32_ne (k := 13) (by decide) c_34
                                            have n_14 : (14 : Int) ≠ ((gE (σ) 6 (x_1 : Int32).toNatClampNeg) : Int32).toInt := i32_ne (k := 14) (by decide) c_37
                                            have n_15 : (15 : Int) ≠ ((gE (σ) 6 (x_1 : Int32).toNatClampNeg) : Int32).toInt := i32_ne (k := 15) (by decide) c_40
                                            have n_16 : (16 : Int) ≠ ((gE (σ) 6 (x_1 : Int32).toNatClampNeg) : Int32).toInt := i32_ne (k := 16) (by decide) c_43
                                            have n_17 : (17 : Int) ≠ ((gE (σ) 6 (x_1 : Int32).toNatClampNeg) : Int32).toInt := i32_ne (k := 17) (by decide) c_47
                                            have n_18 : (18 : Int) ≠ ((gE (σ) 6 (x_1 : Int32).toNatClampNeg) : Int32).toInt := i32_ne (k := 18) (by decide) c_50
                                            have n_19 : (19 : Int) ≠ ((gE (σ) 6 (x_1 : Int32).toNatClampNeg) : Int32).toInt := i32_ne (k := 19) (by decide) c_53
                                            have n_20 : (20 : Int) ≠ ((gE (σ) 6 (x_1 : Int32).toNatClampNeg) : Int32).toInt := i32_ne (k := 20) (by decide) c_55
                                            have n_21 : (21 : Int) ≠ ((gE (σ) 6 (x_1 : Int32).toNatClampNeg) : Int32).toInt := i32_ne (k := 21) (by decide) c_59
                                            have n_22 : (22 : Int) ≠ ((gE (σ) 6 (x_1 : Int32).toNatClampNeg) : Int32).toInt := i32_ne (k := 22) (by decide) c_63
                                            refine ev_ts (off := 234) (t := 243) rfl rfl ?hsw rfl ?_
                                            case hsw =>
                                              by_cases hq : ((gE (σ) 6 (x_1 : Int32).toNatClampNeg) : Int32).toInt < 1 ∨ 22 < ((gE (σ) 6 (x_1 : Int32).toNatClampNeg) : Int32).toInt
                                              · exact if_pos hq
                                              · rw [if_neg hq]
                                                have hw : ((gE (σ) 6 (x_1 : Int32).toNatClampNeg) : Int32).toInt = 2 ∨ ((gE (σ) 6 (x_1 : Int32).toNatClampNeg) : Int32).toInt = 3 := by omega
                                                rcases hw with hw | hw <;> rw [hw] <;> rfl
                                            refine ev_x (i := .iconst 0) (len := 1) (p' := 244) (s' := [.int 0]) rfl rfl rfl ?_
                                            obtain rfl := Option.some.inj H
                                            exact ev_iret rfl rfl rfl rfl
  · refine ev_x (i := .aload_n 0) (len := 1) (p' := 1) (s' := [.ref 46]) rfl rfl rfl ?_
    refine ev_gr (p' := 4) (v := 21) rfl rfl rfl ly_46 rfl rfl hr_46_3 ?_
    refine ev_gc (p' := 7) (v := 22) rfl rfl rfl ly_21 rfl rfl ?_
    refine ev_x (i := .iload_n 1) (len := 1) (p' := 8) (s' := [.int x_1, .ref 22]) rfl rfl rfl ?_
    obtain ⟨b_1, H⟩ := F_gd H
    refine ev_ga (p' := 9) (v := (gE (σ) 22 (x_1 : Int32).toNatClampNeg)) rfl rfl ly_22 rfl (gd_in b_1) rfl ?_
    refine F_if H (fun c_2 H => ?_) (fun c_2 H => ?_)
    · refine ev_st (st' := [.int 1]) (congrArg (fun z => Value.int z :: []) c_2) ?_
      refine ev_ts (off := 103) (t := 112) rfl rfl (by decide) rfl ?_
      refine ev_x (i := .aload_n 0) (len := 1) (p' := 113) (s' := [.ref 46]) rfl rfl rfl ?_
      refine ev_x (i := .iload_n 1) (len := 1) (p' := 114) (s' := [.int x_1, .ref 46]) rfl rfl rfl ?_
      obtain ⟨p_3, G_3, H⟩ := F_bd H
      refine ev_cv (d := d + 3) (As := [.int x_1]) (a := 46) (p' := 117) rfl rfl rfl ly_46 rfl rfl rfl rfl rfl rfl rfl (F_58_ok (d := d + 0) (ht := (Or.inr rfl)) (hr_46_2 := hr_46_2) (hr_46_3 := hr_46_3) G_3) ?_
      refine ev_st (st' := [.int p_3.1]) rfl ?_
      have e_3 := F_58_R G_3
      obtain rfl := Option.some.inj H
      exact ev_iret rfl rfl rfl rfl
    · refine F_if H (fun c_4 H => ?_) (fun c_4 H => ?_)
      · refine ev_st (st' := [.int 4]) (congrArg (fun z => Value.int z :: []) c_4) ?_
        refine ev_ts (off := 109) (t := 118) rfl rfl (by decide) rfl ?_
        refine ev_x (i := .aload_n 0) (len := 1) (p' := 119) (s' := [.ref 46]) rfl rfl rfl ?_
        refine ev_x (i := .iload_n 1) (len := 1) (p' := 120) (s' := [.int x_1, .ref 46]) rfl rfl rfl ?_
        refine ev_x (i := .iconst 1) (len := 1) (p' := 121) (s' := [.int 1, .int x_1, .ref 46]) rfl rfl rfl ?_
        refine ev_x (i := .aload_n 0) (len := 1) (p' := 122) (s' := [.ref 46, .int 1, .int x_1, .ref 46]) rfl rfl rfl ?_
        refine ev_x (i := .iload_n 1) (len := 1) (p' := 123) (s' := [.int x_1, .ref 46, .int 1, .int x_1, .ref 46]) rfl rfl rfl ?_
        refine ev_x (i := .iconst 1) (len := 1) (p' := 124) (s' := [.int 1, .int x_1, .ref 46, .int 1, .int x_1, .ref 46]) rfl rfl rfl ?_
        obtain ⟨p_5, G_5, H⟩ := F_bd H
        refine ev_cv (d := d + 3) (As := [.int x_1, .int 1]) (a := 46) (p' := 127) rfl rfl rfl ly_46 rfl rfl rfl rfl rfl rfl rfl (F_64_ok (d := d + 2) (ht := (Or.inr rfl)) (hr_46_3 := hr_46_3) G_5) ?_
        refine ev_st (st' := [.int p_5.1, .int 1, .int x_1, .ref 46]) rfl ?_
        have e_5 := F_64_R G_5
        obtain ⟨p_6, G_6, H⟩ := F_bd H
        refine ev_cv (d := d + 3) (As := [.int x_1, .int 1, .int p_5.1]) (a := 46) (p' := 130) rfl rfl rfl ly_46 rfl rfl rfl rfl rfl rfl rfl (F_65_ok (d := d + 1) (ht := (Or.inr rfl)) (hr_46_3 := ((congrFun (congrFun e_5 46) 3).trans hr_46_3)) G_6) ?_
        refine ev_st (st' := [.int p_6.1]) rfl ?_
        have e_6 := F_65_R G_6
        obtain rfl := Option.some.inj H
        exact ev_iret rfl rfl rfl rfl
      · refine F_if H (fun c_7 H => ?_) (fun c_7 H => ?_)
        · refine ev_st (st' := [.int 5]) (congrArg (fun z => Value.int z :: []) c_7) ?_
          refine ev_ts (off := 109) (t := 118) rfl rfl (by decide) rfl ?_
          refine ev_x (i := .aload_n 0) (len := 1) (p' := 119) (s' := [.ref 46]) rfl rfl rfl ?_
          refine ev_x (i := .iload_n 1) (len := 1) (p' := 120) (s' := [.int x_1, .ref 46]) rfl rfl rfl ?_
          refine ev_x (i := .iconst 1) (len := 1) (p' := 121) (s' := [.int 1, .int x_1, .ref 46]) rfl rfl rfl ?_
          refine ev_x (i := .aload_n 0) (len := 1) (p' := 122) (s' := [.ref 46, .int 1, .int x_1, .ref 46]) rfl rfl rfl ?_
          refine ev_x (i := .iload_n 1) (len := 1) (p' := 123) (s' := [.int x_1, .ref 46, .int 1, .int x_1, .ref 46]) rfl rfl rfl ?_
          refine ev_x (i := .iconst 1) (len := 1) (p' := 124) (s' := [.int 1, .int x_1, .ref 46, .int 1, .int x_1, .ref 46]) rfl rfl rfl ?_
          obtain ⟨p_8, G_8, H⟩ := F_bd H
          refine ev_cv (d := d + 3) (As := [.int x_1, .int 1]) (a := 46) (p' := 127) rfl rfl rfl ly_46 rfl rfl rfl rfl rfl rfl rfl (F_64_ok (d := d + 2) (ht := (Or.inr rfl)) (hr_46_3 := hr_46_3) G_8) ?_
          refine ev_st (st' := [.int p_8.1, .int 1, .int x_1, .ref 46]) rfl ?_
          have e_8 := F_64_R G_8
          obtain ⟨p_9, G_9, H⟩ := F_bd H
          refine ev_cv (d := d + 3) (As := [.int x_1, .int 1, .int p_8.1]) (a := 46) (p' := 130) rfl rfl rfl ly_46 rfl rfl rfl rfl rfl rfl rfl (F_65_ok (d := d + 1) (ht := (Or.inr rfl)) (hr_46_3 := ((congrFun (congrFun e_8 46) 3).trans hr_46_3)) G_9) ?_
          refine ev_st (st' := [.int p_9.1]) rfl ?_
          have e_9 := F_65_R G_9
          obtain rfl := Option.some.inj H
          exact ev_iret rfl rfl rfl rfl
        · refine F_if H (fun c_10 H => ?_) (fun c_10 H => ?_)
          · refine ev_st (st' := [.int 6]) (congrArg (fun z => Value.int z :: []) c_10) ?_
            refine ev_ts (off := 109) (t := 118) rfl rfl (by decide) rfl ?_
            refine ev_x (i := .aload_n 0) (len := 1) (p' := 119) (s' := [.ref 46]) rfl rfl rfl ?_
            refine ev_x (i := .iload_n 1) (len := 1) (p' := 120) (s' := [.int x_1, .ref 46]) rfl rfl rfl ?_
            refine ev_x (i := .iconst 1) (len := 1) (p' := 121) (s' := [.int 1, .int x_1, .ref 46]) rfl rfl rfl ?_
            refine ev_x (i := .aload_n 0) (len := 1) (p' := 122) (s' := [.ref 46, .int 1, .int x_1, .ref 46]) rfl rfl rfl ?_
            refine ev_x (i := .iload_n 1) (len := 1) (p' := 123) (s' := [.int x_1, .ref 46, .int 1, .int x_1, .ref 46]) rfl rfl rfl ?_
            refine ev_x (i := .iconst 1) (len := 1) (p' := 124) (s' := [.int 1, .int x_1, .ref 46, .int 1, .int x_1, .ref 46]) rfl rfl rfl ?_
            obtain ⟨p_11, G_11, H⟩ := F_bd H
            refine ev_cv (d := d + 3) (As := [.int x_1, .int 1]) (a := 46) (p' := 127) rfl rfl rfl ly_46 rfl rfl rfl rfl rfl rfl rfl (F_64_ok (d := d + 2) (ht := (Or.inr rfl)) (hr_46_3 := hr_46_3) G_11) ?_
            refine ev_st (st' := [.int p_11.1, .int 1, .int x_1, .ref 46]) rfl ?_
            have e_11 := F_64_R G_11
            obtain ⟨p_12, G_12, H⟩ := F_bd H
            refine ev_cv (d := d + 3) (As := [.int x_1, .int 1, .int p_11.1]) (a := 46) (p' := 130) rfl rfl rfl ly_46 rfl rfl rfl rfl rfl rfl rfl (F_65_ok (d := d + 1) (ht := (Or.inr rfl)) (hr_46_3 := ((congrFun (congrFun e_11 46) 3).trans hr_46_3)) G_12) ?_
            refine ev_st (st' := [.int p_12.1]) rfl ?_
            have e_12 := F_65_R G_12
            obtain rfl := Option.some.inj H
            exact ev_iret rfl rfl rfl rfl
          · refine F_if H (fun c_13 H => ?_) (fun c_13 H => ?_)
            · refine ev_st (st' := [.int 7]) (congrArg (fun z => Value.int z :: []) c_13) ?_
              refine ev_ts (off := 109) (t := 118) rfl rfl (by decide) rfl ?_
              refine ev_x (i := .aload_n 0) (len := 1) (p' := 119) (s' := [.ref 46]) rfl rfl rfl ?_
              refine ev_x (i := .iload_n 1) (len := 1) (p' := 120) (s' := [.int x_1, .ref 46]) rfl rfl rfl ?_
              refine ev_x (i := .iconst 1) (len := 1) (p' := 121) (s' := [.int 1, .int x_1, .ref 46]) rfl rfl rfl ?_
              refine ev_x (i := .aload_n 0) (len := 1) (p' := 122) (s' := [.ref 46, .int 1, .int x_1, .ref 46]) rfl rfl rfl ?_
              refine ev_x (i := .iload_n 1) (len := 1) (p' := 123) (s' := [.int x_1, .ref 46, .int 1, .int x_1, .ref 46]) rfl rfl rfl ?_
              refine ev_x (i := .iconst 1) (len := 1) (p' := 124) (s' := [.int 1, .int x_1, .ref 46, .int 1, .int x_1, .ref 46]) rfl rfl rfl ?_
              obtain ⟨p_14, G_14, H⟩ := F_bd H
              refine ev_cv (d := d + 3) (As := [.int x_1, .int 1]) (a := 46) (p' := 127) rfl rfl rfl ly_46 rfl rfl rfl rfl rfl rfl rfl (F_64_ok (d := d + 2) (ht := (Or.inr rfl)) (hr_46_3 := hr_46_3) G_14) ?_
              refine ev_st (st' := [.int p_14.1, .int 1, .int x_1, .ref 46]) rfl ?_
              have e_14 := F_64_R G_14
              obtain ⟨p_15, G_15, H⟩ := F_bd H
              refine ev_cv (d := d + 3) (As := [.int x_1, .int 1, .int p_14.1]) (a := 46) (p' := 130) rfl rfl rfl ly_46 rfl rfl rfl rfl rfl rfl rfl (F_65_ok (d := d + 1) (ht := (Or.inr rfl)) (hr_46_3 := ((congrFun (congrFun e_14 46) 3).trans hr_46_3)) G_15) ?_
              refine ev_st (st' := [.int p_15.1]) rfl ?_
              have e_15 := F_65_R G_15
              obtain rfl := Option.some.inj H
              exact ev_iret rfl rfl rfl rfl
            · refine F_if H (fun c_16 H => ?_) (fun c_16 H => ?_)
              · refine ev_st (st' := [.int 8]) (congrArg (fun z => Value.int z :: []) c_16) ?_
                refine ev_ts (off := 109) (t := 118) rfl rfl (by decide) rfl ?_
                refine ev_x (i := .aload_n 0) (len := 1) (p' := 119) (s' := [.ref 46]) rfl rfl rfl ?_
                refine ev_x (i := .iload_n 1) (len := 1) (p' := 120) (s' := [.int x_1, .ref 46]) rfl rfl rfl ?_
                refine ev_x (i := .iconst 1) (len := 1) (p' := 121) (s' := [.int 1, .int x_1, .ref 46]) rfl rfl rfl ?_
                refine ev_x (i := .aload_n 0) (len := 1) (p' := 122) (s' := [.ref 46, .int 1, .int x_1, .ref 46]) rfl rfl rfl ?_
                refine ev_x (i := .iload_n 1) (len := 1) (p' := 123) (s' := [.int x_1, .ref 46, .int 1, .int x_1, .ref 46]) rfl rfl rfl ?_
                refine ev_x (i := .iconst 1) (len := 1) (p' := 124) (s' := [.int 1, .int x_1, .ref 46, .int 1, .int x_1, .ref 46]) rfl rfl rfl ?_
                obtain ⟨p_17, G_17, H⟩ := F_bd H
                refine ev_cv (d := d + 3) (As := [.int x_1, .int 1]) (a := 46) (p' := 127) rfl rfl rfl ly_46 rfl rfl rfl rfl rfl rfl rfl (F_64_ok (d := d + 2) (ht := (Or.inr rfl)) (hr_46_3 := hr_46_3) G_17) ?_
                refine ev_st (st' := [.int p_17.1, .int 1, .int x_1, .ref 46]) rfl ?_
                have e_17 := F_64_R G_17
                obtain ⟨p_18, G_18, H⟩ := F_bd H
                refine ev_cv (d := d + 3) (As := [.int x_1, .int 1, .int p_17.1]) (a := 46) (p' := 130) rfl rfl rfl ly_46 rfl rfl rfl rfl rfl rfl rfl (F_65_ok (d := d + 1) (ht := (Or.inr rfl)) (hr_46_3 := ((congrFun (congrFun e_17 46) 3).trans hr_46_3)) G_18) ?_
                refine ev_st (st' := [.int p_18.1]) rfl ?_
                have e_18 := F_65_R G_18
                obtain rfl := Option.some.inj H
                exact ev_iret rfl rfl rfl rfl
              · refine F_if H (fun c_19 H => ?_) (fun c_19 H => ?_)
                · refine ev_st (st' := [.int 9]) (congrArg (fun z => Value.int z :: []) c_19) ?_
                  refine ev_ts (off := 122) (t := 131) rfl rfl (by decide) rfl ?_
                  refine ev_x (i := .aload_n 0) (len := 1) (p' := 132) (s' := [.ref 46]) rfl rfl rfl ?_
                  refine ev_x (i := .iload_n 1) (len := 1) (p' := 133) (s' := [.int x_1, .ref 46]) rfl rfl rfl ?_
                  refine ev_x (i := .iconst 1) (len := 1) (p' := 134) (s' := [.int 1, .int x_1, .ref 46]) rfl rfl rfl ?_
                  refine ev_x (i := .aload_n 0) (len := 1) (p' := 135) (s' := [.ref 46, .int 1, .int x_1, .ref 46]) rfl rfl rfl ?_
                  refine ev_x (i := .iload_n 1) (len := 1) (p' := 136) (s' := [.int x_1, .ref 46, .int 1, .int x_1, .ref 46]) rfl rfl rfl ?_
                  obtain ⟨p_20, G_20, H⟩ := F_bd H
                  refine ev_cv (d := d + 3) (As := [.int x_1]) (a := 46) (p' := 139) rfl rfl rfl ly_46 rfl rfl rfl rfl rfl rfl rfl (F_63_ok (d := d + 2) (ht := (Or.inr rfl)) (hr_46_3 := hr_46_3) G_20) ?_
                  refine ev_st (st' := [.int p_20.1, .int 1, .int x_1, .ref 46]) rfl ?_
                  have e_20 := F_63_R G_20
                  refine ev_x (i := .iconst 1) (len := 1) (p' := 140) (s' := [.int 1, .int p_20.1, .int 1, .int x_1, .ref 46]) rfl rfl rfl ?_
                  refine F_jn (A := vz_ev P0 (d + 4) 57 148 [(0, .ref 46), (1, .int x_1)] [.int (if p_20.1 = 1 then 1 else 0 : Int32), .int 1, .int x_1, .ref 46] (hp (p_20.2)) (.inl (some (.int p.1)), hp p.2)) ?_ (fun J => ?_)
                  · obtain ⟨p_22, G_22, H⟩ := F_bd H
                    refine ev_cv (d := d + 3) (As := [.int x_1, .int 1, .int (if p_20.1 = 1 then 1 else 0 : Int32)]) (a := 46) (p' := 151) rfl rfl rfl ly_46 rfl rfl rfl rfl rfl rfl rfl (F_65_ok (d := d + 1) (ht := (Or.inr rfl)) (hr_46_3 := ((congrFun (congrFun e_20 46) 3).trans hr_46_3)) G_22) ?_
                    refine ev_st (st' := [.int p_22.1]) rfl ?_
                    have e_22 := F_65_R G_22
                    obtain rfl := Option.some.inj H
                    exact ev_iret rfl rfl rfl rfl
                  · by_cases c_21 : p_20.1 = 1
                    · refine ev_b2 (t := 147) (p' := 143) rfl rfl rfl (if_neg (fun q => q c_21)) ?_
                      refine ev_x (i := .iconst 1) (len := 1) (p' := 144) (s' := [.int 1, .int 1, .int x_1, .ref 46]) rfl rfl rfl ?_
                      refine ev_x (i := .goto 4) (len := 3) (p' := 148) (s' := [.int 1, .int 1, .int x_1, .ref 46]) rfl rfl rfl ?_
                      exact ev_st (congrArg (fun z => Value.int z :: [.int 1, .int x_1, .ref 46]) (by rw [if_pos c_21])) J
                    · refine ev_b2 (t := 147) (p' := 147) rfl rfl rfl (if_pos c_21) ?_
                      refine ev_x (i := .iconst 0) (len := 1) (p' := 148) (s' := [.int 0, .int 1, .int x_1, .ref 46]) rfl rfl rfl ?_
                      exact ev_st (congrArg (fun z => Value.int z :: [.int 1, .int x_1, .ref 46]) (by rw [if_neg c_21])) J
                · refine F_if H (fun c_23 H => ?_) (fun c_23 H => ?_)
                  · refine ev_st (st' := [.int 10]) (congrArg (fun z => Value.int z :: []) c_23) ?_
                    refine ev_ts (off := 143) (t := 152) rfl rfl (by decide) rfl ?_
                    refine ev_x (i := .aload_n 0) (len := 1) (p' := 153) (s' := [.ref 46]) rfl rfl rfl ?_
                    refine ev_x (i := .iload_n 1) (len := 1) (p' := 154) (s' := [.int x_1, .ref 46]) rfl rfl rfl ?_
                    refine ev_x (i := .iconst 2) (len := 1) (p' := 155) (s' := [.int 2, .int x_1, .ref 46]) rfl rfl rfl ?_
                    refine ev_x (i := .aload_n 0) (len := 1) (p' := 156) (s' := [.ref 46, .int 2, .int x_1, .ref 46]) rfl rfl rfl ?_
                    refine ev_x (i := .iload_n 1) (len := 1) (p' := 157) (s' := [.int x_1, .ref 46, .int 2, .int x_1, .ref 46]) rfl rfl rfl ?_
                    refine ev_x (i := .aload_n 0) (len := 1) (p' := 158) (s' := [.ref 46, .int x_1, .ref 46, .int 2, .int x_1, .ref 46]) rfl rfl rfl ?_
                    refine ev_x (i := .iload_n 1) (len := 1) (p' := 159) (s' := [.int x_1, .ref 46, .int x_1, .ref 46, .int 2, .int x_1, .ref 46]) rfl rfl rfl ?_
                    obtain ⟨p_24, G_24, H⟩ := F_bd H
                    refine ev_cv (d := d + 3) (As := [.int x_1]) (a := 46) (p' := 162) rfl rfl rfl ly_46 rfl rfl rfl rfl rfl rfl rfl (F_63_ok (d := d + 2) (ht := (Or.inr rfl)) (hr_46_3 := hr_46_3) G_24) ?_
                    refine ev_st (st' := [.int p_24.1, .int x_1, .ref 46, .int 2, .int x_1, .ref 46]) rfl ?_
                    have e_24 := F_63_R G_24
                    obtain ⟨p_25, G_25, H⟩ := F_bd H
                    refine ev_cv (d := d + 3) (As := [.int x_1, .int p_24.1]) (a := 46) (p' := 165) rfl rfl rfl ly_46 rfl rfl rfl rfl rfl rfl rfl (F_64_ok (d := d + 2) (ht := (Or.inr rfl)) (hr_46_3 := ((congrFun (congrFun e_24 46) 3).trans hr_46_3)) G_25) ?_
                    refine ev_st (st' := [.int p_25.1, .int 2, .int x_1, .ref 46]) rfl ?_
                    have e_25 := F_64_R G_25
                    obtain ⟨p_26, G_26, H⟩ := F_bd H
                    refine ev_cv (d := d + 3) (As := [.int x_1, .int 2, .int p_25.1]) (a := 46) (p' := 168) rfl rfl rfl ly_46 rfl rfl rfl rfl rfl rfl rfl (F_65_ok (d := d + 1) (ht := (Or.inr rfl)) (hr_46_3 := ((congrFun (congrFun e_25 46) 3).trans ((congrFun (congrFun e_24 46) 3).trans hr_46_3))) G_26) ?_
                    refine ev_st (st' := [.int p_26.1]) rfl ?_
                    have e_26 := F_65_R G_26
                    obtain rfl := Option.some.inj H
                    exact ev_iret rfl rfl rfl rfl
                  · refine F_if H (fun c_27 H => ?_) (fun c_27 H => ?_)
                    · refine ev_st (st' := [.int 11]) (congrArg (fun z => Value.int z :: []) c_27) ?_
                      refine ev_ts (off := 143) (t := 152) rfl rfl (by decide) rfl ?_
                      refine ev_x (i := .aload_n 0) (len := 1) (p' := 153) (s' := [.ref 46]) rfl rfl rfl ?_
                      refine ev_x (i := .iload_n 1) (len := 1) (p' := 154) (s' := [.int x_1, .ref 46]) rfl rfl rfl ?_
                      refine ev_x (i := .iconst 2) (len := 1) (p' := 155) (s' := [.int 2, .int x_1, .ref 46]) rfl rfl rfl ?_
                      refine ev_x (i := .aload_n 0) (len := 1) (p' := 156) (s' := [.ref 46, .int 2, .int x_1, .ref 46]) rfl rfl rfl ?_
                      refine ev_x (i := .iload_n 1) (len := 1) (p' := 157) (s' := [.int x_1, .ref 46, .int 2, .int x_1, .ref 46]) rfl rfl rfl ?_
                      refine ev_x (i := .aload_n 0) (len := 1) (p' := 158) (s' := [.ref 46, .int x_1, .ref 46, .int 2, .int x_1, .ref 46]) rfl rfl rfl ?_
                      refine ev_x (i := .iload_n 1) (len := 1) (p' := 159) (s' := [.int x_1, .ref 46, .int x_1, .ref 46, .int 2, .int x_1, .ref 46]) rfl rfl rfl ?_
                      obtain ⟨p_28, G_28, H⟩ := F_bd H
                      refine ev_cv (d := d + 3) (As := [.int x_1]) (a := 46) (p' := 162) rfl rfl rfl ly_46 rfl rfl rfl rfl rfl rfl rfl (F_63_ok (d := d + 2) (ht := (Or.inr rfl)) (hr_46_3 := hr_46_3) G_28) ?_
                      refine ev_st (st' := [.int p_28.1, .int x_1, .ref 46, .int 2, .int x_1, .ref 46]) rfl ?_
                      have e_28 := F_63_R G_28
                      obtain ⟨p_29, G_29, H⟩ := F_bd H
                      refine ev_cv (d := d + 3) (As := [.int x_1, .int p_28.1]) (a := 46) (p' := 165) rfl rfl rfl ly_46 rfl rfl rfl rfl rfl rfl rfl (F_64_ok (d := d + 2) (ht := (Or.inr rfl)) (hr_46_3 := ((congrFun (congrFun e_28 46) 3).trans hr_46_3)) G_29) ?_
                      refine ev_st (st' := [.int p_29.1, .int 2, .int x_1, .ref 46]) rfl ?_
                      have e_29 := F_64_R G_29
                      obtain ⟨p_30, G_30, H⟩ := F_bd H
                      refine ev_cv (d := d + 3) (As := [.int x_1, .int 2, .int p_29.1]) (a := 46) (p' := 168) rfl rfl rfl ly_46 rfl rfl rfl rfl rfl rfl rfl (F_65_ok (d := d + 1) (ht := (Or.inr rfl)) (hr_46_3 := ((congrFun (congrFun e_29 46) 3).trans ((congrFun (congrFun e_28 46) 3).trans hr_46_3))) G_30) ?_
                      refine ev_st (st' := [.int p_30.1]) rfl ?_
                      have e_30 := F_65_R G_30
                      obtain rfl := Option.some.inj H
                      exact ev_iret rfl rfl rfl rfl
                    · refine F_if H (fun c_31 H => ?_) (fun c_31 H => ?_)
                      · refine ev_st (st' := [.int 12]) (congrArg (fun z => Value.int z :: []) c_31) ?_
                        refine ev_ts (off := 160) (t := 169) rfl rfl (by decide) rfl ?_
                        refine ev_x (i := .aload_n 0) (len := 1) (p' := 170) (s' := [.ref 46]) rfl rfl rfl ?_
                        refine ev_x (i := .iload_n 1) (len := 1) (p' := 171) (s' := [.int x_1, .ref 46]) rfl rfl rfl ?_
                        refine ev_x (i := .iconst 2) (len := 1) (p' := 172) (s' := [.int 2, .int x_1, .ref 46]) rfl rfl rfl ?_
                        refine ev_x (i := .aload_n 0) (len := 1) (p' := 173) (s' := [.ref 46, .int 2, .int x_1, .ref 46]) rfl rfl rfl ?_
                        refine ev_x (i := .iload_n 1) (len := 1) (p' := 174) (s' := [.int x_1, .ref 46, .int 2, .int x_1, .ref 46]) rfl rfl rfl ?_
                        refine ev_x (i := .iconst 1) (len := 1) (p' := 175) (s' := [.int 1, .int x_1, .ref 46, .int 2, .int x_1, .ref 46]) rfl rfl rfl ?_
                        obtain ⟨p_32, G_32, H⟩ := F_bd H
                        refine ev_cv (d := d + 3) (As := [.int x_1, .int 1]) (a := 46) (p' := 178) rfl rfl rfl ly_46 rfl rfl rfl rfl rfl rfl rfl (F_64_ok (d := d + 2) (ht := (Or.inr rfl)) (hr_46_3 := hr_46_3) G_32) ?_
                        refine ev_st (st' := [.int p_32.1, .int 2, .int x_1, .ref 46]) rfl ?_
                        have e_32 := F_64_R G_32
                        obtain ⟨p_33, G_33, H⟩ := F_bd H
                        refine ev_cv (d := d + 3) (As := [.int x_1, .int 2, .int p_32.1]) (a := 46) (p' := 181) rfl rfl rfl ly_46 rfl rfl rfl rfl rfl rfl rfl (F_65_ok (d := d + 1) (ht := (Or.inr rfl)) (hr_46_3 := ((congrFun (congrFun e_32 46) 3).trans hr_46_3)) G_33) ?_
                        refine ev_st (st' := [.int p_33.1]) rfl ?_
                        have e_33 := F_65_R G_33
                        obtain rfl := Option.some.inj H
                        exact ev_iret rfl rfl rfl rfl
                      · refine F_if H (fun c_34 H => ?_) (fun c_34 H => ?_)
                        · refine ev_st (st' := [.int 13]) (congrArg (fun z => Value.int z :: []) c_34) ?_
                          refine ev_ts (off := 160) (t := 169) rfl rfl (by decide) rfl ?_
                          refine ev_x (i := .aload_n 0) (len := 1) (p' := 170) (s' := [.ref 46]) rfl rfl rfl ?_
                          refine ev_x (i := .iload_n 1) (len := 1) (p' := 171) (s' := [.int x_1, .ref 46]) rfl rfl rfl ?_
                          refine ev_x (i := .iconst 2) (len := 1) (p' := 172) (s' := [.int 2, .int x_1, .ref 46]) rfl rfl rfl ?_
                          refine ev_x (i := .aload_n 0) (len := 1) (p' := 173) (s' := [.ref 46, .int 2, .int x_1, .ref 46]) rfl rfl rfl ?_
                          refine ev_x (i := .iload_n 1) (len := 1) (p' := 174) (s' := [.int x_1, .ref 46, .int 2, .int x_1, .ref 46]) rfl rfl rfl ?_
                          refine ev_x (i := .iconst 1) (len := 1) (p' := 175) (s' := [.int 1, .int x_1, .ref 46, .int 2, .int x_1, .ref 46]) rfl rfl rfl ?_
                          obtain ⟨p_35, G_35, H⟩ := F_bd H
                          refine ev_cv (d := d + 3) (As := [.int x_1, .int 1]) (a := 46) (p' := 178) rfl rfl rfl ly_46 rfl rfl rfl rfl rfl rfl rfl (F_64_ok (d := d + 2) (ht := (Or.inr rfl)) (hr_46_3 := hr_46_3) G_35) ?_
                          refine ev_st (st' := [.int p_35.1, .int 2, .int x_1, .ref 46]) rfl ?_
                          have e_35 := F_64_R G_35
                          obtain ⟨p_36, G_36, H⟩ := F_bd H
                          refine ev_cv (d := d + 3) (As := [.int x_1, .int 2, .int p_35.1]) (a := 46) (p' := 181) rfl rfl rfl ly_46 rfl rfl rfl rfl rfl rfl rfl (F_65_ok (d := d + 1) (ht := (Or.inr rfl)) (hr_46_3 := ((congrFun (congrFun e_35 46) 3).trans hr_46_3)) G_36) ?_
                          refine ev_st (st' := [.int p_36.1]) rfl ?_
                          have e_36 := F_65_R G_36
                          obtain rfl := Option.some.inj H
                          exact ev_iret rfl rfl rfl rfl
                        · refine F_if H (fun c_37 H => ?_) (fun c_37 H => ?_)
                          · refine ev_st (st' := [.int 14]) (congrArg (fun z => Value.int z :: []) c_37) ?_
                            refine ev_ts (off := 160) (t := 169) rfl rfl (by decide) rfl ?_
                            refine ev_x (i := .aload_n 0) (len := 1) (p' := 170) (s' := [.ref 46]) rfl rfl rfl ?_
                            refine ev_x (i := .iload_n 1) (len := 1) (p' := 171) (s' := [.int x_1, .ref 46]) rfl rfl rfl ?_
                            refine ev_x (i := .iconst 2) (len := 1) (p' := 172) (s' := [.int 2, .int x_1, .ref 46]) rfl rfl rfl ?_
                            refine ev_x (i := .aload_n 0) (len := 1) (p' := 173) (s' := [.ref 46, .int 2, .int x_1, .ref 46]) rfl rfl rfl ?_
                            refine ev_x (i := .iload_n 1) (len := 1) (p' := 174) (s' := [.int x_1, .ref 46, .int 2, .int x_1, .ref 46]) rfl rfl rfl ?_
                            refine ev_x (i := .iconst 1) (len := 1) (p' := 175) (s' := [.int 1, .int x_1, .ref 46, .int 2, .int x_1, .ref 46]) rfl rfl rfl ?_
                            obtain ⟨p_38, G_38, H⟩ := F_bd H
                            refine ev_cv (d := d + 3) (As := [.int x_1, .int 1]) (a := 46) (p' := 178) rfl rfl rfl ly_46 rfl rfl rfl rfl rfl rfl rfl (F_64_ok (d := d + 2) (ht := (Or.inr rfl)) (hr_46_3 := hr_46_3) G_38) ?_
                            refine ev_st (st' := [.int p_38.1, .int 2, .int x_1, .ref 46]) rfl ?_
                            have e_38 := F_64_R G_38
                            obtain ⟨p_39, G_39, H⟩ := F_bd H
                            refine ev_cv (d := d + 3) (As := [.int x_1, .int 2, .int p_38.1]) (a := 46) (p' := 181) rfl rfl rfl ly_46 rfl rfl rfl rfl rfl rfl rfl (F_65_ok (d := d + 1) (ht := (Or.inr rfl)) (hr_46_3 := ((congrFun (congrFun e_38 46) 3).trans hr_46_3)) G_39) ?_
                            refine ev_st (st' := [.int p_39.1]) rfl ?_
                            have e_39 := F_65_R G_39
                            obtain rfl := Option.some.inj H
                            exact ev_iret rfl rfl rfl rfl
                          · refine F_if H (fun c_40 H => ?_) (fun c_40 H => ?_)
                            · refine ev_st (st' := [.int 15]) (congrArg (fun z => Value.int z :: []) c_40) ?_
                              refine ev_ts (off := 160) (t := 169) rfl rfl (by decide) rfl ?_
                              refine ev_x (i := .aload_n 0) (len := 1) (p' := 170) (s' := [.ref 46]) rfl rfl rfl ?_
                              refine ev_x (i := .iload_n 1) (len := 1) (p' := 171) (s' := [.int x_1, .ref 46]) rfl rfl rfl ?_
                              refine ev_x (i := .iconst 2) (len := 1) (p' := 172) (s' := [.int 2, .int x_1, .ref 46]) rfl rfl rfl ?_
                              refine ev_x (i := .aload_n 0) (len := 1) (p' := 173) (s' := [.ref 46, .int 2, .int x_1, .ref 46]) rfl rfl rfl ?_
                              refine ev_x (i := .iload_n 1) (len := 1) (p' := 174) (s' := [.int x_1, .ref 46, .int 2, .int x_1, .ref 46]) rfl rfl rfl ?_
                              refine ev_x (i := .iconst 1) (len := 1) (p' := 175) (s' := [.int 1, .int x_1, .ref 46, .int 2, .int x_1, .ref 46]) rfl rfl rfl ?_
                              obtain ⟨p_41, G_41, H⟩ := F_bd H
                              refine ev_cv (d := d + 3) (As := [.int x_1, .int 1]) (a := 46) (p' := 178) rfl rfl rfl ly_46 rfl rfl rfl rfl rfl rfl rfl (F_64_ok (d := d + 2) (ht := (Or.inr rfl)) (hr_46_3 := hr_46_3) G_41) ?_
                              refine ev_st (st' := [.int p_41.1, .int 2, .int x_1, .ref 46]) rfl ?_
                              have e_41 := F_64_R G_41
                              obtain ⟨p_42, G_42, H⟩ := F_bd H
                              refine ev_cv (d := d + 3) (As := [.int x_1, .int 2, .int p_41.1]) (a := 46) (p' := 181) rfl rfl rfl ly_46 rfl rfl rfl rfl rfl rfl rfl (F_65_ok (d := d + 1) (ht := (Or.inr rfl)) (hr_46_3 := ((congrFun (congrFun e_41 46) 3).trans hr_46_3)) G_42) ?_
                              refine ev_st (st' := [.int p_42.1]) rfl ?_
                              have e_42 := F_65_R G_42
                              obtain rfl := Option.some.inj H
                              exact ev_iret rfl rfl rfl rfl
                            · refine F_if H (fun c_43 H => ?_) (fun c_43 H => ?_)
                              · refine ev_st (st' := [.int 16]) (congrArg (fun z => Value.int z :: []) c_43) ?_
                                refine ev_ts (off := 173) (t := 182) rfl rfl (by decide) rfl ?_
                                refine ev_x (i := .aload_n 0) (len := 1) (p' := 183) (s' := [.ref 46]) rfl rfl rfl ?_
                                refine ev_x (i := .iload_n 1) (len := 1) (p' := 184) (s' := [.int x_1, .ref 46]) rfl rfl rfl ?_
                                refine ev_x (i := .iconst 2) (len := 1) (p' := 185) (s' := [.int 2, .int x_1, .ref 46]) rfl rfl rfl ?_
                                refine ev_x (i := .aload_n 0) (len := 1) (p' := 186) (s' := [.ref 46, .int 2, .int x_1, .ref 46]) rfl rfl rfl ?_
                                refine ev_x (i := .iload_n 1) (len := 1) (p' := 187) (s' := [.int x_1, .ref 46, .int 2, .int x_1, .ref 46]) rfl rfl rfl ?_
                                obtain ⟨p_44, G_44, H⟩ := F_bd H
                                refine ev_cv (d := d + 3) (As := [.int x_1]) (a := 46) (p' := 190) rfl rfl rfl ly_46 rfl rfl rfl rfl rfl rfl rfl (F_63_ok (d := d + 2) (ht := (Or.inr rfl)) (hr_46_3 := hr_46_3) G_44) ?_
                                refine ev_st (st' := [.int p_44.1, .int 2, .int x_1, .ref 46]) rfl ?_
                                have e_44 := F_63_R G_44
                                refine ev_x (i := .iconst 2) (len := 1) (p' := 191) (s' := [.int 2, .int p_44.1, .int 2, .int x_1, .ref 46]) rfl rfl rfl ?_
                                refine F_jn (A := vz_ev P0 (d + 4) 57 199 [(0, .ref 46), (1, .int x_1)] [.int (if p_44.1 = 2 then 1 else 0 : Int32), .int 2, .int x_1, .ref 46] (hp (p_44.2)) (.inl (some (.int p.1)), hp p.2)) ?_ (fun J => ?_)
                                · obtain ⟨p_46, G_46, H⟩ := F_bd H
                                  refine ev_cv (d := d + 3) (As := [.int x_1, .int 2, .int (if p_44.1 = 2 then 1 else 0 : Int32)]) (a := 46) (p' := 202) rfl rfl rfl ly_46 rfl rfl rfl rfl rfl rfl rfl (F_65_ok (d := d + 1) (ht := (Or.inr rfl)) (hr_46_3 := ((congrFun (congrFun e_44 46) 3).trans hr_46_3)) G_46) ?_
                                  refine ev_st (st' := [.int p_46.1]) rfl ?_
                                  have e_46 := F_65_R G_46
                                  obtain rfl := Option.some.inj H
                                  exact ev_iret rfl rfl rfl rfl
                                · by_cases c_45 : p_44.1 = 2
                                  · refine ev_b2 (t := 198) (p' := 194) rfl rfl rfl (if_neg (fun q => q c_45)) ?_
                                    refine ev_x (i := .iconst 1) (len := 1) (p' := 195) (s' := [.int 1, .int 2, .int x_1, .ref 46]) rfl rfl rfl ?_
                                    refine ev_x (i := .goto 4) (len := 3) (p' := 199) (s' := [.int 1, .int 2, .int x_1, .ref 46]) rfl rfl rfl ?_
                                    exact ev_st (congrArg (fun z => Value.int z :: [.int 2, .int x_1, .ref 46]) (by rw [if_pos c_45])) J
                                  · refine ev_b2 (t := 198) (p' := 198) rfl rfl rfl (if_pos c_45) ?_
                                    refine ev_x (i := .iconst 0) (len := 1) (p' := 199) (s' := [.int 0, .int 2, .int x_1, .ref 46]) rfl rfl rfl ?_
                                    exact ev_st (congrArg (fun z => Value.int z :: [.int 2, .int x_1, .ref 46]) (by rw [if_neg c_45])) J
                              · refine F_if H (fun c_47 H => ?_) (fun c_47 H => ?_)
                                · refine ev_st (st' := [.int 17]) (congrArg (fun z => Value.int z :: []) c_47) ?_
                                  refine ev_ts (off := 194) (t := 203) rfl rfl (by decide) rfl ?_
                                  refine ev_x (i := .aload_n 0) (len := 1) (p' := 204) (s' := [.ref 46]) rfl rfl rfl ?_
                                  refine ev_x (i := .iload_n 1) (len := 1) (p' := 205) (s' := [.int x_1, .ref 46]) rfl rfl rfl ?_
                                  refine ev_x (i := .iconst 2) (len := 1) (p' := 206) (s' := [.int 2, .int x_1, .ref 46]) rfl rfl rfl ?_
                                  refine ev_x (i := .aload_n 0) (len := 1) (p' := 207) (s' := [.ref 46, .int 2, .int x_1, .ref 46]) rfl rfl rfl ?_
                                  refine ev_x (i := .iload_n 1) (len := 1) (p' := 208) (s' := [.int x_1, .ref 46, .int 2, .int x_1, .ref 46]) rfl rfl rfl ?_
                                  refine ev_x (i := .iconst 2) (len := 1) (p' := 209) (s' := [.int 2, .int x_1, .ref 46, .int 2, .int x_1, .ref 46]) rfl rfl rfl ?_
                                  obtain ⟨p_48, G_48, H⟩ := F_bd H
                                  refine ev_cv (d := d + 3) (As := [.int x_1, .int 2]) (a := 46) (p' := 212) rfl rfl rfl ly_46 rfl rfl rfl rfl rfl rfl rfl (F_64_ok (d := d + 2) (ht := (Or.inr rfl)) (hr_46_3 := hr_46_3) G_48) ?_
                                  refine ev_st (st' := [.int p_48.1, .int 2, .int x_1, .ref 46]) rfl ?_
                                  have e_48 := F_64_R G_48
                                  obtain ⟨p_49, G_49, H⟩ := F_bd H
                                  refine ev_cv (d := d + 3) (As := [.int x_1, .int 2, .int p_48.1]) (a := 46) (p' := 215) rfl rfl rfl ly_46 rfl rfl rfl rfl rfl rfl rfl (F_65_ok (d := d + 1) (ht := (Or.inr rfl)) (hr_46_3 := ((congrFun (congrFun e_48 46) 3).trans hr_46_3)) G_49) ?_
                                  refine ev_st (st' := [.int p_49.1]) rfl ?_
                                  have e_49 := F_65_R G_49
                                  obtain rfl := Option.some.inj H
                                  exact ev_iret rfl rfl rfl rfl
                                · refine F_if H (fun c_50 H => ?_) (fun c_50 H => ?_)
                                  · refine ev_st (st' := [.int 18]) (congrArg (fun z => Value.int z :: []) c_50) ?_
                                    refine ev_ts (off := 194) (t := 203) rfl rfl (by decide) rfl ?_
                                    refine ev_x (i := .aload_n 0) (len := 1) (p' := 204) (s' := [.ref 46]) rfl rfl rfl ?_
                                    refine ev_x (i := .iload_n 1) (len := 1) (p' := 205) (s' := [.int x_1, .ref 46]) rfl rfl rfl ?_
                                    refine ev_x (i := .iconst 2) (len := 1) (p' := 206) (s' := [.int 2, .int x_1, .ref 46]) rfl rfl rfl ?_
                                    refine ev_x (i := .aload_n 0) (len := 1) (p' := 207) (s' := [.ref 46, .int 2, .int x_1, .ref 46]) rfl rfl rfl ?_
                                    refine ev_x (i := .iload_n 1) (len := 1) (p' := 208) (s' := [.int x_1, .ref 46, .int 2, .int x_1, .ref 46]) rfl rfl rfl ?_
                                    refine ev_x (i := .iconst 2) (len := 1) (p' := 209) (s' := [.int 2, .int x_1, .ref 46, .int 2, .int x_1, .ref 46]) rfl rfl rfl ?_
                                    obtain ⟨p_51, G_51, H⟩ := F_bd H
                                    refine ev_cv (d := d + 3) (As := [.int x_1, .int 2]) (a := 46) (p' := 212) rfl rfl rfl ly_46 rfl rfl rfl rfl rfl rfl rfl (F_64_ok (d := d + 2) (ht := (Or.inr rfl)) (hr_46_3 := hr_46_3) G_51) ?_
                                    refine ev_st (st' := [.int p_51.1, .int 2, .int x_1, .ref 46]) rfl ?_
                                    have e_51 := F_64_R G_51
                                    obtain ⟨p_52, G_52, H⟩ := F_bd H
                                    refine ev_cv (d := d + 3) (As := [.int x_1, .int 2, .int p_51.1]) (a := 46) (p' := 215) rfl rfl rfl ly_46 rfl rfl rfl rfl rfl rfl rfl (F_65_ok (d := d + 1) (ht := (Or.inr rfl)) (hr_46_3 := ((congrFun (congrFun e_51 46) 3).trans hr_46_3)) G_52) ?_
                                    refine ev_st (st' := [.int p_52.1]) rfl ?_
                                    have e_52 := F_65_R G_52
                                    obtain rfl := Option.some.inj H
                                    exact ev_iret rfl rfl rfl rfl
                                  · refine F_if H (fun c_53 H => ?_) (fun c_53 H => ?_)
                                    · refine ev_st (st' := [.int 19]) (congrArg (fun z => Value.int z :: []) c_53) ?_
                                      refine ev_ts (off := 207) (t := 216) rfl rfl (by decide) rfl ?_
                                      refine ev_x (i := .aload_n 0) (len := 1) (p' := 217) (s' := [.ref 46]) rfl rfl rfl ?_
                                      refine ev_x (i := .iload_n 1) (len := 1) (p' := 218) (s' := [.int x_1, .ref 46]) rfl rfl rfl ?_
                                      obtain ⟨p_54, G_54, H⟩ := F_bd H
                                      refine ev_cv (d := d + 3) (As := [.int x_1]) (a := 46) (p' := 221) rfl rfl rfl ly_46 rfl rfl rfl rfl rfl rfl rfl (F_66_ok (d := d + 0) (ht := (Or.inr rfl)) (hr_46_3 := hr_46_3) G_54) ?_
                                      refine ev_st (st' := [.int p_54.1]) rfl ?_
                                      have e_54 := F_66_R G_54
                                      obtain rfl := Option.some.inj H
                                      exact ev_iret rfl rfl rfl rfl
                                    · refine F_if H (fun c_55 H => ?_) (fun c_55 H => ?_)
                                      · refine ev_st (st' := [.int 20]) (congrArg (fun z => Value.int z :: []) c_55) ?_
                                        refine ev_ts (off := 213) (t := 222) rfl rfl (by decide) rfl ?_
                                        refine ev_x (i := .aload_n 0) (len := 1) (p' := 223) (s' := [.ref 46]) rfl rfl rfl ?_
                                        refine ev_x (i := .iload_n 1) (len := 1) (p' := 224) (s' := [.int x_1, .ref 46]) rfl rfl rfl ?_
                                        refine ev_x (i := .aload_n 0) (len := 1) (p' := 225) (s' := [.ref 46, .int x_1, .ref 46]) rfl rfl rfl ?_
                                        refine ev_x (i := .iload_n 1) (len := 1) (p' := 226) (s' := [.int x_1, .ref 46, .int x_1, .ref 46]) rfl rfl rfl ?_
                                        refine ev_x (i := .iconst 1) (len := 1) (p' := 227) (s' := [.int 1, .int x_1, .ref 46, .int x_1, .ref 46]) rfl rfl rfl ?_
                                        obtain ⟨p_56, G_56, H⟩ := F_bd H
                                        refine ev_cv (d := d + 3) (As := [.int x_1, .int 1]) (a := 46) (p' := 230) rfl rfl rfl ly_46 rfl rfl rfl rfl rfl rfl rfl (F_64_ok (d := d + 2) (ht := (Or.inr rfl)) (hr_46_3 := hr_46_3) G_56) ?_
                                        refine ev_st (st' := [.int p_56.1, .int x_1, .ref 46]) rfl ?_
                                        have e_56 := F_64_R G_56
                                        refine F_jn (A := vz_ev P0 (d + 4) 57 238 [(0, .ref 46), (1, .int x_1)] [.int (if p_56.1 = 0 then 0 else 1 : Int32), .int x_1, .ref 46] (hp (p_56.2)) (.inl (some (.int p.1)), hp p.2)) ?_ (fun J => ?_)
                                        · refine ev_x (i := .iconst 1) (len := 1) (p' := 239) (s' := [.int 1, .int (if p_56.1 = 0 then 0 else 1 : Int32), .int x_1, .ref 46]) rfl rfl rfl ?_
                                          obtain ⟨p_58, G_58, H⟩ := F_bd H
                                          refine ev_cv (d := d + 3) (As := [.int x_1, .int (if p_56.1 = 0 then 0 else 1 : Int32), .int 1]) (a := 46) (p' := 242) rfl rfl rfl ly_46 rfl rfl rfl rfl rfl rfl rfl (F_65_ok (d := d + 1) (ht := (Or.inr rfl)) (hr_46_3 := ((congrFun (congrFun e_56 46) 3).trans hr_46_3)) G_58) ?_
                                          refine ev_st (st' := [.int p_58.1]) rfl ?_
                                          have e_58 := F_65_R G_58
                                          obtain rfl := Option.some.inj H
                                          exact ev_iret rfl rfl rfl rfl
                                        · by_cases c_57 : p_56.1 = 0
                                          · refine ev_b0 (t := 237) (p' := 237) rfl rfl rfl (if_pos c_57) ?_
                                            refine ev_x (i := .iconst 0) (len := 1) (p' := 238) (s' := [.int 0, .int x_1, .ref 46]) rfl rfl rfl ?_
                                            exact ev_st (congrArg (fun z => Value.int z :: [.int x_1, .ref 46]) (by rw [if_pos c_57])) J
                                          · refine ev_b0 (t := 237) (p' := 233) rfl rfl rfl (if_neg c_57) ?_
                                            refine ev_x (i := .iconst 1) (len := 1) (p' := 234) (s' := [.int 1, .int x_1, .ref 46]) rfl rfl rfl ?_
                                            refine ev_x (i := .goto 4) (len := 3) (p' := 238) (s' := [.int 1, .int x_1, .ref 46]) rfl rfl rfl ?_
                                            exact ev_st (congrArg (fun z => Value.int z :: [.int x_1, .ref 46]) (by rw [if_neg c_57])) J
                                      · refine F_if H (fun c_59 H => ?_) (fun c_59 H => ?_)
                                        · refine ev_st (st' := [.int 21]) (congrArg (fun z => Value.int z :: []) c_59) ?_
                                          refine ev_ts (off := 213) (t := 222) rfl rfl (by decide) rfl ?_
                                          refine ev_x (i := .aload_n 0) (len := 1) (p' := 223) (s' := [.ref 46]) rfl rfl rfl ?_
                                          refine ev_x (i := .iload_n 1) (len := 1) (p' := 224) (s' := [.int x_1, .ref 46]) rfl rfl rfl ?_
                                          refine ev_x (i := .aload_n 0) (len := 1) (p' := 225) (s' := [.ref 46, .int x_1, .ref 46]) rfl rfl rfl ?_
                                          refine ev_x (i := .iload_n 1) (len := 1) (p' := 226) (s' := [.int x_1, .ref 46, .int x_1, .ref 46]) rfl rfl rfl ?_
                                          refine ev_x (i := .iconst 1) (len := 1) (p' := 227) (s' := [.int 1, .int x_1, .ref 46, .int x_1, .ref 46]) rfl rfl rfl ?_
                                          obtain ⟨p_60, G_60, H⟩ := F_bd H
                                          refine ev_cv (d := d + 3) (As := [.int x_1, .int 1]) (a := 46) (p' := 230) rfl rfl rfl ly_46 rfl rfl rfl rfl rfl rfl rfl (F_64_ok (d := d + 2) (ht := (Or.inr rfl)) (hr_46_3 := hr_46_3) G_60) ?_
                                          refine ev_st (st' := [.int p_60.1, .int x_1, .ref 46]) rfl ?_
                                          have e_60 := F_64_R G_60
                                          refine F_jn (A := vz_ev P0 (d + 4) 57 238 [(0, .ref 46), (1, .int x_1)] [.int (if p_60.1 = 0 then 0 else 1 : Int32), .int x_1, .ref 46] (hp (p_60.2)) (.inl (some (.int p.1)), hp p.2)) ?_ (fun J => ?_)
                                          · refine ev_x (i := .iconst 1) (len := 1) (p' := 239) (s' := [.int 1, .int (if p_60.1 = 0 then 0 else 1 : Int32), .int x_1, .ref 46]) rfl rfl rfl ?_
                                            obtain ⟨p_62, G_62, H⟩ := F_bd H
                                            refine ev_cv (d := d + 3) (As := [.int x_1, .int (if p_60.1 = 0 then 0 else 1 : Int32), .int 1]) (a := 46) (p' := 242) rfl rfl rfl ly_46 rfl rfl rfl rfl rfl rfl rfl (F_65_ok (d := d + 1) (ht := (Or.inr rfl)) (hr_46_3 := ((congrFun (congrFun e_60 46) 3).trans hr_46_3)) G_62) ?_
                                            refine ev_st (st' := [.int p_62.1]) rfl ?_
                                            have e_62 := F_65_R G_62
                                            obtain rfl := Option.some.inj H
                                            exact ev_iret rfl rfl rfl rfl
                                          · by_cases c_61 : p_60.1 = 0
                                            · refine ev_b0 (t := 237) (p' := 237) rfl rfl rfl (if_pos c_61) ?_
                                              refine ev_x (i := .iconst 0) (len := 1) (p' := 238) (s' := [.int 0, .int x_1, .ref 46]) rfl rfl rfl ?_
                                              exact ev_st (congrArg (fun z => Value.int z :: [.int x_1, .ref 46]) (by rw [if_pos c_61])) J
                                            · refine ev_b0 (t := 237) (p' := 233) rfl rfl rfl (if_neg c_61) ?_
                                              refine ev_x (i := .iconst 1) (len := 1) (p' := 234) (s' := [.int 1, .int x_1, .ref 46]) rfl rfl rfl ?_
                                              refine ev_x (i := .goto 4) (len := 3) (p' := 238) (s' := [.int 1, .int x_1, .ref 46]) rfl rfl rfl ?_
                                              exact ev_st (congrArg (fun z => Value.int z :: [.int x_1, .ref 46]) (by rw [if_neg c_61])) J
                                        · refine F_if H (fun c_63 H => ?_) (fun c_63 H => ?_)
                                          · refine ev_st (st' := [.int 22]) (congrArg (fun z => Value.int z :: []) c_63) ?_
                                            refine ev_ts (off := 122) (t := 131) rfl rfl (by decide) rfl ?_
                                            refine ev_x (i := .aload_n 0) (len := 1) (p' := 132) (s' := [.ref 46]) rfl rfl rfl ?_
                                            refine ev_x (i := .iload_n 1) (len := 1) (p' := 133) (s' := [.int x_1, .ref 46]) rfl rfl rfl ?_
                                            refine ev_x (i := .iconst 1) (len := 1) (p' := 134) (s' := [.int 1, .int x_1, .ref 46]) rfl rfl rfl ?_
                                            refine ev_x (i := .aload_n 0) (len := 1) (p' := 135) (s' := [.ref 46, .int 1, .int x_1, .ref 46]) rfl rfl rfl ?_
                                            refine ev_x (i := .iload_n 1) (len := 1) (p' := 136) (s' := [.int x_1, .ref 46, .int 1, .int x_1, .ref 46]) rfl rfl rfl ?_
                                            obtain ⟨p_64, G_64, H⟩ := F_bd H
                                            refine ev_cv (d := d + 3) (As := [.int x_1]) (a := 46) (p' := 139) rfl rfl rfl ly_46 rfl rfl rfl rfl rfl rfl rfl (F_63_ok (d := d + 2) (ht := (Or.inr rfl)) (hr_46_3 := hr_46_3) G_64) ?_
                                            refine ev_st (st' := [.int p_64.1, .int 1, .int x_1, .ref 46]) rfl ?_
                                            have e_64 := F_63_R G_64
                                            refine ev_x (i := .iconst 1) (len := 1) (p' := 140) (s' := [.int 1, .int p_64.1, .int 1, .int x_1, .ref 46]) rfl rfl rfl ?_
                                            refine F_jn (A := vz_ev P0 (d + 4) 57 148 [(0, .ref 46), (1, .int x_1)] [.int (if p_64.1 = 1 then 1 else 0 : Int32), .int 1, .int x_1, .ref 46] (hp (p_64.2)) (.inl (some (.int p.1)), hp p.2)) ?_ (fun J => ?_)
                                            · obtain ⟨p_66, G_66, H⟩ := F_bd H
                                              refine ev_cv (d := d + 3) (As := [.int x_1, .int 1, .int (if p_64.1 = 1 then 1 else 0 : Int32)]) (a := 46) (p' := 151) rfl rfl rfl ly_46 rfl rfl rfl rfl rfl rfl rfl (F_65_ok (d := d + 1) (ht := (Or.inr rfl)) (hr_46_3 := ((congrFun (congrFun e_64 46) 3).trans hr_46_3)) G_66) ?_
                                              refine ev_st (st' := [.int p_66.1]) rfl ?_
                                              have e_66 := F_65_R G_66
                                              obtain rfl := Option.some.inj H
                                              exact ev_iret rfl rfl rfl rfl
                                            · by_cases c_65 : p_64.1 = 1
                                              · refine ev_b2 (t := 147) (p' := 143) rfl rfl rfl (if_neg (fun q => q c_65)) ?_
                                                refine ev_x (i := .iconst 1) (len := 1) (p' := 144) (s' := [.int 1, .int 1, .int x_1, .ref 46]) rfl rfl rfl ?_
                                                refine ev_x (i := .goto 4) (len := 3) (p' := 148) (s' := [.int 1, .int 1, .int x_1, .ref 46]) rfl rfl rfl ?_
                                                exact ev_st (congrArg (fun z => Value.int z :: [.int 1, .int x_1, .ref 46]) (by rw [if_pos c_65])) J
                                              · refine ev_b2 (t := 147) (p' := 147) rfl rfl rfl (if_pos c_65) ?_
                                                refine ev_x (i := .iconst 0) (len := 1) (p' := 148) (s' := [.int 0, .int 1, .int x_1, .ref 46]) rfl rfl rfl ?_
                                                exact ev_st (congrArg (fun z => Value.int z :: [.int 1, .int x_1, .ref 46]) (by rw [if_neg c_65])) J
                                          · have n_1 : (1 : Int) ≠ ((gE (σ) 22 (x_1 : Int32).toNatClampNeg) : Int32).toInt := i32_ne (k := 1) (by decide) c_2
                                            have n_4 : (4 : Int) ≠ ((gE (σ) 22 (x_1 : Int32).toNatClampNeg) : Int32).toInt := i32_ne (k := 4) (by decide) c_4
                                            have n_5 : (5 : Int) ≠ ((gE (σ) 22 (x_1 : Int32).toNatClampNeg) : Int32).toInt := i32_ne (k := 5) (by decide) c_7
                                            have n_6 : (6 : Int) ≠ ((gE (σ) 22 (x_1 : Int32).toNatClampNeg) : Int32).toInt := i32_ne (k := 6) (by decide) c_10
                                            have n_7 : (7 : Int) ≠ ((gE (σ) 22 (x_1 : Int32).toNatClampNeg) : Int32).toInt := i32_ne (k := 7) (by decide) c_13
                                            have n_8 : (8 : Int) ≠ ((gE (σ) 22 (x_1 : Int32).toNatClampNeg) : Int32).toInt := i32_ne (k := 8) (by decide) c_16
                                            have n_9 : (9 : Int) ≠ ((gE (σ) 22 (x_1 : Int32).toNatClampNeg) : Int32).toInt := i32_ne (k := 9) (by decide) c_19
                                            have n_10 : (10 : Int) ≠ ((gE (σ) 22 (x_1 : Int32).toNatClampNeg) : Int32).toInt := i32_ne (k := 10) (by decide) c_23
                                            have n_11 : (11 : Int) ≠ ((gE (σ) 22 (x_1 : Int32).toNatClampNeg) : Int32).toInt := i32_ne (k := 11) (by decide) c_27
                                            have n_12 : (12 : Int) ≠ ((gE (σ) 22 (x_1 : Int32).toNatClampNeg) : Int32).toInt := i32_ne (k := 12) (by decide) c_31
                                            have n_13 : (13 : Int) ≠ ((gE (σ) 22 (x_1 : Int32).toNatClampNeg) : Int32).toInt := i32_ne (k := 13) (by decide) c_34
                                            have n_14 : (14 : Int) ≠ ((gE (σ) 22 (x_1 : Int32).toNatClampNeg) : Int32).toInt := i32_ne (k := 14) (by decide) c_37
                                            have n_15 : (15 : Int) ≠ ((gE (σ) 22 (x_1 : Int32).toNatClampNeg) : Int32).toInt := i32_ne (k := 15) (by decide) c_40
                                            have n_16 : (16 : Int) ≠ ((gE (σ) 22 (x_1 : Int32).toNatClampNeg) : Int32).toInt := i32_ne (k := 16) (by decide) c_43
                                            have n_17 : (17 : Int) ≠ ((gE (σ) 22 (x_1 : Int32).toNatClampNeg) : Int32).toInt := i32_ne (k := 17) (by decide) c_47
                                            have n_18 : (18 : Int) ≠ ((gE (σ) 22 (x_1 : Int32).toNatClampNeg) : Int32).toInt := i32_ne (k := 18) (by decide) c_50
                                            have n_19 : (19 : Int) ≠ ((gE (σ) 22 (x_1 : Int32).toNatClampNeg) : Int32).toInt := i32_ne (k := 19) (by decide) c_53
                                            have n_20 : (20 : Int) ≠ ((gE (σ) 22 (x_1 : Int32).toNatClampNeg) : Int32).toInt := i32_ne (k := 20) (by decide) c_55
                                            have n_21 : (21 : Int) ≠ ((gE (σ) 22 (x_1 : Int32).toNatClampNeg) : Int32).toInt := i32_ne (k := 21) (by decide) c_59
                                            have n_22 : (22 : Int) ≠ ((gE (σ) 22 (x_1 : Int32).toNatClampNeg) : Int32).toInt := i32_ne (k := 22) (by decide) c_63
                                            refine ev_ts (off := 234) (t := 243) rfl rfl ?hsw rfl ?_
                                            case hsw =>
                                              by_cases hq : ((gE (σ) 22 (x_1 : Int32).toNatClampNeg) : Int32).toInt < 1 ∨ 22 < ((gE (σ) 22 (x_1 : Int32).toNatClampNeg) : Int32).toInt
                                              · exact if_pos hq
                                              · rw [if_neg hq]
                                                have hw : ((gE (σ) 22 (x_1 : Int32).toNatClampNeg) : Int32).toInt = 2 ∨ ((gE (σ) 22 (x_1 : Int32).toNatClampNeg) : Int32).toInt = 3 := by omega
                                                rcases hw with hw | hw <;> rw [hw] <;> rfl
                                            refine ev_x (i := .iconst 0) (len := 1) (p' := 244) (s' := [.int 0]) rfl rfl rfl ?_
                                            obtain rfl := Option.some.inj H
                                            exact ev_iret rfl rfl rfl rfl
/-- GameText$Checker.worksOut(I)I -/
def F_69 (N : Nat) (t : Nat) (x_1 : Int32) (σ : st_S) : Option (Int32 × st_S) :=
  (F_70 N t x_1 (σ)).bind fun p_1 =>
  if p_1.1 = 0 then
    some (0, p_1.2)
  else
    (F_61 N p_1.1 (gI p_1.2 42 6) (p_1.2)).bind fun p_3 =>
    some (p_3.1, p_3.2)
set_option maxRecDepth 100000 in
theorem F_69_R {N : Nat} {t : Nat} {x_1 : Int32} {σ : st_S} {p : Int32 × st_S} (H : F_69 N t x_1 σ = some p) : gR p.2 = gR σ := by
  unfold F_69 at H
  obtain ⟨p_1, G_1, H⟩ := F_bd H
  refine F_if H (fun _ H => ?_) (fun _ H => ?_)
  · obtain rfl := Option.some.inj H
    exact ((F_70_R G_1).trans rfl)
  · obtain ⟨p_3, G_3, H⟩ := F_bd H
    obtain rfl := Option.some.inj H
    exact ((F_61_R G_3).trans ((F_70_R G_1).trans rfl))
set_option maxHeartbeats 4000000 in
set_option maxRecDepth 100000 in
theorem F_69_ok {N d : Nat} {t : Nat} (ht : t = 4 ∨ t = 20) {x_1 : Int32} {σ : st_S} {p : Int32 × st_S} (hr_42_3 : gR σ 42 3 = t) (hr_42_4 : gR σ 42 4 = (t + 1)) (H : F_69 N t x_1 σ = some p) : vz_ev P0 (d + 4) 69 0 (lv_args 0 [.ref 46, .int x_1]) [] (hp σ) (.inl (some (.int p.1)), hp p.2) := by
  unfold F_69 at H
  refine ev_x (i := .aload_n 0) (len := 1) (p' := 1) (s' := [.ref 46]) rfl rfl rfl ?_
  refine ev_gc (p' := 4) (v := 42) rfl rfl rfl ly_46 rfl rfl ?_
  refine ev_x (i := .iload_n 1) (len := 1) (p' := 5) (s' := [.int x_1, .ref 42]) rfl rfl rfl ?_
  obtain ⟨p_1, G_1, H⟩ := F_bd H
  refine ev_cv (d := d + 3) (As := [.int x_1]) (a := 42) (p' := 8) rfl rfl rfl ly_42 rfl rfl rfl rfl rfl rfl rfl (F_70_ok (d := d + 0) (ht := ht) (hr_42_3 := hr_42_3) (hr_42_4 := hr_42_4) G_1) ?_
  refine ev_st (st' := [.int p_1.1]) rfl ?_
  have e_1 := F_70_R G_1
  refine ev_x (i := .istore_n 2) (len := 1) (p' := 9) (s' := []) (l' := [(2, .int p_1.1), (0, .ref 46), (1, .int x_1)]) rfl rfl rfl ?_
  refine ev_x (i := .iload_n 2) (len := 1) (p' := 10) (s' := [.int p_1.1]) rfl rfl rfl ?_
  refine F_if H (fun c_2 H => ?_) (fun c_2 H => ?_)
  · refine ev_b0 (t := 17) (p' := 13) rfl rfl rfl (if_neg (fun q => q c_2)) ?_
    refine ev_x (i := .iconst 0) (len := 1) (p' := 14) (s' := [.int 0]) rfl rfl rfl ?_
    refine ev_x (i := .goto 15) (len := 3) (p' := 29) (s' := [.int 0]) rfl rfl rfl ?_
    obtain rfl := Option.some.inj H
    exact ev_iret rfl rfl rfl rfl
  · refine ev_b0 (t := 17) (p' := 17) rfl rfl rfl (if_pos c_2) ?_
    refine ev_x (i := .aload_n 0) (len := 1) (p' := 18) (s' := [.ref 46]) rfl rfl rfl ?_
    refine ev_x (i := .iload_n 2) (len := 1) (p' := 19) (s' := [.int p_1.1, .ref 46]) rfl rfl rfl ?_
    refine ev_x (i := .aload_n 0) (len := 1) (p' := 20) (s' := [.ref 46, .int p_1.1, .ref 46]) rfl rfl rfl ?_
    refine ev_gc (p' := 23) (v := 42) rfl rfl rfl ly_46 rfl rfl ?_
    refine ev_gi (p' := 26) (v := (gI p_1.2 42 6)) rfl rfl rfl ly_42 rfl rfl rfl ?_
    obtain ⟨p_3, G_3, H⟩ := F_bd H
    refine ev_cv (d := d + 3) (As := [.int p_1.1, .int (gI p_1.2 42 6)]) (a := 46) (p' := 29) rfl rfl rfl ly_46 rfl rfl rfl rfl rfl rfl rfl (F_61_ok (d := d + 2)   G_3) ?_
    refine ev_st (st' := [.int p_3.1]) rfl ?_
    have e_3 := F_61_R G_3
    obtain rfl := Option.some.inj H
    exact ev_iret rfl rfl rfl rfl
/-- GameText$Names.add(IIII)V -/
def F_79 (N : Nat) (x_1 : Int32) (x_2 : Int32) (x_3 : Int32) (x_4 : Int32) (σ : st_S) : Option (st_S) :=
  if 72 ≤ (gI σ 47 5) then
    some (σ)
  else
    if aB (gI σ 47 5) (gN σ 48) then
    if aB (gI σ 47 5) (gN σ 49) then
    if aB (gI σ 47 5) (gN σ 50) then
    if aB (gI σ 47 5) (gN σ 51) then
    some (st_i (st_e (st_e (st_e (st_e (σ) 48 (((gI σ 47 5) : Int32).toNatClampNeg) x_1) 49 (((gI σ 47 5) : Int32).toNatClampNeg) x_2) 50 (((gI σ 47 5) : Int32).toNatClampNeg) x_3) 51 (((gI σ 47 5) : Int32).toNatClampNeg) x_4) 47 5 ((gI σ 47 5) + 1))
    else none
    else none
    else none
    else none
set_option maxRecDepth 100000 in
theorem F_79_R {N : Nat} {x_1 : Int32} {x_2 : Int32} {x_3 : Int32} {x_4 : Int32} {σ : st_S} {p : st_S} (H : F_79 N x_1 x_2 x_3 x_4 σ = some p) : gR p = gR σ := by
  unfold F_79 at H
  refine F_if H (fun _ H => ?_) (fun _ H => ?_)
  · obtain rfl := Option.some.inj H
    exact rfl
  · obtain ⟨_, H⟩ := F_gd H
    obtain ⟨_, H⟩ := F_gd H
    obtain ⟨_, H⟩ := F_gd H
    obtain ⟨_, H⟩ := F_gd H
    obtain rfl := Option.some.inj H
    exact rfl
set_option maxHeartbeats 4000000 in
set_option maxRecDepth 100000 in
theorem F_79_ok {N d : Nat} {x_1 : Int32} {x_2 : Int32} {x_3 : Int32} {x_4 : Int32} {σ : st_S} {p : st_S}  (H : F_79 N x_1 x_2 x_3 x_4 σ = some p) : vz_ev P0 (d + 1) 79 0 (lv_args 0 [.ref 47, .int x_1, .int x_2, .int x_3, .int x_4]) [] (hp σ) (.inl none, hp p) := by
  unfold F_79 at H
  refine ev_x (i := .aload_n 0) (len := 1) (p' := 1) (s' := [.ref 47]) rfl rfl rfl ?_
  refine ev_gi (p' := 4) (v := (gI σ 47 5)) rfl rfl rfl ly_47 rfl rfl rfl ?_
  refine ev_x (i := .bipush 72) (len := 2) (p' := 6) (s' := [.int 72, .int (gI σ 47 5)]) rfl rfl rfl ?_
  refine F_if H (fun c_1 H => ?_) (fun c_1 H => ?_)
  · refine ev_b2 (t := 60) (p' := 60) rfl rfl rfl (if_pos c_1) ?_
    obtain rfl := Option.some.inj H
    exact ev_vret rfl rfl rfl
  · refine ev_b2 (t := 60) (p' := 9) rfl rfl rfl (if_neg c_1) ?_
    refine ev_x (i := .aload_n 0) (len := 1) (p' := 10) (s' := [.ref 47]) rfl rfl rfl ?_
    refine ev_gc (p' := 13) (v := 48) rfl rfl rfl ly_47 rfl rfl ?_
    refine ev_x (i := .aload_n 0) (len := 1) (p' := 14) (s' := [.ref 47, .ref 48]) rfl rfl rfl ?_
    refine ev_gi (p' := 17) (v := (gI σ 47 5)) rfl rfl rfl ly_47 rfl rfl rfl ?_
    refine ev_x (i := .iload_n 1) (len := 1) (p' := 18) (s' := [.int x_1, .int (gI σ 47 5), .ref 48]) rfl rfl rfl ?_
    obtain ⟨b_2, H⟩ := F_gd H
    refine ev_pa (j := ((gI σ 47 5) : Int32).toNatClampNeg) (p' := 19) rfl rfl ly_48 rfl (gd_in b_2) rfl ?_
    refine ev_x (i := .aload_n 0) (len := 1) (p' := 20) (s' := [.ref 47]) rfl rfl rfl ?_
    refine ev_gc (p' := 23) (v := 49) rfl rfl rfl ly_47 rfl rfl ?_
    refine ev_x (i := .aload_n 0) (len := 1) (p' := 24) (s' := [.ref 47, .ref 49]) rfl rfl rfl ?_
    refine ev_gi (p' := 27) (v := (gI σ 47 5)) rfl rfl rfl ly_47 rfl rfl rfl ?_
    refine ev_x (i := .iload_n 2) (len := 1) (p' := 28) (s' := [.int x_2, .int (gI σ 47 5), .ref 49]) rfl rfl rfl ?_
    obtain ⟨b_3, H⟩ := F_gd H
    refine ev_pa (j := ((gI σ 47 5) : Int32).toNatClampNeg) (p' := 29) rfl rfl ly_49 rfl (gd_in b_3) rfl ?_
    refine ev_x (i := .aload_n 0) (len := 1) (p' := 30) (s' := [.ref 47]) rfl rfl rfl ?_
    refine ev_gc (p' := 33) (v := 50) rfl rfl rfl ly_47 rfl rfl ?_
    refine ev_x (i := .aload_n 0) (len := 1) (p' := 34) (s' := [.ref 47, .ref 50]) rfl rfl rfl ?_
    refine ev_gi (p' := 37) (v := (gI σ 47 5)) rfl rfl rfl ly_47 rfl rfl rfl ?_
    refine ev_x (i := .iload_n 3) (len := 1) (p' := 38) (s' := [.int x_3, .int (gI σ 47 5), .ref 50]) rfl rfl rfl ?_
    obtain ⟨b_4, H⟩ := F_gd H
    refine ev_pa (j := ((gI σ 47 5) : Int32).toNatClampNeg) (p' := 39) rfl rfl ly_50 rfl (gd_in b_4) rfl ?_
    refine ev_x (i := .aload_n 0) (len := 1) (p' := 40) (s' := [.ref 47]) rfl rfl rfl ?_
    refine ev_gc (p' := 43) (v := 51) rfl rfl rfl ly_47 rfl rfl ?_
    refine ev_x (i := .aload_n 0) (len := 1) (p' := 44) (s' := [.ref 47, .ref 51]) rfl rfl rfl ?_
    refine ev_gi (p' := 47) (v := (gI σ 47 5)) rfl rfl rfl ly_47 rfl rfl rfl ?_
    refine ev_x (i := .iload 4) (len := 2) (p' := 49) (s' := [.int x_4, .int (gI σ 47 5), .ref 51]) rfl rfl rfl ?_
    obtain ⟨b_5, H⟩ := F_gd H
    refine ev_pa (j := ((gI σ 47 5) : Int32).toNatClampNeg) (p' := 50) rfl rfl ly_51 rfl (gd_in b_5) rfl ?_
    refine ev_x (i := .aload_n 0) (len := 1) (p' := 51) (s' := [.ref 47]) rfl rfl rfl ?_
    refine ev_x (i := .dup) (len := 1) (p' := 52) (s' := [.ref 47, .ref 47]) rfl rfl rfl ?_
    refine ev_gi (p' := 55) (v := (gI σ 47 5)) rfl rfl rfl ly_47 rfl rfl rfl ?_
    refine ev_x (i := .iconst 1) (len := 1) (p' := 56) (s' := [.int 1, .int (gI σ 47 5), .ref 47]) rfl rfl rfl ?_
    refine ev_x (i := .iadd) (len := 1) (p' := 57) (s' := [.int ((gI σ 47 5) + 1), .ref 47]) rfl rfl rfl ?_
    refine ev_pi (p' := 60) rfl rfl rfl ly_47 rfl rfl rfl rfl ?_
    obtain rfl := Option.some.inj H
    exact ev_vret rfl rfl rfl
/-- GameText$Checker.finishesConst()I -/
def F_68 (N : Nat) (t : Nat) (σ : st_S) : Option (Int32 × st_S) :=
  (F_69 N t (gI σ 46 6) (σ)).bind fun p_1 =>
  if p_1.1 = 0 then
    if aB (gI p_1.2 46 5) (gN p_1.2 (t + 4)) then
    if aB (gI p_1.2 46 5) (gN p_1.2 (t + 5)) then
    if aB (gI p_1.2 46 6) (gN p_1.2 (t + 4)) then
    (F_79 N (gE (p_1.2) (t + 4) ((gI p_1.2 46 5) : Int32).toNatClampNeg) (gE (p_1.2) (t + 5) ((gI p_1.2 46 5) : Int32).toNatClampNeg) 27 (gE (p_1.2) (t + 4) ((gI p_1.2 46 6) : Int32).toNatClampNeg) (p_1.2)).bind fun p_6 =>
    some (p_1.1, st_i (p_6) t 8 ((gI p_6 t 8) + 1))
    else none
    else none
    else none
  else
    some (p_1.1, p_1.2)
set_option maxRecDepth 100000 in
theorem F_68_R {N : Nat} {t : Nat} {σ : st_S} {p : Int32 × st_S} (H : F_68 N t σ = some p) : gR p.2 = gR σ := by
  unfold F_68 at H
  obtain ⟨p_1, G_1, H⟩ := F_bd H
  refine F_if H (fun _ H => ?_) (fun _ H => ?_)
  · obtain ⟨_, H⟩ := F_gd H
    obtain ⟨_, H⟩ := F_gd H
    obtain ⟨_, H⟩ := F_gd H
    obtain ⟨p_6, G_6, H⟩ := F_bd H
    obtain rfl := Option.some.inj H
    exact ((F_79_R G_6).trans ((F_69_R G_1).trans rfl))
  · obtain rfl := Option.some.inj H
    exact ((F_69_R G_1).trans rfl)
set_option maxHeartbeats 4000000 in
set_option maxRecDepth 100000 in
theorem F_68_ok {N d : Nat} {t : Nat} (ht : t = 4 ∨ t = 20) {σ : st_S} {p : Int32 × st_S} (hr_42_3 : gR σ 42 3 = t) (hr_42_4 : gR σ 42 4 = (t + 1)) (hr_46_2 : gR σ 46 2 = t) (hr_46_3 : gR σ 46 3 = (t + 1)) (H : F_68 N t σ = some p) : vz_ev P0 (d + 5) 68 0 (lv_args 0 [.ref 46]) [] (hp σ) (.inl (some (.int p.1)), hp p.2) := by
  unfold F_68 at H
  rcases ht with rfl | rfl
  · refine ev_x (i := .aload_n 0) (len := 1) (p' := 1) (s' := [.ref 46]) rfl rfl rfl ?_
    refine ev_x (i := .aload_n 0) (len := 1) (p' := 2) (s' := [.ref 46, .ref 46]) rfl rfl rfl ?_
    refine ev_gi (p' := 5) (v := (gI σ 46 6)) rfl rfl rfl ly_46 rfl rfl rfl ?_
    obtain ⟨p_1, G_1, H⟩ := F_bd H
    refine ev_cv (d := d + 4) (As := [.int (gI σ 46 6)]) (a := 46) (p' := 8) rfl rfl rfl ly_46 rfl rfl rfl rfl rfl rfl rfl (F_69_ok (d := d + 0) (ht := (Or.inl rfl)) (hr_42_3 := hr_42_3) (hr_42_4 := hr_42_4) G_1) ?_
    refine ev_st (st' := [.int p_1.1]) rfl ?_
    have e_1 := F_69_R G_1
    refine ev_x (i := .istore_n 1) (len := 1) (p' := 9) (s' := []) (l' := [(1, .int p_1.1), (0, .ref 46)]) rfl rfl rfl ?_
    refine ev_x (i := .iload_n 1) (len := 1) (p' := 10) (s' := [.int p_1.1]) rfl rfl rfl ?_
    refine F_if H (fun c_2 H => ?_) (fun c_2 H => ?_)
    · refine ev_b0 (t := 71) (p' := 13) rfl rfl rfl (if_neg (fun q => q c_2)) ?_
      refine ev_x (i := .aload_n 0) (len := 1) (p' := 14) (s' := [.ref 46]) rfl rfl rfl ?_
      refine ev_gc (p' := 17) (v := 47) rfl rfl rfl ly_46 rfl rfl ?_
      refine ev_x (i := .aload_n 0) (len := 1) (p' := 18) (s' := [.ref 46, .ref 47]) rfl rfl rfl ?_
      refine ev_gr (p' := 21) (v := 5) rfl rfl rfl ly_46 rfl rfl ((congrFun (congrFun e_1 46) 3).trans hr_46_3) ?_
      refine ev_gc (p' := 24) (v := 8) rfl rfl rfl ly_5 rfl rfl ?_
      refine ev_x (i := .aload_n 0) (len := 1) (p' := 25) (s' := [.ref 46, .ref 8, .ref 47]) rfl rfl rfl ?_
      refine ev_gi (p' := 28) (v := (gI p_1.2 46 5)) rfl rfl rfl ly_46 rfl rfl rfl ?_
      obtain ⟨b_3, H⟩ := F_gd H
      refine ev_ga (p' := 29) (v := (gE (p_1.2) 8 ((gI p_1.2 46 5) : Int32).toNatClampNeg)) rfl rfl ly_8 rfl (gd_in b_3) rfl ?_
      refine ev_x (i := .aload_n 0) (len := 1) (p' := 30) (s' := [.ref 46, .int (gE (p_1.2) 8 ((gI p_1.2 46 5) : Int32).toNatClampNeg), .ref 47]) rfl rfl rfl ?_
      refine ev_gr (p' := 33) (v := 5) rfl rfl rfl ly_46 rfl rfl ((congrFun (congrFun e_1 46) 3).trans hr_46_3) ?_
      refine ev_gc (p' := 36) (v := 9) rfl rfl rfl ly_5 rfl rfl ?_
      refine ev_x (i := .aload_n 0) (len := 1) (p' := 37) (s' := [.ref 46, .ref 9, .int (gE (p_1.2) 8 ((gI p_1.2 46 5) : Int32).toNatClampNeg), .ref 47]) rfl rfl rfl ?_
      refine ev_gi (p' := 40) (v := (gI p_1.2 46 5)) rfl rfl rfl ly_46 rfl rfl rfl ?_
      obtain ⟨b_4, H⟩ := F_gd H
      refine ev_ga (p' := 41) (v := (gE (p_1.2) 9 ((gI p_1.2 46 5) : Int32).toNatClampNeg)) rfl rfl ly_9 rfl (gd_in b_4) rfl ?_
      refine ev_x (i := .bipush 27) (len := 2) (p' := 43) (s' := [.int 27, .int (gE (p_1.2) 9 ((gI p_1.2 46 5) : Int32).toNatClampNeg), .int (gE (p_1.2) 8 ((gI p_1.2 46 5) : Int32).toNatClampNeg), .ref 47]) rfl rfl rfl ?_
      refine ev_x (i := .aload_n 0) (len := 1) (p' := 44) (s' := [.ref 46, .int 27, .int (gE (p_1.2) 9 ((gI p_1.2 46 5) : Int32).toNatClampNeg), .int (gE (p_1.2) 8 ((gI p_1.2 46 5) : Int32).toNatClampNeg), .ref 47]) rfl rfl rfl ?_
      refine ev_gr (p' := 47) (v := 5) rfl rfl rfl ly_46 rfl rfl ((congrFun (congrFun e_1 46) 3).trans hr_46_3) ?_
      refine ev_gc (p' := 50) (v := 8) rfl rfl rfl ly_5 rfl rfl ?_
      refine ev_x (i := .aload_n 0) (len := 1) (p' := 51) (s' := [.ref 46, .ref 8, .int 27, .int (gE (p_1.2) 9 ((gI p_1.2 46 5) : Int32).toNatClampNeg), .int (gE (p_1.2) 8 ((gI p_1.2 46 5) : Int32).toNatClampNeg), .ref 47]) rfl rfl rfl ?_
      refine ev_gi (p' := 54) (v := (gI p_1.2 46 6)) rfl rfl rfl ly_46 rfl rfl rfl ?_
      obtain ⟨b_5, H⟩ := F_gd H
      refine ev_ga (p' := 55) (v := (gE (p_1.2) 8 ((gI p_1.2 46 6) : Int32).toNatClampNeg)) rfl rfl ly_8 rfl (gd_in b_5) rfl ?_
      obtain ⟨p_6, G_6, H⟩ := F_bd H
      refine ev_cv (d := d + 4) (As := [.int (gE (p_1.2) 8 ((gI p_1.2 46 5) : Int32).toNatClampNeg), .int (gE (p_1.2) 9 ((gI p_1.2 46 5) : Int32).toNatClampNeg), .int 27, .int (gE (p_1.2) 8 ((gI p_1.2 46 6) : Int32).toNatClampNeg)]) (a := 47) (p' := 58) rfl rfl rfl ly_47 rfl rfl rfl rfl rfl rfl rfl (F_79_ok (d := d + 3)   G_6) ?_
      refine ev_st (st' := []) rfl ?_
      have e_6 := F_79_R G_6
      refine ev_x (i := .aload_n 0) (len := 1) (p' := 59) (s' := [.ref 46]) rfl rfl rfl ?_
      refine ev_gr (p' := 62) (v := 4) rfl rfl rfl ly_46 rfl rfl ((congrFun (congrFun e_6 46) 2).trans ((congrFun (congrFun e_1 46) 2).trans hr_46_2)) ?_
      refine ev_x (i := .dup) (len := 1) (p' := 63) (s' := [.ref 4, .ref 4]) rfl rfl rfl ?_
      refine ev_gi (p' := 66) (v := (gI p_6 4 8)) rfl rfl rfl ly_4 rfl rfl rfl ?_
      refine ev_x (i := .iconst 1) (len := 1) (p' := 67) (s' := [.int 1, .int (gI p_6 4 8), .ref 4]) rfl rfl rfl ?_
      refine ev_x (i := .iadd) (len := 1) (p' := 68) (s' := [.int ((gI p_6 4 8) + 1), .ref 4]) rfl rfl rfl ?_
      refine ev_pi (p' := 71) rfl rfl rfl ly_4 rfl rfl rfl rfl ?_
      refine ev_x (i := .iload_n 1) (len := 1) (p' := 72) (s' := [.int p_1.1]) rfl rfl rfl ?_
      obtain rfl := Option.some.inj H
      exact ev_iret rfl rfl rfl rfl
    · refine ev_b0 (t := 71) (p' := 71) rfl rfl rfl (if_pos c_2) ?_
      refine ev_x (i := .iload_n 1) (len := 1) (p' := 72) (s' := [.int p_1.1]) rfl rfl rfl ?_
      obtain rfl := Option.some.inj H
      exact ev_iret rfl rfl rfl rfl
  · refine ev_x (i := .aload_n 0) (len := 1) (p' := 1) (s' := [.ref 46]) rfl rfl rfl ?_
    refine ev_x (i := .aload_n 0) (len := 1) (p' := 2) (s' := [.ref 46, .ref 46]) rfl rfl rfl ?_
    refine ev_gi (p' := 5) (v := (gI σ 46 6)) rfl rfl rfl ly_46 rfl rfl rfl ?_
    obtain ⟨p_1, G_1, H⟩ := F_bd H
    refine ev_cv (d := d + 4) (As := [.int (gI σ 46 6)]) (a := 46) (p' := 8) rfl rfl rfl ly_46 rfl rfl rfl rfl rfl rfl rfl (F_69_ok (d := d + 0) (ht := (Or.inr rfl)) (hr_42_3 := hr_42_3) (hr_42_4 := hr_42_4) G_1) ?_
    refine ev_st (st' := [.int p_1.1]) rfl ?_
    have e_1 := F_69_R G_1
    refine ev_x (i := .istore_n 1) (len := 1) (p' := 9) (s' := []) (l' := [(1, .int p_1.1), (0, .ref 46)]) rfl rfl rfl ?_
    refine ev_x (i := .iload_n 1) (len := 1) (p' := 10) (s' := [.int p_1.1]) rfl rfl rfl ?_
    refine F_if H (fun c_2 H => ?_) (fun c_2 H => ?_)
    · refine ev_b0 (t := 71) (p' := 13) rfl rfl rfl (if_neg (fun q => q c_2)) ?_
      refine ev_x (i := .aload_n 0) (len := 1) (p' := 14) (s' := [.ref 46]) rfl rfl rfl ?_
      refine ev_gc (p' := 17) (v := 47) rfl rfl rfl ly_46 rfl rfl ?_
      refine ev_x (i := .aload_n 0) (len := 1) (p' := 18) (s' := [.ref 46, .ref 47]) rfl rfl rfl ?_
      refine ev_gr (p' := 21) (v := 21) rfl rfl rfl ly_46 rfl rfl ((congrFun (congrFun e_1 46) 3).trans hr_46_3) ?_
      refine ev_gc (p' := 24) (v := 24) rfl rfl rfl ly_21 rfl rfl ?_
      refine ev_x (i := .aload_n 0) (len := 1) (p' := 25) (s' := [.ref 46, .ref 24, .ref 47]) rfl rfl rfl ?_
      refine ev_gi (p' := 28) (v := (gI p_1.2 46 5)) rfl rfl rfl ly_46 rfl rfl rfl ?_
      obtain ⟨b_3, H⟩ := F_gd H
      refine ev_ga (p' := 29) (v := (gE (p_1.2) 24 ((gI p_1.2 46 5) : Int32).toNatClampNeg)) rfl rfl ly_24 rfl (gd_in b_3) rfl ?_
      refine ev_x (i := .aload_n 0) (len := 1) (p' := 30) (s' := [.ref 46, .int (gE (p_1.2) 24 ((gI p_1.2 46 5) : Int32).toNatClampNeg), .ref 47]) rfl rfl rfl ?_
      refine ev_gr (p' := 33) (v := 21) rfl rfl rfl ly_46 rfl rfl ((congrFun (congrFun e_1 46) 3).trans hr_46_3) ?_
      refine ev_gc (p' := 36) (v := 25) rfl rfl rfl ly_21 rfl rfl ?_
      refine ev_x (i := .aload_n 0) (len := 1) (p' := 37) (s' := [.ref 46, .ref 25, .int (gE (p_1.2) 24 ((gI p_1.2 46 5) : Int32).toNatClampNeg), .ref 47]) rfl rfl rfl ?_
      refine ev_gi (p' := 40) (v := (gI p_1.2 46 5)) rfl rfl rfl ly_46 rfl rfl rfl ?_
      obtain ⟨b_4, H⟩ := F_gd H
      refine ev_ga (p' := 41) (v := (gE (p_1.2) 25 ((gI p_1.2 46 5) : Int32).toNatClampNeg)) rfl rfl ly_25 rfl (gd_in b_4) rfl ?_
      refine ev_x (i := .bipush 27) (len := 2) (p' := 43) (s' := [.int 27, .int (gE (p_1.2) 25 ((gI p_1.2 46 5) : Int32).toNatClampNeg), .int (gE (p_1.2) 24 ((gI p_1.2 46 5) : Int32).toNatClampNeg), .ref 47]) rfl rfl rfl ?_
      refine ev_x (i := .aload_n 0) (len := 1) (p' := 44) (s' := [.ref 46, .int 27, .int (gE (p_1.2) 25 ((gI p_1.2 46 5) : Int32).toNatClampNeg), .int (gE (p_1.2) 24 ((gI p_1.2 46 5) : Int32).toNatClampNeg), .ref 47]) rfl rfl rfl ?_
      refine ev_gr (p' := 47) (v := 21) rfl rfl rfl ly_46 rfl rfl ((congrFun (congrFun e_1 46) 3).trans hr_46_3) ?_
      refine ev_gc (p' := 50) (v := 24) rfl rfl rfl ly_21 rfl rfl ?_
      refine ev_x (i := .aload_n 0) (len := 1) (p' := 51) (s' := [.ref 46, .ref 24, .int 27, .int (gE (p_1.2) 25 ((gI p_1.2 46 5) : Int32).toNatClampNeg), .int (gE (p_1.2) 24 ((gI p_1.2 46 5) : Int32).toNatClampNeg), .ref 47]) rfl rfl rfl ?_
      refine ev_gi (p' := 54) (v := (gI p_1.2 46 6)) rfl rfl rfl ly_46 rfl rfl rfl ?_
      obtain ⟨b_5, H⟩ := F_gd H
      refine ev_ga (p' := 55) (v := (gE (p_1.2) 24 ((gI p_1.2 46 6) : Int32).toNatClampNeg)) rfl rfl ly_24 rfl (gd_in b_5) rfl ?_
      obtain ⟨p_6, G_6, H⟩ := F_bd H
      refine ev_cv (d := d + 4) (As := [.int (gE (p_1.2) 24 ((gI p_1.2 46 5) : Int32).toNatClampNeg), .int (gE (p_1.2) 25 ((gI p_1.2 46 5) : Int32).toNatClampNeg), .int 27, .int (gE (p_1.2) 24 ((gI p_1.2 46 6) : Int32).toNatClampNeg)]) (a := 47) (p' := 58) rfl rfl rfl ly_47 rfl rfl rfl rfl rfl rfl rfl (F_79_ok (d := d + 3)   G_6) ?_
      refine ev_st (st' := []) rfl ?_
      have e_6 := F_79_R G_6
      refine ev_x (i := .aload_n 0) (len := 1) (p' := 59) (s' := [.ref 46]) rfl rfl rfl ?_
      refine ev_gr (p' := 62) (v := 20) rfl rfl rfl ly_46 rfl rfl ((congrFun (congrFun e_6 46) 2).trans ((congrFun (congrFun e_1 46) 2).trans hr_46_2)) ?_
      refine ev_x (i := .dup) (len := 1) (p' := 63) (s' := [.ref 20, .ref 20]) rfl rfl rfl ?_
      refine ev_gi (p' := 66) (v := (gI p_6 20 8)) rfl rfl rfl ly_20 rfl rfl rfl ?_
      refine ev_x (i := .iconst 1) (len := 1) (p' := 67) (s' := [.int 1, .int (gI p_6 20 8), .ref 20]) rfl rfl rfl ?_
      refine ev_x (i := .iadd) (len := 1) (p' := 68) (s' := [.int ((gI p_6 20 8) + 1), .ref 20]) rfl rfl rfl ?_
      refine ev_pi (p' := 71) rfl rfl rfl ly_20 rfl rfl rfl rfl ?_
      refine ev_x (i := .iload_n 1) (len := 1) (p' := 72) (s' := [.int p_1.1]) rfl rfl rfl ?_
      obtain rfl := Option.some.inj H
      exact ev_iret rfl rfl rfl rfl
    · refine ev_b0 (t := 71) (p' := 71) rfl rfl rfl (if_pos c_2) ?_
      refine ev_x (i := .iload_n 1) (len := 1) (p' := 72) (s' := [.int p_1.1]) rfl rfl rfl ?_
      obtain rfl := Option.some.inj H
      exact ev_iret rfl rfl rfl rfl
/-- GameText$Checker.addVar(III)V -/
def F_81 (N : Nat) (t : Nat) (x_1 : Int32) (x_2 : Int32) (x_3 : Int32) (σ : st_S) : Option (st_S) :=
  if aB (gI σ t 7) (gN σ (t + 10)) then
  if aB (gI σ t 7) (gN σ (t + 11)) then
  if aB (gI σ t 7) (gN σ (t + 12)) then
  if aB (gI σ 46 5) (gN σ (t + 6)) then
  if aB (gI σ t 7) (gN σ (t + 13)) then
  if aB (gI σ 46 5) (gN σ (t + 4)) then
  if aB (gI σ 46 5) (gN σ (t + 5)) then
  (F_79 N (gE (σ) (t + 4) ((gI σ 46 5) : Int32).toNatClampNeg) (gE (σ) (t + 5) ((gI σ 46 5) : Int32).toNatClampNeg) 29 (gI σ t 7) (st_i (st_e (st_e (st_e (st_e (σ) (t + 10) (((gI σ t 7) : Int32).toNatClampNeg) x_1) (t + 11) (((gI σ t 7) : Int32).toNatClampNeg) x_2) (t + 12) (((gI σ t 7) : Int32).toNatClampNeg) x_3) (t + 13) (((gI σ t 7) : Int32).toNatClampNeg) (gE (σ) (t + 6) ((gI σ 46 5) : Int32).toNatClampNeg)) t 7 ((gI σ t 7) + 1))).bind fun p_8 =>
  some (p_8)
  else none
  else none
  else none
  else none
  else none
  else none
  else none
set_option maxRecDepth 100000 in
theorem F_81_R {N : Nat} {t : Nat} {x_1 : Int32} {x_2 : Int32} {x_3 : Int32} {σ : st_S} {p : st_S} (H : F_81 N t x_1 x_2 x_3 σ = some p) : gR p = gR σ := by
  unfold F_81 at H
  obtain ⟨_, H⟩ := F_gd H
  obtain ⟨_, H⟩ := F_gd H
  obtain ⟨_, H⟩ := F_gd H
  obtain ⟨_, H⟩ := F_gd H
  obtain ⟨_, H⟩ := F_gd H
  obtain ⟨_, H⟩ := F_gd H
  obtain ⟨_, H⟩ := F_gd H
  obtain ⟨p_8, G_8, H⟩ := F_bd H
  obtain rfl := Option.some.inj H
  exact ((F_79_R G_8).trans rfl)
set_option maxHeartbeats 4000000 in
set_option maxRecDepth 100000 in
theorem F_81_ok {N d : Nat} {t : Nat} (ht : t = 4 ∨ t = 20) {x_1 : Int32} {x_2 : Int32} {x_3 : Int32} {σ : st_S} {p : st_S} (hr_46_2 : gR σ 46 2 = t) (hr_46_3 : gR σ 46 3 = (t + 1)) (H : F_81 N t x_1 x_2 x_3 σ = some p) : vz_ev P0 (d + 2) 81 0 (lv_args 0 [.ref 46, .int x_1, .int x_2, .int x_3]) [] (hp σ) (.inl none, hp p) := by
  unfold F_81 at H
  rcases ht with rfl | rfl
  · refine ev_x (i := .aload_n 0) (len := 1) (p' := 1) (s' := [.ref 46]) rfl rfl rfl ?_
    refine ev_gr (p' := 4) (v := 4) rfl rfl rfl ly_46 rfl rfl hr_46_2 ?_
    refine ev_gi (p' := 7) (v := (gI σ 4 7)) rfl rfl rfl ly_4 rfl rfl rfl ?_
    refine ev_x (i := .istore 4) (len := 2) (p' := 9) (s' := []) (l' := [(4, .int (gI σ 4 7)), (0, .ref 46), (1, .int x_1), (2, .int x_2), (3, .int x_3)]) rfl rfl rfl ?_
    refine ev_x (i := .aload_n 0) (len := 1) (p' := 10) (s' := [.ref 46]) rfl rfl rfl ?_
    refine ev_gr (p' := 13) (v := 4) rfl rfl rfl ly_46 rfl rfl hr_46_2 ?_
    refine ev_gc (p' := 16) (v := 14) rfl rfl rfl ly_4 rfl rfl ?_
    refine ev_x (i := .iload 4) (len := 2) (p' := 18) (s' := [.int (gI σ 4 7), .ref 14]) rfl rfl rfl ?_
    refine ev_x (i := .iload_n 1) (len := 1) (p' := 19) (s' := [.int x_1, .int (gI σ 4 7), .ref 14]) rfl rfl rfl ?_
    obtain ⟨b_1, H⟩ := F_gd H
    refine ev_pa (j := ((gI σ 4 7) : Int32).toNatClampNeg) (p' := 20) rfl rfl ly_14 rfl (gd_in b_1) rfl ?_
    refine ev_x (i := .aload_n 0) (len := 1) (p' := 21) (s' := [.ref 46]) rfl rfl rfl ?_
    refine ev_gr (p' := 24) (v := 4) rfl rfl rfl ly_46 rfl rfl hr_46_2 ?_
    refine ev_gc (p' := 27) (v := 15) rfl rfl rfl ly_4 rfl rfl ?_
    refine ev_x (i := .iload 4) (len := 2) (p' := 29) (s' := [.int (gI σ 4 7), .ref 15]) rfl rfl rfl ?_
    refine ev_x (i := .iload_n 2) (len := 1) (p' := 30) (s' := [.int x_2, .int (gI σ 4 7), .ref 15]) rfl rfl rfl ?_
    obtain ⟨b_2, H⟩ := F_gd H
    refine ev_pa (j := ((gI σ 4 7) : Int32).toNatClampNeg) (p' := 31) rfl rfl ly_15 rfl (gd_in b_2) rfl ?_
    refine ev_x (i := .aload_n 0) (len := 1) (p' := 32) (s' := [.ref 46]) rfl rfl rfl ?_
    refine ev_gr (p' := 35) (v := 4) rfl rfl rfl ly_46 rfl rfl hr_46_2 ?_
    refine ev_gc (p' := 38) (v := 16) rfl rfl rfl ly_4 rfl rfl ?_
    refine ev_x (i := .iload 4) (len := 2) (p' := 40) (s' := [.int (gI σ 4 7), .ref 16]) rfl rfl rfl ?_
    refine ev_x (i := .iload_n 3) (len := 1) (p' := 41) (s' := [.int x_3, .int (gI σ 4 7), .ref 16]) rfl rfl rfl ?_
    obtain ⟨b_3, H⟩ := F_gd H
    refine ev_pa (j := ((gI σ 4 7) : Int32).toNatClampNeg) (p' := 42) rfl rfl ly_16 rfl (gd_in b_3) rfl ?_
    refine ev_x (i := .aload_n 0) (len := 1) (p' := 43) (s' := [.ref 46]) rfl rfl rfl ?_
    refine ev_gr (p' := 46) (v := 4) rfl rfl rfl ly_46 rfl rfl hr_46_2 ?_
    refine ev_gc (p' := 49) (v := 17) rfl rfl rfl ly_4 rfl rfl ?_
    refine ev_x (i := .iload 4) (len := 2) (p' := 51) (s' := [.int (gI σ 4 7), .ref 17]) rfl rfl rfl ?_
    refine ev_x (i := .aload_n 0) (len := 1) (p' := 52) (s' := [.ref 46, .int (gI σ 4 7), .ref 17]) rfl rfl rfl ?_
    refine ev_gr (p' := 55) (v := 5) rfl rfl rfl ly_46 rfl rfl hr_46_3 ?_
    refine ev_gc (p' := 58) (v := 10) rfl rfl rfl ly_5 rfl rfl ?_
    refine ev_x (i := .aload_n 0) (len := 1) (p' := 59) (s' := [.ref 46, .ref 10, .int (gI σ 4 7), .ref 17]) rfl rfl rfl ?_
    refine ev_gi (p' := 62) (v := (gI σ 46 5)) rfl rfl rfl ly_46 rfl rfl rfl ?_
    obtain ⟨b_4, H⟩ := F_gd H
    refine ev_ga (p' := 63) (v := (gE (σ) 10 ((gI σ 46 5) : Int32).toNatClampNeg)) rfl rfl ly_10 rfl (gd_in b_4) rfl ?_
    obtain ⟨b_5, H⟩ := F_gd H
    refine ev_pa (j := ((gI σ 4 7) : Int32).toNatClampNeg) (p' := 64) rfl rfl ly_17 rfl (gd_in b_5) rfl ?_
    refine ev_x (i := .aload_n 0) (len := 1) (p' := 65) (s' := [.ref 46]) rfl rfl rfl ?_
    refine ev_gr (p' := 68) (v := 4) rfl rfl rfl ly_46 rfl rfl hr_46_2 ?_
    refine ev_x (i := .dup) (len := 1) (p' := 69) (s' := [.ref 4, .ref 4]) rfl rfl rfl ?_
    refine ev_gi (p' := 72) (v := (gI σ 4 7)) rfl rfl rfl ly_4 rfl rfl rfl ?_
    refine ev_x (i := .iconst 1) (len := 1) (p' := 73) (s' := [.int 1, .int (gI σ 4 7), .ref 4]) rfl rfl rfl ?_
    refine ev_x (i := .iadd) (len := 1) (p' := 74) (s' := [.int ((gI σ 4 7) + 1), .ref 4]) rfl rfl rfl ?_
    refine ev_pi (p' := 77) rfl rfl rfl ly_4 rfl rfl rfl rfl ?_
    refine ev_x (i := .aload_n 0) (len := 1) (p' := 78) (s' := [.ref 46]) rfl rfl rfl ?_
    refine ev_gc (p' := 81) (v := 47) rfl rfl rfl ly_46 rfl rfl ?_
    refine ev_x (i := .aload_n 0) (len := 1) (p' := 82) (s' := [.ref 46, .ref 47]) rfl rfl rfl ?_
    refine ev_gr (p' := 85) (v := 5) rfl rfl rfl ly_46 rfl rfl hr_46_3 ?_
    refine ev_gc (p' := 88) (v := 8) rfl rfl rfl ly_5 rfl rfl ?_
    refine ev_x (i := .aload_n 0) (len := 1) (p' := 89) (s' := [.ref 46, .ref 8, .ref 47]) rfl rfl rfl ?_
    refine ev_gi (p' := 92) (v := (gI σ 46 5)) rfl rfl rfl ly_46 rfl rfl rfl ?_
    obtain ⟨b_6, H⟩ := F_gd H
    refine ev_ga (p' := 93) (v := (gE (σ) 8 ((gI σ 46 5) : Int32).toNatClampNeg)) rfl rfl ly_8 rfl (gd_in b_6) rfl ?_
    refine ev_x (i := .aload_n 0) (len := 1) (p' := 94) (s' := [.ref 46, .int (gE (σ) 8 ((gI σ 46 5) : Int32).toNatClampNeg), .ref 47]) rfl rfl rfl ?_
    refine ev_gr (p' := 97) (v := 5) rfl rfl rfl ly_46 rfl rfl hr_46_3 ?_
    refine ev_gc (p' := 100) (v := 9) rfl rfl rfl ly_5 rfl rfl ?_
    refine ev_x (i := .aload_n 0) (len := 1) (p' := 101) (s' := [.ref 46, .ref 9, .int (gE (σ) 8 ((gI σ 46 5) : Int32).toNatClampNeg), .ref 47]) rfl rfl rfl ?_
    refine ev_gi (p' := 104) (v := (gI σ 46 5)) rfl rfl rfl ly_46 rfl rfl rfl ?_
    obtain ⟨b_7, H⟩ := F_gd H
    refine ev_ga (p' := 105) (v := (gE (σ) 9 ((gI σ 46 5) : Int32).toNatClampNeg)) rfl rfl ly_9 rfl (gd_in b_7) rfl ?_
    refine ev_x (i := .bipush 29) (len := 2) (p' := 107) (s' := [.int 29, .int (gE (σ) 9 ((gI σ 46 5) : Int32).toNatClampNeg), .int (gE (σ) 8 ((gI σ 46 5) : Int32).toNatClampNeg), .ref 47]) rfl rfl rfl ?_
    refine ev_x (i := .iload 4) (len := 2) (p' := 109) (s' := [.int (gI σ 4 7), .int 29, .int (gE (σ) 9 ((gI σ 46 5) : Int32).toNatClampNeg), .int (gE (σ) 8 ((gI σ 46 5) : Int32).toNatClampNeg), .ref 47]) rfl rfl rfl ?_
    obtain ⟨p_8, G_8, H⟩ := F_bd H
    refine ev_cv (d := d + 1) (As := [.int (gE (σ) 8 ((gI σ 46 5) : Int32).toNatClampNeg), .int (gE (σ) 9 ((gI σ 46 5) : Int32).toNatClampNeg), .int 29, .int (gI σ 4 7)]) (a := 47) (p' := 112) rfl rfl rfl ly_47 rfl rfl rfl rfl rfl rfl rfl (F_79_ok (d := d + 0)   G_8) ?_
    refine ev_st (st' := []) rfl ?_
    have e_8 := F_79_R G_8
    obtain rfl := Option.some.inj H
    exact ev_vret rfl rfl rfl
  · refine ev_x (i := .aload_n 0) (len := 1) (p' := 1) (s' := [.ref 46]) rfl rfl rfl ?_
    refine ev_gr (p' := 4) (v := 20) rfl rfl rfl ly_46 rfl rfl hr_46_2 ?_
    refine ev_gi (p' := 7) (v := (gI σ 20 7)) rfl rfl rfl ly_20 rfl rfl rfl ?_
    refine ev_x (i := .istore 4) (len := 2) (p' := 9) (s' := []) (l' := [(4, .int (gI σ 20 7)), (0, .ref 46), (1, .int x_1), (2, .int x_2), (3, .int x_3)]) rfl rfl rfl ?_
    refine ev_x (i := .aload_n 0) (len := 1) (p' := 10) (s' := [.ref 46]) rfl rfl rfl ?_
    refine ev_gr (p' := 13) (v := 20) rfl rfl rfl ly_46 rfl rfl hr_46_2 ?_
    refine ev_gc (p' := 16) (v := 30) rfl rfl rfl ly_20 rfl rfl ?_
    refine ev_x (i := .iload 4) (len := 2) (p' := 18) (s' := [.int (gI σ 20 7), .ref 30]) rfl rfl rfl ?_
    refine ev_x (i := .iload_n 1) (len := 1) (p' := 19) (s' := [.int x_1, .int (gI σ 20 7), .ref 30]) rfl rfl rfl ?_
    obtain ⟨b_1, H⟩ := F_gd H
    refine ev_pa (j := ((gI σ 20 7) : Int32).toNatClampNeg) (p' := 20) rfl rfl ly_30 rfl (gd_in b_1) rfl ?_
    refine ev_x (i := .aload_n 0) (len := 1) (p' := 21) (s' := [.ref 46]) rfl rfl rfl ?_
    refine ev_gr (p' := 24) (v := 20) rfl rfl rfl ly_46 rfl rfl hr_46_2 ?_
    refine ev_gc (p' := 27) (v := 31) rfl rfl rfl ly_20 rfl rfl ?_
    refine ev_x (i := .iload 4) (len := 2) (p' := 29) (s' := [.int (gI σ 20 7), .ref 31]) rfl rfl rfl ?_
    refine ev_x (i := .iload_n 2) (len := 1) (p' := 30) (s' := [.int x_2, .int (gI σ 20 7), .ref 31]) rfl rfl rfl ?_
    obtain ⟨b_2, H⟩ := F_gd H
    refine ev_pa (j := ((gI σ 20 7) : Int32).toNatClampNeg) (p' := 31) rfl rfl ly_31 rfl (gd_in b_2) rfl ?_
    refine ev_x (i := .aload_n 0) (len := 1) (p' := 32) (s' := [.ref 46]) rfl rfl rfl ?_
    refine ev_gr (p' := 35) (v := 20) rfl rfl rfl ly_46 rfl rfl hr_46_2 ?_
    refine ev_gc (p' := 38) (v := 32) rfl rfl rfl ly_20 rfl rfl ?_
    refine ev_x (i := .iload 4) (len := 2) (p' := 40) (s' := [.int (gI σ 20 7), .ref 32]) rfl rfl rfl ?_
    refine ev_x (i := .iload_n 3) (len := 1) (p' := 41) (s' := [.int x_3, .int (gI σ 20 7), .ref 32]) rfl rfl rfl ?_
    obtain ⟨b_3, H⟩ := F_gd H
    refine ev_pa (j := ((gI σ 20 7) : Int32).toNatClampNeg) (p' := 42) rfl rfl ly_32 rfl (gd_in b_3) rfl ?_
    refine ev_x (i := .aload_n 0) (len := 1) (p' := 43) (s' := [.ref 46]) rfl rfl rfl ?_
    refine ev_gr (p' := 46) (v := 20) rfl rfl rfl ly_46 rfl rfl hr_46_2 ?_
    refine ev_gc (p' := 49) (v := 33) rfl rfl rfl ly_20 rfl rfl ?_
    refine ev_x (i := .iload 4) (len := 2) (p' := 51) (s' := [.int (gI σ 20 7), .ref 33]) rfl rfl rfl ?_
    refine ev_x (i := .aload_n 0) (len := 1) (p' := 52) (s' := [.ref 46, .int (gI σ 20 7), .ref 33]) rfl rfl rfl ?_
    refine ev_gr (p' := 55) (v := 21) rfl rfl rfl ly_46 rfl rfl hr_46_3 ?_
    refine ev_gc (p' := 58) (v := 26) rfl rfl rfl ly_21 rfl rfl ?_
    refine ev_x (i := .aload_n 0) (len := 1) (p' := 59) (s' := [.ref 46, .ref 26, .int (gI σ 20 7), .ref 33]) rfl rfl rfl ?_
    refine ev_gi (p' := 62) (v := (gI σ 46 5)) rfl rfl rfl ly_46 rfl rfl rfl ?_
    obtain ⟨b_4, H⟩ := F_gd H
    refine ev_ga (p' := 63) (v := (gE (σ) 26 ((gI σ 46 5) : Int32).toNatClampNeg)) rfl rfl ly_26 rfl (gd_in b_4) rfl ?_
    obtain ⟨b_5, H⟩ := F_gd H
    refine ev_pa (j := ((gI σ 20 7) : Int32).toNatClampNeg) (p' := 64) rfl rfl ly_33 rfl (gd_in b_5) rfl ?_
    refine ev_x (i := .aload_n 0) (len := 1) (p' := 65) (s' := [.ref 46]) rfl rfl rfl ?_
    refine ev_gr (p' := 68) (v := 20) rfl rfl rfl ly_46 rfl rfl hr_46_2 ?_
    refine ev_x (i := .dup) (len := 1) (p' := 69) (s' := [.ref 20, .ref 20]) rfl rfl rfl ?_
    refine ev_gi (p' := 72) (v := (gI σ 20 7)) rfl rfl rfl ly_20 rfl rfl rfl ?_
    refine ev_x (i := .iconst 1) (len := 1) (p' := 73) (s' := [.int 1, .int (gI σ 20 7), .ref 20]) rfl rfl rfl ?_
    refine ev_x (i := .iadd) (len := 1) (p' := 74) (s' := [.int ((gI σ 20 7) + 1), .ref 20]) rfl rfl rfl ?_
    refine ev_pi (p' := 77) rfl rfl rfl ly_20 rfl rfl rfl rfl ?_
    refine ev_x (i := .aload_n 0) (len := 1) (p' := 78) (s' := [.ref 46]) rfl rfl rfl ?_
    refine ev_gc (p' := 81) (v := 47) rfl rfl rfl ly_46 rfl rfl ?_
    refine ev_x (i := .aload_n 0) (len := 1) (p' := 82) (s' := [.ref 46, .ref 47]) rfl rfl rfl ?_
    refine ev_gr (p' := 85) (v := 21) rfl rfl rfl ly_46 rfl rfl hr_46_3 ?_
    refine ev_gc (p' := 88) (v := 24) rfl rfl rfl ly_21 rfl rfl ?_
    refine ev_x (i := .aload_n 0) (len := 1) (p' := 89) (s' := [.ref 46, .ref 24, .ref 47]) rfl rfl rfl ?_
    refine ev_gi (p' := 92) (v := (gI σ 46 5)) rfl rfl rfl ly_46 rfl rfl rfl ?_
    obtain ⟨b_6, H⟩ := F_gd H
    refine ev_ga (p' := 93) (v := (gE (σ) 24 ((gI σ 46 5) : Int32).toNatClampNeg)) rfl rfl ly_24 rfl (gd_in b_6) rfl ?_
    refine ev_x (i := .aload_n 0) (len := 1) (p' := 94) (s' := [.ref 46, .int (gE (σ) 24 ((gI σ 46 5) : Int32).toNatClampNeg), .ref 47]) rfl rfl rfl ?_
    refine ev_gr (p' := 97) (v := 21) rfl rfl rfl ly_46 rfl rfl hr_46_3 ?_
    refine ev_gc (p' := 100) (v := 25) rfl rfl rfl ly_21 rfl rfl ?_
    refine ev_x (i := .aload_n 0) (len := 1) (p' := 101) (s' := [.ref 46, .ref 25, .int (gE (σ) 24 ((gI σ 46 5) : Int32).toNatClampNeg), .ref 47]) rfl rfl rfl ?_
    refine ev_gi (p' := 104) (v := (gI σ 46 5)) rfl rfl rfl ly_46 rfl rfl rfl ?_
    obtain ⟨b_7, H⟩ := F_gd H
    refine ev_ga (p' := 105) (v := (gE (σ) 25 ((gI σ 46 5) : Int32).toNatClampNeg)) rfl rfl ly_25 rfl (gd_in b_7) rfl ?_
    refine ev_x (i := .bipush 29) (len := 2) (p' := 107) (s' := [.int 29, .int (gE (σ) 25 ((gI σ 46 5) : Int32).toNatClampNeg), .int (gE (σ) 24 ((gI σ 46 5) : Int32).toNatClampNeg), .ref 47]) rfl rfl rfl ?_
    refine ev_x (i := .iload 4) (len := 2) (p' := 109) (s' := [.int (gI σ 20 7), .int 29, .int (gE (σ) 25 ((gI σ 46 5) : Int32).toNatClampNeg), .int (gE (σ) 24 ((gI σ 46 5) : Int32).toNatClampNeg), .ref 47]) rfl rfl rfl ?_
    obtain ⟨p_8, G_8, H⟩ := F_bd H
    refine ev_cv (d := d + 1) (As := [.int (gE (σ) 24 ((gI σ 46 5) : Int32).toNatClampNeg), .int (gE (σ) 25 ((gI σ 46 5) : Int32).toNatClampNeg), .int 29, .int (gI σ 20 7)]) (a := 47) (p' := 112) rfl rfl rfl ly_47 rfl rfl rfl rfl rfl rfl rfl (F_79_ok (d := d + 0)   G_8) ?_
    refine ev_st (st' := []) rfl ?_
    have e_8 := F_79_R G_8
    obtain rfl := Option.some.inj H
    exact ev_vret rfl rfl rfl
/-- GameText$Checker.finishesBool()I -/
def F_80 (N : Nat) (t : Nat) (σ : st_S) : Option (Int32 × st_S) :=
  if 0 ≤ (gI σ 46 9) then
    (F_69 N t (gI σ 46 9) (σ)).bind fun p_2 =>
    if p_2.1 = 0 then
      if 0 ≤ (gI p_2.2 46 9) then
        if aB (gI p_2.2 46 9) (gN p_2.2 (t + 4)) then
        if aB (gE (p_2.2) (t + 4) ((gI p_2.2 46 9) : Int32).toNatClampNeg) (gN p_2.2 (t + 8)) then
        (F_81 N t 0 1 (gE (p_2.2) (t + 8) ((gE (p_2.2) (t + 4) ((gI p_2.2 46 9) : Int32).toNatClampNeg) : Int32).toNatClampNeg) (p_2.2)).bind fun p_7 =>
        some (p_2.1, p_7)
        else none
        else none
      else
        (F_81 N t 0 1 0 (p_2.2)).bind fun p_8 =>
        some (p_2.1, p_8)
    else
      some (p_2.1, p_2.2)
  else
      (F_81 N t 0 1 0 (σ)).bind fun p_9 =>
      some (0, p_9)
set_option maxRecDepth 100000 in
theorem F_80_R {N : Nat} {t : Nat} {σ : st_S} {p : Int32 × st_S} (H : F_80 N t σ = some p) : gR p.2 = gR σ := by
  unfold F_80 at H
  refine F_if H (fun _ H => ?_) (fun _ H => ?_)
  · obtain ⟨p_2, G_2, H⟩ := F_bd H
    refine F_if H (fun _ H => ?_) (fun _ H => ?_)
    · refine F_if H (fun _ H => ?_) (fun _ H => ?_)
      · obtain ⟨_, H⟩ := F_gd H
        obtain ⟨_, H⟩ := F_gd H
        obtain ⟨p_7, G_7, H⟩ := F_bd H
        obtain rfl := Option.some.inj H
        exact ((F_81_R G_7).trans ((F_69_R G_2).trans rfl))
      · obtain ⟨p_8, G_8, H⟩ := F_bd H
        obtain rfl := Option.some.inj H
        exact ((F_81_R G_8).trans ((F_69_R G_2).trans rfl))
    · obtain rfl := Option.some.inj H
      exact ((F_69_R G_2).trans rfl)
  · obtain ⟨p_9, G_9, H⟩ := F_bd H
    obtain rfl := Option.some.inj H
    exact ((F_81_R G_9).trans rfl)
set_option maxHeartbeats 4000000 in
set_option maxRecDepth 100000 in
theorem F_80_ok {N d : Nat} {t : Nat} (ht : t = 4 ∨ t = 20) {σ : st_S} {p : Int32 × st_S} (hr_42_3 : gR σ 42 3 = t) (hr_42_4 : gR σ 42 4 = (t + 1)) (hr_46_2 : gR σ 46 2 = t) (hr_46_3 : gR σ 46 3 = (t + 1)) (H : F_80 N t σ = some p) : vz_ev P0 (d + 5) 80 0 (lv_args 0 [.ref 46]) [] (hp σ) (.inl (some (.int p.1)), hp p.2) := by
  unfold F_80 at H
  rcases ht with rfl | rfl
  · refine ev_x (i := .aload_n 0) (len := 1) (p' := 1) (s' := [.ref 46]) rfl rfl rfl ?_
    refine ev_gi (p' := 4) (v := (gI σ 46 9)) rfl rfl rfl ly_46 rfl rfl rfl ?_
    refine F_if H (fun c_1 H => ?_) (fun c_1 H => ?_)
    · refine ev_b0 (t := 11) (p' := 11) rfl rfl rfl (if_pos c_1) ?_
      refine ev_x (i := .aload_n 0) (len := 1) (p' := 12) (s' := [.ref 46]) rfl rfl rfl ?_
      refine ev_x (i := .aload_n 0) (len := 1) (p' := 13) (s' := [.ref 46, .ref 46]) rfl rfl rfl ?_
      refine ev_gi (p' := 16) (v := (gI σ 46 9)) rfl rfl rfl ly_46 rfl rfl rfl ?_
      obtain ⟨p_2, G_2, H⟩ := F_bd H
      refine ev_cv (d := d + 4) (As := [.int (gI σ 46 9)]) (a := 46) (p' := 19) rfl rfl rfl ly_46 rfl rfl rfl rfl rfl rfl rfl (F_69_ok (d := d + 0) (ht := (Or.inl rfl)) (hr_42_3 := hr_42_3) (hr_42_4 := hr_42_4) G_2) ?_
      refine ev_st (st' := [.int p_2.1]) rfl ?_
      have e_2 := F_69_R G_2
      refine ev_x (i := .istore_n 1) (len := 1) (p' := 20) (s' := []) (l' := [(1, .int p_2.1), (0, .ref 46)]) rfl rfl rfl ?_
      refine ev_x (i := .iload_n 1) (len := 1) (p' := 21) (s' := [.int p_2.1]) rfl rfl rfl ?_
      refine F_if H (fun c_3 H => ?_) (fun c_3 H => ?_)
      · refine ev_b0 (t := 61) (p' := 24) rfl rfl rfl (if_neg (fun q => q c_3)) ?_
        refine ev_x (i := .aload_n 0) (len := 1) (p' := 25) (s' := [.ref 46]) rfl rfl rfl ?_
        refine ev_x (i := .iconst 0) (len := 1) (p' := 26) (s' := [.int 0, .ref 46]) rfl rfl rfl ?_
        refine ev_x (i := .iconst 1) (len := 1) (p' := 27) (s' := [.int 1, .int 0, .ref 46]) rfl rfl rfl ?_
        refine ev_x (i := .aload_n 0) (len := 1) (p' := 28) (s' := [.ref 46, .int 1, .int 0, .ref 46]) rfl rfl rfl ?_
        refine ev_gi (p' := 31) (v := (gI p_2.2 46 9)) rfl rfl rfl ly_46 rfl rfl rfl ?_
        refine F_if H (fun c_4 H => ?_) (fun c_4 H => ?_)
        · refine ev_b0 (t := 38) (p' := 38) rfl rfl rfl (if_pos c_4) ?_
          refine ev_x (i := .aload_n 0) (len := 1) (p' := 39) (s' := [.ref 46, .int 1, .int 0, .ref 46]) rfl rfl rfl ?_
          refine ev_gr (p' := 42) (v := 5) rfl rfl rfl ly_46 rfl rfl ((congrFun (congrFun e_2 46) 3).trans hr_46_3) ?_
          refine ev_gc (p' := 45) (v := 12) rfl rfl rfl ly_5 rfl rfl ?_
          refine ev_x (i := .aload_n 0) (len := 1) (p' := 46) (s' := [.ref 46, .ref 12, .int 1, .int 0, .ref 46]) rfl rfl rfl ?_
          refine ev_gr (p' := 49) (v := 5) rfl rfl rfl ly_46 rfl rfl ((congrFun (congrFun e_2 46) 3).trans hr_46_3) ?_
          refine ev_gc (p' := 52) (v := 8) rfl rfl rfl ly_5 rfl rfl ?_
          refine ev_x (i := .aload_n 0) (len := 1) (p' := 53) (s' := [.ref 46, .ref 8, .ref 12, .int 1, .int 0, .ref 46]) rfl rfl rfl ?_
          refine ev_gi (p' := 56) (v := (gI p_2.2 46 9)) rfl rfl rfl ly_46 rfl rfl rfl ?_
          obtain ⟨b_5, H⟩ := F_gd H
          refine ev_ga (p' := 57) (v := (gE (p_2.2) 8 ((gI p_2.2 46 9) : Int32).toNatClampNeg)) rfl rfl ly_8 rfl (gd_in b_5) rfl ?_
          obtain ⟨b_6, H⟩ := F_gd H
          refine ev_ga (p' := 58) (v := (gE (p_2.2) 12 ((gE (p_2.2) 8 ((gI p_2.2 46 9) : Int32).toNatClampNeg) : Int32).toNatClampNeg)) rfl rfl ly_12 rfl (gd_in b_6) rfl ?_
          obtain ⟨p_7, G_7, H⟩ := F_bd H
          refine ev_cv (d := d + 4) (As := [.int 0, .int 1, .int (gE (p_2.2) 12 ((gE (p_2.2) 8 ((gI p_2.2 46 9) : Int32).toNatClampNeg) : Int32).toNatClampNeg)]) (a := 46) (p' := 61) rfl rfl rfl ly_46 rfl rfl rfl rfl rfl rfl rfl (F_81_ok (d := d + 2) (ht := (Or.inl rfl)) (hr_46_2 := ((congrFun (congrFun e_2 46) 2).trans hr_46_2)) (hr_46_3 := ((congrFun (congrFun e_2 46) 3).trans hr_46_3)) G_7) ?_
          refine ev_st (st' := []) rfl ?_
          have e_7 := F_81_R G_7
          refine ev_x (i := .iload_n 1) (len := 1) (p' := 62) (s' := [.int p_2.1]) rfl rfl rfl ?_
          obtain rfl := Option.some.inj H
          exact ev_iret rfl rfl rfl rfl
        · refine ev_b0 (t := 38) (p' := 34) rfl rfl rfl (if_neg c_4) ?_
          refine ev_x (i := .iconst 0) (len := 1) (p' := 35) (s' := [.int 0, .int 1, .int 0, .ref 46]) rfl rfl rfl ?_
          refine ev_x (i := .goto 23) (len := 3) (p' := 58) (s' := [.int 0, .int 1, .int 0, .ref 46]) rfl rfl rfl ?_
          obtain ⟨p_8, G_8, H⟩ := F_bd H
          refine ev_cv (d := d + 4) (As := [.int 0, .int 1, .int 0]) (a := 46) (p' := 61) rfl rfl rfl ly_46 rfl rfl rfl rfl rfl rfl rfl (F_81_ok (d := d + 2) (ht := (Or.inl rfl)) (hr_46_2 := ((congrFun (congrFun e_2 46) 2).trans hr_46_2)) (hr_46_3 := ((congrFun (congrFun e_2 46) 3).trans hr_46_3)) G_8) ?_
          refine ev_st (st' := []) rfl ?_
          have e_8 := F_81_R G_8
          refine ev_x (i := .iload_n 1) (len := 1) (p' := 62) (s' := [.int p_2.1]) rfl rfl rfl ?_
          obtain rfl := Option.some.inj H
          exact ev_iret rfl rfl rfl rfl
      · refine ev_b0 (t := 61) (p' := 61) rfl rfl rfl (if_pos c_3) ?_
        refine ev_x (i := .iload_n 1) (len := 1) (p' := 62) (s' := [.int p_2.1]) rfl rfl rfl ?_
        obtain rfl := Option.some.inj H
        exact ev_iret rfl rfl rfl rfl
    · refine ev_b0 (t := 11) (p' := 7) rfl rfl rfl (if_neg c_1) ?_
      refine ev_x (i := .iconst 0) (len := 1) (p' := 8) (s' := [.int 0]) rfl rfl rfl ?_
      refine ev_x (i := .goto 11) (len := 3) (p' := 19) (s' := [.int 0]) rfl rfl rfl ?_
      refine ev_x (i := .istore_n 1) (len := 1) (p' := 20) (s' := []) (l' := [(1, .int 0), (0, .ref 46)]) rfl rfl rfl ?_
      refine ev_x (i := .iload_n 1) (len := 1) (p' := 21) (s' := [.int 0]) rfl rfl rfl ?_
      refine ev_b0 (t := 61) (p' := 24) rfl rfl rfl (by decide) ?_
      refine ev_x (i := .aload_n 0) (len := 1) (p' := 25) (s' := [.ref 46]) rfl rfl rfl ?_
      refine ev_x (i := .iconst 0) (len := 1) (p' := 26) (s' := [.int 0, .ref 46]) rfl rfl rfl ?_
      refine ev_x (i := .iconst 1) (len := 1) (p' := 27) (s' := [.int 1, .int 0, .ref 46]) rfl rfl rfl ?_
      refine ev_x (i := .aload_n 0) (len := 1) (p' := 28) (s' := [.ref 46, .int 1, .int 0, .ref 46]) rfl rfl rfl ?_
      refine ev_gi (p' := 31) (v := (gI σ 46 9)) rfl rfl rfl ly_46 rfl rfl rfl ?_
      refine ev_b0 (t := 38) (p' := 34) rfl rfl rfl (if_neg c_1) ?_
      refine ev_x (i := .iconst 0) (len := 1) (p' := 35) (s' := [.int 0, .int 1, .int 0, .ref 46]) rfl rfl rfl ?_
      refine ev_x (i := .goto 23) (len := 3) (p' := 58) (s' := [.int 0, .int 1, .int 0, .ref 46]) rfl rfl rfl ?_
      obtain ⟨p_9, G_9, H⟩ := F_bd H
      refine ev_cv (d := d + 4) (As := [.int 0, .int 1, .int 0]) (a := 46) (p' := 61) rfl rfl rfl ly_46 rfl rfl rfl rfl rfl rfl rfl (F_81_ok (d := d + 2) (ht := (Or.inl rfl)) (hr_46_2 := hr_46_2) (hr_46_3 := hr_46_3) G_9) ?_
      refine ev_st (st' := []) rfl ?_
      have e_9 := F_81_R G_9
      refine ev_x (i := .iload_n 1) (len := 1) (p' := 62) (s' := [.int 0]) rfl rfl rfl ?_
      obtain rfl := Option.some.inj H
      exact ev_iret rfl rfl rfl rfl
  · refine ev_x (i := .aload_n 0) (len := 1) (p' := 1) (s' := [.ref 46]) rfl rfl rfl ?_
    refine ev_gi (p' := 4) (v := (gI σ 46 9)) rfl rfl rfl ly_46 rfl rfl rfl ?_
    refine F_if H (fun c_1 H => ?_) (fun c_1 H => ?_)
    · refine ev_b0 (t := 11) (p' := 11) rfl rfl rfl (if_pos c_1) ?_
      refine ev_x (i := .aload_n 0) (len := 1) (p' := 12) (s' := [.ref 46]) rfl rfl rfl ?_
      refine ev_x (i := .aload_n 0) (len := 1) (p' := 13) (s' := [.ref 46, .ref 46]) rfl rfl rfl ?_
      refine ev_gi (p' := 16) (v := (gI σ 46 9)) rfl rfl rfl ly_46 rfl rfl rfl ?_
      obtain ⟨p_2, G_2, H⟩ := F_bd H
      refine ev_cv (d := d + 4) (As := [.int (gI σ 46 9)]) (a := 46) (p' := 19) rfl rfl rfl ly_46 rfl rfl rfl rfl rfl rfl rfl (F_69_ok (d := d + 0) (ht := (Or.inr rfl)) (hr_42_3 := hr_42_3) (hr_42_4 := hr_42_4) G_2) ?_
      refine ev_st (st' := [.int p_2.1]) rfl ?_
      have e_2 := F_69_R G_2
      refine ev_x (i := .istore_n 1) (len := 1) (p' := 20) (s' := []) (l' := [(1, .int p_2.1), (0, .ref 46)]) rfl rfl rfl ?_
      refine ev_x (i := .iload_n 1) (len := 1) (p' := 21) (s' := [.int p_2.1]) rfl rfl rfl ?_
      refine F_if H (fun c_3 H => ?_) (fun c_3 H => ?_)
      · refine ev_b0 (t := 61) (p' := 24) rfl rfl rfl (if_neg (fun q => q c_3)) ?_
        refine ev_x (i := .aload_n 0) (len := 1) (p' := 25) (s' := [.ref 46]) rfl rfl rfl ?_
        refine ev_x (i := .iconst 0) (len := 1) (p' := 26) (s' := [.int 0, .ref 46]) rfl rfl rfl ?_
        refine ev_x (i := .iconst 1) (len := 1) (p' := 27) (s' := [.int 1, .int 0, .ref 46]) rfl rfl rfl ?_
        refine ev_x (i := .aload_n 0) (len := 1) (p' := 28) (s' := [.ref 46, .int 1, .int 0, .ref 46]) rfl rfl rfl ?_
        refine ev_gi (p' := 31) (v := (gI p_2.2 46 9)) rfl rfl rfl ly_46 rfl rfl rfl ?_
        refine F_if H (fun c_4 H => ?_) (fun c_4 H => ?_)
        · refine ev_b0 (t := 38) (p' := 38) rfl rfl rfl (if_pos c_4) ?_
          refine ev_x (i := .aload_n 0) (len := 1) (p' := 39) (s' := [.ref 46, .int 1, .int 0, .ref 46]) rfl rfl rfl ?_
          refine ev_gr (p' := 42) (v := 21) rfl rfl rfl ly_46 rfl rfl ((congrFun (congrFun e_2 46) 3).trans hr_46_3) ?_
          refine ev_gc (p' := 45) (v := 28) rfl rfl rfl ly_21 rfl rfl ?_
          refine ev_x (i := .aload_n 0) (len := 1) (p' := 46) (s' := [.ref 46, .ref 28, .int 1, .int 0, .ref 46]) rfl rfl rfl ?_
          refine ev_gr (p' := 49) (v := 21) rfl rfl rfl ly_46 rfl rfl ((congrFun (congrFun e_2 46) 3).trans hr_46_3) ?_
          refine ev_gc (p' := 52) (v := 24) rfl rfl rfl ly_21 rfl rfl ?_
          refine ev_x (i := .aload_n 0) (len := 1) (p' := 53) (s' := [.ref 46, .ref 24, .ref 28, .int 1, .int 0, .ref 46]) rfl rfl rfl ?_
          refine ev_gi (p' := 56) (v := (gI p_2.2 46 9)) rfl rfl rfl ly_46 rfl rfl rfl ?_
          obtain ⟨b_5, H⟩ := F_gd H
          refine ev_ga (p' := 57) (v := (gE (p_2.2) 24 ((gI p_2.2 46 9) : Int32).toNatClampNeg)) rfl rfl ly_24 rfl (gd_in b_5) rfl ?_
          obtain ⟨b_6, H⟩ := F_gd H
          refine ev_ga (p' := 58) (v := (gE (p_2.2) 28 ((gE (p_2.2) 24 ((gI p_2.2 46 9) : Int32).toNatClampNeg) : Int32).toNatClampNeg)) rfl rfl ly_28 rfl (gd_in b_6) rfl ?_
          obtain ⟨p_7, G_7, H⟩ := F_bd H
          refine ev_cv (d := d + 4) (As := [.int 0, .int 1, .int (gE (p_2.2) 28 ((gE (p_2.2) 24 ((gI p_2.2 46 9) : Int32).toNatClampNeg) : Int32).toNatClampNeg)]) (a := 46) (p' := 61) rfl rfl rfl ly_46 rfl rfl rfl rfl rfl rfl rfl (F_81_ok (d := d + 2) (ht := (Or.inr rfl)) (hr_46_2 := ((congrFun (congrFun e_2 46) 2).trans hr_46_2)) (hr_46_3 := ((congrFun (congrFun e_2 46) 3).trans hr_46_3)) G_7) ?_
          refine ev_st (st' := []) rfl ?_
          have e_7 := F_81_R G_7
          refine ev_x (i := .iload_n 1) (len := 1) (p' := 62) (s' := [.int p_2.1]) rfl rfl rfl ?_
          obtain rfl := Option.some.inj H
          exact ev_iret rfl rfl rfl rfl
        · refine ev_b0 (t := 38) (p' := 34) rfl rfl rfl (if_neg c_4) ?_
          refine ev_x (i := .iconst 0) (len := 1) (p' := 35) (s' := [.int 0, .int 1, .int 0, .ref 46]) rfl rfl rfl ?_
          refine ev_x (i := .goto 23) (len := 3) (p' := 58) (s' := [.int 0, .int 1, .int 0, .ref 46]) rfl rfl rfl ?_
          obtain ⟨p_8, G_8, H⟩ := F_bd H
          refine ev_cv (d := d + 4) (As := [.int 0, .int 1, .int 0]) (a := 46) (p' := 61) rfl rfl rfl ly_46 rfl rfl rfl rfl rfl rfl rfl (F_81_ok (d := d + 2) (ht := (Or.inr rfl)) (hr_46_2 := ((congrFun (congrFun e_2 46) 2).trans hr_46_2)) (hr_46_3 := ((congrFun (congrFun e_2 46) 3).trans hr_46_3)) G_8) ?_
          refine ev_st (st' := []) rfl ?_
          have e_8 := F_81_R G_8
          refine ev_x (i := .iload_n 1) (len := 1) (p' := 62) (s' := [.int p_2.1]) rfl rfl rfl ?_
          obtain rfl := Option.some.inj H
          exact ev_iret rfl rfl rfl rfl
      · refine ev_b0 (t := 61) (p' := 61) rfl rfl rfl (if_pos c_3) ?_
        refine ev_x (i := .iload_n 1) (len := 1) (p' := 62) (s' := [.int p_2.1]) rfl rfl rfl ?_
        obtain rfl := Option.some.inj H
        exact ev_iret rfl rfl rfl rfl
    · refine ev_b0 (t := 11) (p' := 7) rfl rfl rfl (if_neg c_1) ?_
      refine ev_x (i := .iconst 0) (len := 1) (p' := 8) (s' := [.int 0]) rfl rfl rfl ?_
      refine ev_x (i := .goto 11) (len := 3) (p' := 19) (s' := [.int 0]) rfl rfl rfl ?_
      refine ev_x (i := .istore_n 1) (len := 1) (p' := 20) (s' := []) (l' := [(1, .int 0), (0, .ref 46)]) rfl rfl rfl ?_
      refine ev_x (i := .iload_n 1) (len := 1) (p' := 21) (s' := [.int 0]) rfl rfl rfl ?_
      refine ev_b0 (t := 61) (p' := 24) rfl rfl rfl (by decide) ?_
      refine ev_x (i := .aload_n 0) (len := 1) (p' := 25) (s' := [.ref 46]) rfl rfl rfl ?_
      refine ev_x (i := .iconst 0) (len := 1) (p' := 26) (s' := [.int 0, .ref 46]) rfl rfl rfl ?_
      refine ev_x (i := .iconst 1) (len := 1) (p' := 27) (s' := [.int 1, .int 0, .ref 46]) rfl rfl rfl ?_
      refine ev_x (i := .aload_n 0) (len := 1) (p' := 28) (s' := [.ref 46, .int 1, .int 0, .ref 46]) rfl rfl rfl ?_
      refine ev_gi (p' := 31) (v := (gI σ 46 9)) rfl rfl rfl ly_46 rfl rfl rfl ?_
      refine ev_b0 (t := 38) (p' := 34) rfl rfl rfl (if_neg c_1) ?_
      refine ev_x (i := .iconst 0) (len := 1) (p' := 35) (s' := [.int 0, .int 1, .int 0, .ref 46]) rfl rfl rfl ?_
      refine ev_x (i := .goto 23) (len := 3) (p' := 58) (s' := [.int 0, .int 1, .int 0, .ref 46]) rfl rfl rfl ?_
      obtain ⟨p_9, G_9, H⟩ := F_bd H
      refine ev_cv (d := d + 4) (As := [.int 0, .int 1, .int 0]) (a := 46) (p' := 61) rfl rfl rfl ly_46 rfl rfl rfl rfl rfl rfl rfl (F_81_ok (d := d + 2) (ht := (Or.inr rfl)) (hr_46_2 := hr_46_2) (hr_46_3 := hr_46_3) G_9) ?_
      refine ev_st (st' := []) rfl ?_
      have e_9 := F_81_R G_9
      refine ev_x (i := .iload_n 1) (len := 1) (p' := 62) (s' := [.int 0]) rfl rfl rfl ?_
      obtain rfl := Option.some.inj H
      exact ev_iret rfl rfl rfl rfl
/-- GameText$Checker.worksOutWhole(I)I -/
def F_83 (N : Nat) (t : Nat) (x_1 : Int32) (σ : st_S) : Option (Int32 × st_S) :=
  (F_70 N t x_1 (σ)).bind fun p_1 =>
  if p_1.1 = 0 then
    if aB x_1 (gN p_1.2 (t + 4)) then
    if aB (gE (p_1.2) (t + 4) (x_1 : Int32).toNatClampNeg) (gN p_1.2 (t + 9)) then
    if (gE (p_1.2) (t + 9) ((gE (p_1.2) (t + 4) (x_1 : Int32).toNatClampNeg) : Int32).toNatClampNeg) = 1 then
      some (0, p_1.2)
    else
      if aB x_1 (gN p_1.2 (t + 3)) then
      (F_61 N 8 (gE (p_1.2) (t + 3) (x_1 : Int32).toNatClampNeg) (p_1.2)).bind fun p_7 =>
      some (p_7.1, p_7.2)
      else none
    else none
    else none
  else
    (F_61 N p_1.1 (gI p_1.2 42 6) (p_1.2)).bind fun p_8 =>
    some (p_8.1, p_8.2)
set_option maxRecDepth 100000 in
theorem F_83_R {N : Nat} {t : Nat} {x_1 : Int32} {σ : st_S} {p : Int32 × st_S} (H : F_83 N t x_1 σ = some p) : gR p.2 = gR σ := by
  unfold F_83 at H
  obtain ⟨p_1, G_1, H⟩ := F_bd H
  refine F_if H (fun _ H => ?_) (fun _ H => ?_)
  · obtain ⟨_, H⟩ := F_gd H
    obtain ⟨_, H⟩ := F_gd H
    refine F_if H (fun _ H => ?_) (fun _ H => ?_)
    · obtain rfl := Option.some.inj H
      exact ((F_70_R G_1).trans rfl)
    · obtain ⟨_, H⟩ := F_gd H
      obtain ⟨p_7, G_7, H⟩ := F_bd H
      obtain rfl := Option.some.inj H
      exact ((F_61_R G_7).trans ((F_70_R G_1).trans rfl))
  · obtain ⟨p_8, G_8, H⟩ := F_bd H
    obtain rfl := Option.some.inj H
    exact ((F_61_R G_8).trans ((F_70_R G_1).trans rfl))
set_option maxHeartbeats 4000000 in
set_option maxRecDepth 100000 in
theorem F_83_ok {N d : Nat} {t : Nat} (ht : t = 4 ∨ t = 20) {x_1 : Int32} {σ : st_S} {p : Int32 × st_S} (hr_42_3 : gR σ 42 3 = t) (hr_42_4 : gR σ 42 4 = (t + 1)) (hr_46_3 : gR σ 46 3 = (t + 1)) (H : F_83 N t x_1 σ = some p) : vz_ev P0 (d + 4) 83 0 (lv_args 0 [.ref 46, .int x_1]) [] (hp σ) (.inl (some (.int p.1)), hp p.2) := by
  unfold F_83 at H
  rcases ht with rfl | rfl
  · refine ev_x (i := .aload_n 0) (len := 1) (p' := 1) (s' := [.ref 46]) rfl rfl rfl ?_
    refine ev_gc (p' := 4) (v := 42) rfl rfl rfl ly_46 rfl rfl ?_
    refine ev_x (i := .iload_n 1) (len := 1) (p' := 5) (s' := [.int x_1, .ref 42]) rfl rfl rfl ?_
    obtain ⟨p_1, G_1, H⟩ := F_bd H
    refine ev_cv (d := d + 3) (As := [.int x_1]) (a := 42) (p' := 8) rfl rfl rfl ly_42 rfl rfl rfl rfl rfl rfl rfl (F_70_ok (d := d + 0) (ht := (Or.inl rfl)) (hr_42_3 := hr_42_3) (hr_42_4 := hr_42_4) G_1) ?_
    refine ev_st (st' := [.int p_1.1]) rfl ?_
    have e_1 := F_70_R G_1
    refine ev_x (i := .istore_n 2) (len := 1) (p' := 9) (s' := []) (l' := [(2, .int p_1.1), (0, .ref 46), (1, .int x_1)]) rfl rfl rfl ?_
    refine ev_x (i := .iload_n 2) (len := 1) (p' := 10) (s' := [.int p_1.1]) rfl rfl rfl ?_
    refine F_if H (fun c_2 H => ?_) (fun c_2 H => ?_)
    · refine ev_b0 (t := 26) (p' := 26) rfl rfl rfl (if_pos c_2) ?_
      refine ev_x (i := .aload_n 0) (len := 1) (p' := 27) (s' := [.ref 46]) rfl rfl rfl ?_
      refine ev_gr (p' := 30) (v := 5) rfl rfl rfl ly_46 rfl rfl ((congrFun (congrFun e_1 46) 3).trans hr_46_3) ?_
      refine ev_gc (p' := 33) (v := 13) rfl rfl rfl ly_5 rfl rfl ?_
      refine ev_x (i := .aload_n 0) (len := 1) (p' := 34) (s' := [.ref 46, .ref 13]) rfl rfl rfl ?_
      refine ev_gr (p' := 37) (v := 5) rfl rfl rfl ly_46 rfl rfl ((congrFun (congrFun e_1 46) 3).trans hr_46_3) ?_
      refine ev_gc (p' := 40) (v := 8) rfl rfl rfl ly_5 rfl rfl ?_
      refine ev_x (i := .iload_n 1) (len := 1) (p' := 41) (s' := [.int x_1, .ref 8, .ref 13]) rfl rfl rfl ?_
      obtain ⟨b_3, H⟩ := F_gd H
      refine ev_ga (p' := 42) (v := (gE (p_1.2) 8 (x_1 : Int32).toNatClampNeg)) rfl rfl ly_8 rfl (gd_in b_3) rfl ?_
      obtain ⟨b_4, H⟩ := F_gd H
      refine ev_ga (p' := 43) (v := (gE (p_1.2) 13 ((gE (p_1.2) 8 (x_1 : Int32).toNatClampNeg) : Int32).toNatClampNeg)) rfl rfl ly_13 rfl (gd_in b_4) rfl ?_
      refine ev_x (i := .iconst 1) (len := 1) (p' := 44) (s' := [.int 1, .int (gE (p_1.2) 13 ((gE (p_1.2) 8 (x_1 : Int32).toNatClampNeg) : Int32).toNatClampNeg)]) rfl rfl rfl ?_
      refine F_if H (fun c_5 H => ?_) (fun c_5 H => ?_)
      · refine ev_b2 (t := 51) (p' := 47) rfl rfl rfl (if_neg (fun q => q c_5)) ?_
        refine ev_x (i := .iconst 0) (len := 1) (p' := 48) (s' := [.int 0]) rfl rfl rfl ?_
        refine ev_x (i := .goto 18) (len := 3) (p' := 66) (s' := [.int 0]) rfl rfl rfl ?_
        obtain rfl := Option.some.inj H
        exact ev_iret rfl rfl rfl rfl
      · refine ev_b2 (t := 51) (p' := 51) rfl rfl rfl (if_pos c_5) ?_
        refine ev_x (i := .aload_n 0) (len := 1) (p' := 52) (s' := [.ref 46]) rfl rfl rfl ?_
        refine ev_x (i := .bipush 8) (len := 2) (p' := 54) (s' := [.int 8, .ref 46]) rfl rfl rfl ?_
        refine ev_x (i := .aload_n 0) (len := 1) (p' := 55) (s' := [.ref 46, .int 8, .ref 46]) rfl rfl rfl ?_
        refine ev_gr (p' := 58) (v := 5) rfl rfl rfl ly_46 rfl rfl ((congrFun (congrFun e_1 46) 3).trans hr_46_3) ?_
        refine ev_gc (p' := 61) (v := 7) rfl rfl rfl ly_5 rfl rfl ?_
        refine ev_x (i := .iload_n 1) (len := 1) (p' := 62) (s' := [.int x_1, .ref 7, .int 8, .ref 46]) rfl rfl rfl ?_
        obtain ⟨b_6, H⟩ := F_gd H
        refine ev_ga (p' := 63) (v := (gE (p_1.2) 7 (x_1 : Int32).toNatClampNeg)) rfl rfl ly_7 rfl (gd_in b_6) rfl ?_
        obtain ⟨p_7, G_7, H⟩ := F_bd H
        refine ev_cv (d := d + 3) (As := [.int 8, .int (gE (p_1.2) 7 (x_1 : Int32).toNatClampNeg)]) (a := 46) (p' := 66) rfl rfl rfl ly_46 rfl rfl rfl rfl rfl rfl rfl (F_61_ok (d := d + 2)   G_7) ?_
        refine ev_st (st' := [.int p_7.1]) rfl ?_
        have e_7 := F_61_R G_7
        obtain rfl := Option.some.inj H
        exact ev_iret rfl rfl rfl rfl
    · refine ev_b0 (t := 26) (p' := 13) rfl rfl rfl (if_neg c_2) ?_
      refine ev_x (i := .aload_n 0) (len := 1) (p' := 14) (s' := [.ref 46]) rfl rfl rfl ?_
      refine ev_x (i := .iload_n 2) (len := 1) (p' := 15) (s' := [.int p_1.1, .ref 46]) rfl rfl rfl ?_
      refine ev_x (i := .aload_n 0) (len := 1) (p' := 16) (s' := [.ref 46, .int p_1.1, .ref 46]) rfl rfl rfl ?_
      refine ev_gc (p' := 19) (v := 42) rfl rfl rfl ly_46 rfl rfl ?_
      refine ev_gi (p' := 22) (v := (gI p_1.2 42 6)) rfl rfl rfl ly_42 rfl rfl rfl ?_
      obtain ⟨p_8, G_8, H⟩ := F_bd H
      refine ev_cv (d := d + 3) (As := [.int p_1.1, .int (gI p_1.2 42 6)]) (a := 46) (p' := 25) rfl rfl rfl ly_46 rfl rfl rfl rfl rfl rfl rfl (F_61_ok (d := d + 2)   G_8) ?_
      refine ev_st (st' := [.int p_8.1]) rfl ?_
      have e_8 := F_61_R G_8
      obtain rfl := Option.some.inj H
      exact ev_iret rfl rfl rfl rfl
  · refine ev_x (i := .aload_n 0) (len := 1) (p' := 1) (s' := [.ref 46]) rfl rfl rfl ?_
    refine ev_gc (p' := 4) (v := 42) rfl rfl rfl ly_46 rfl rfl ?_
    refine ev_x (i := .iload_n 1) (len := 1) (p' := 5) (s' := [.int x_1, .ref 42]) rfl rfl rfl ?_
    obtain ⟨p_1, G_1, H⟩ := F_bd H
    refine ev_cv (d := d + 3) (As := [.int x_1]) (a := 42) (p' := 8) rfl rfl rfl ly_42 rfl rfl rfl rfl rfl rfl rfl (F_70_ok (d := d + 0) (ht := (Or.inr rfl)) (hr_42_3 := hr_42_3) (hr_42_4 := hr_42_4) G_1) ?_
    refine ev_st (st' := [.int p_1.1]) rfl ?_
    have e_1 := F_70_R G_1
    refine ev_x (i := .istore_n 2) (len := 1) (p' := 9) (s' := []) (l' := [(2, .int p_1.1), (0, .ref 46), (1, .int x_1)]) rfl rfl rfl ?_
    refine ev_x (i := .iload_n 2) (len := 1) (p' := 10) (s' := [.int p_1.1]) rfl rfl rfl ?_
    refine F_if H (fun c_2 H => ?_) (fun c_2 H => ?_)
    · refine ev_b0 (t := 26) (p' := 26) rfl rfl rfl (if_pos c_2) ?_
      refine ev_x (i := .aload_n 0) (len := 1) (p' := 27) (s' := [.ref 46]) rfl rfl rfl ?_
      refine ev_gr (p' := 30) (v := 21) rfl rfl rfl ly_46 rfl rfl ((congrFun (congrFun e_1 46) 3).trans hr_46_3) ?_
      refine ev_gc (p' := 33) (v := 29) rfl rfl rfl ly_21 rfl rfl ?_
      refine ev_x (i := .aload_n 0) (len := 1) (p' := 34) (s' := [.ref 46, .ref 29]) rfl rfl rfl ?_
      refine ev_gr (p' := 37) (v := 21) rfl rfl rfl ly_46 rfl rfl ((congrFun (congrFun e_1 46) 3).trans hr_46_3) ?_
      refine ev_gc (p' := 40) (v := 24) rfl rfl rfl ly_21 rfl rfl ?_
      refine ev_x (i := .iload_n 1) (len := 1) (p' := 41) (s' := [.int x_1, .ref 24, .ref 29]) rfl rfl rfl ?_
      obtain ⟨b_3, H⟩ := F_gd H
      refine ev_ga (p' := 42) (v := (gE (p_1.2) 24 (x_1 : Int32).toNatClampNeg)) rfl rfl ly_24 rfl (gd_in b_3) rfl ?_
      obtain ⟨b_4, H⟩ := F_gd H
      refine ev_ga (p' := 43) (v := (gE (p_1.2) 29 ((gE (p_1.2) 24 (x_1 : Int32).toNatClampNeg) : Int32).toNatClampNeg)) rfl rfl ly_29 rfl (gd_in b_4) rfl ?_
      refine ev_x (i := .iconst 1) (len := 1) (p' := 44) (s' := [.int 1, .int (gE (p_1.2) 29 ((gE (p_1.2) 24 (x_1 : Int32).toNatClampNeg) : Int32).toNatClampNeg)]) rfl rfl rfl ?_
      refine F_if H (fun c_5 H => ?_) (fun c_5 H => ?_)
      · refine ev_b2 (t := 51) (p' := 47) rfl rfl rfl (if_neg (fun q => q c_5)) ?_
        refine ev_x (i := .iconst 0) (len := 1) (p' := 48) (s' := [.int 0]) rfl rfl rfl ?_
        refine ev_x (i := .goto 18) (len := 3) (p' := 66) (s' := [.int 0]) rfl rfl rfl ?_
        obtain rfl := Option.some.inj H
        exact ev_iret rfl rfl rfl rfl
      · refine ev_b2 (t := 51) (p' := 51) rfl rfl rfl (if_pos c_5) ?_
        refine ev_x (i := .aload_n 0) (len := 1) (p' := 52) (s' := [.ref 46]) rfl rfl rfl ?_
        refine ev_x (i := .bipush 8) (len := 2) (p' := 54) (s' := [.int 8, .ref 46]) rfl rfl rfl ?_
        refine ev_x (i := .aload_n 0) (len := 1) (p' := 55) (s' := [.ref 46, .int 8, .ref 46]) rfl rfl rfl ?_
        refine ev_gr (p' := 58) (v := 21) rfl rfl rfl ly_46 rfl rfl ((congrFun (congrFun e_1 46) 3).trans hr_46_3) ?_
        refine ev_gc (p' := 61) (v := 23) rfl rfl rfl ly_21 rfl rfl ?_
        refine ev_x (i := .iload_n 1) (len := 1) (p' := 62) (s' := [.int x_1, .ref 23, .int 8, .ref 46]) rfl rfl rfl ?_
        obtain ⟨b_6, H⟩ := F_gd H
        refine ev_ga (p' := 63) (v := (gE (p_1.2) 23 (x_1 : Int32).toNatClampNeg)) rfl rfl ly_23 rfl (gd_in b_6) rfl ?_
        obtain ⟨p_7, G_7, H⟩ := F_bd H
        refine ev_cv (d := d + 3) (As := [.int 8, .int (gE (p_1.2) 23 (x_1 : Int32).toNatClampNeg)]) (a := 46) (p' := 66) rfl rfl rfl ly_46 rfl rfl rfl rfl rfl rfl rfl (F_61_ok (d := d + 2)   G_7) ?_
        refine ev_st (st' := [.int p_7.1]) rfl ?_
        have e_7 := F_61_R G_7
        obtain rfl := Option.some.inj H
        exact ev_iret rfl rfl rfl rfl
    · refine ev_b0 (t := 26) (p' := 13) rfl rfl rfl (if_neg c_2) ?_
      refine ev_x (i := .aload_n 0) (len := 1) (p' := 14) (s' := [.ref 46]) rfl rfl rfl ?_
      refine ev_x (i := .iload_n 2) (len := 1) (p' := 15) (s' := [.int p_1.1, .ref 46]) rfl rfl rfl ?_
      refine ev_x (i := .aload_n 0) (len := 1) (p' := 16) (s' := [.ref 46, .int p_1.1, .ref 46]) rfl rfl rfl ?_
      refine ev_gc (p' := 19) (v := 42) rfl rfl rfl ly_46 rfl rfl ?_
      refine ev_gi (p' := 22) (v := (gI p_1.2 42 6)) rfl rfl rfl ly_42 rfl rfl rfl ?_
      obtain ⟨p_8, G_8, H⟩ := F_bd H
      refine ev_cv (d := d + 3) (As := [.int p_1.1, .int (gI p_1.2 42 6)]) (a := 46) (p' := 25) rfl rfl rfl ly_46 rfl rfl rfl rfl rfl rfl rfl (F_61_ok (d := d + 2)   G_8) ?_
      refine ev_st (st' := [.int p_8.1]) rfl ?_
      have e_8 := F_61_R G_8
      obtain rfl := Option.some.inj H
      exact ev_iret rfl rfl rfl rfl
/-- GameText$Checker.finishesRange()I, from 162 -/
def J_82_162 (N : Nat) (t : Nat) (σ : st_S) : Option (Int32 × st_S) :=
  if aB (gI σ 46 9) (gN σ (t + 3)) then
  (F_61 N 9 (gE (σ) (t + 3) ((gI σ 46 9) : Int32).toNatClampNeg) (σ)).bind fun p_23 =>
  some (p_23.1, p_23.2)
  else none
set_option maxRecDepth 100000 in
theorem J_82_162_R {N : Nat} {t : Nat} {σ : st_S} {p : Int32 × st_S} (H : J_82_162 N t σ = some p) : gR p.2 = gR σ := by
  unfold J_82_162 at H
  obtain ⟨_, H⟩ := F_gd H
  obtain ⟨p_23, G_23, H⟩ := F_bd H
  obtain rfl := Option.some.inj H
  exact ((F_61_R G_23).trans rfl)
set_option maxHeartbeats 4000000 in
set_option maxRecDepth 100000 in
theorem J_82_162_ok {N d : Nat} {t : Nat} (ht : t = 4 ∨ t = 20) {σ : st_S} {lv : vz_L} {p : Int32 × st_S} (g_0 : vz_g lv 0 = some (.ref 46)) (hnb : vz_nbL (vz_gr P0) lv = true) (hr_42_3 : gR σ 42 3 = t) (hr_42_4 : gR σ 42 4 = (t + 1)) (hr_46_2 : gR σ 46 2 = t) (hr_46_3 : gR σ 46 3 = (t + 1)) (H : J_82_162 N t σ = some p) : vz_ev P0 (d + 5) 82 162 lv [] (hp σ) (.inl (some (.int p.1)), hp p.2) := by
  unfold J_82_162 at H
  rcases ht with rfl | rfl
  · refine ev_x (i := .aload_n 0) (len := 1) (p' := 163) (s' := [.ref 46]) rfl rfl (ld_a g_0) ?_
    refine ev_x (i := .bipush 9) (len := 2) (p' := 165) (s' := [.int 9, .ref 46]) rfl rfl rfl ?_
    refine ev_x (i := .aload_n 0) (len := 1) (p' := 166) (s' := [.ref 46, .int 9, .ref 46]) rfl rfl (ld_a g_0) ?_
    refine ev_gr (p' := 169) (v := 5) rfl rfl rfl ly_46 rfl rfl hr_46_3 ?_
    refine ev_gc (p' := 172) (v := 7) rfl rfl rfl ly_5 rfl rfl ?_
    refine ev_x (i := .aload_n 0) (len := 1) (p' := 173) (s' := [.ref 46, .ref 7, .int 9, .ref 46]) rfl rfl (ld_a g_0) ?_
    refine ev_gi (p' := 176) (v := (gI σ 46 9)) rfl rfl rfl ly_46 rfl rfl rfl ?_
    obtain ⟨b_22, H⟩ := F_gd H
    refine ev_ga (p' := 177) (v := (gE (σ) 7 ((gI σ 46 9) : Int32).toNatClampNeg)) rfl rfl ly_7 rfl (gd_in b_22) rfl ?_
    obtain ⟨p_23, G_23, H⟩ := F_bd H
    refine ev_cv (d := d + 4) (As := [.int 9, .int (gE (σ) 7 ((gI σ 46 9) : Int32).toNatClampNeg)]) (a := 46) (p' := 180) rfl rfl rfl ly_46 rfl rfl rfl rfl rfl hnb rfl (F_61_ok (d := d + 3)   G_23) ?_
    refine ev_st (st' := [.int p_23.1]) rfl ?_
    have e_23 := F_61_R G_23
    obtain rfl := Option.some.inj H
    exact ev_iret rfl rfl rfl rfl
  · refine ev_x (i := .aload_n 0) (len := 1) (p' := 163) (s' := [.ref 46]) rfl rfl (ld_a g_0) ?_
    refine ev_x (i := .bipush 9) (len := 2) (p' := 165) (s' := [.int 9, .ref 46]) rfl rfl rfl ?_
    refine ev_x (i := .aload_n 0) (len := 1) (p' := 166) (s' := [.ref 46, .int 9, .ref 46]) rfl rfl (ld_a g_0) ?_
    refine ev_gr (p' := 169) (v := 21) rfl rfl rfl ly_46 rfl rfl hr_46_3 ?_
    refine ev_gc (p' := 172) (v := 23) rfl rfl rfl ly_21 rfl rfl ?_
    refine ev_x (i := .aload_n 0) (len := 1) (p' := 173) (s' := [.ref 46, .ref 23, .int 9, .ref 46]) rfl rfl (ld_a g_0) ?_
    refine ev_gi (p' := 176) (v := (gI σ 46 9)) rfl rfl rfl ly_46 rfl rfl rfl ?_
    obtain ⟨b_22, H⟩ := F_gd H
    refine ev_ga (p' := 177) (v := (gE (σ) 23 ((gI σ 46 9) : Int32).toNatClampNeg)) rfl rfl ly_23 rfl (gd_in b_22) rfl ?_
    obtain ⟨p_23, G_23, H⟩ := F_bd H
    refine ev_cv (d := d + 4) (As := [.int 9, .int (gE (σ) 23 ((gI σ 46 9) : Int32).toNatClampNeg)]) (a := 46) (p' := 180) rfl rfl rfl ly_46 rfl rfl rfl rfl rfl hnb rfl (F_61_ok (d := d + 3)   G_23) ?_
    refine ev_st (st' := [.int p_23.1]) rfl ?_
    have e_23 := F_61_R G_23
    obtain rfl := Option.some.inj H
    exact ev_iret rfl rfl rfl rfl
/-- GameText$Checker.finishesRange()I, from 84 -/
def J_82_84 (N : Nat) (t : Nat) (σ : st_S) : Option (Int32 × st_S) :=
  if aB (gI σ 46 8) (gN σ (t + 3)) then
  (F_61 N 9 (gE (σ) (t + 3) ((gI σ 46 8) : Int32).toNatClampNeg) (σ)).bind fun p_21 =>
  some (p_21.1, p_21.2)
  else none
set_option maxRecDepth 100000 in
theorem J_82_84_R {N : Nat} {t : Nat} {σ : st_S} {p : Int32 × st_S} (H : J_82_84 N t σ = some p) : gR p.2 = gR σ := by
  unfold J_82_84 at H
  obtain ⟨_, H⟩ := F_gd H
  obtain ⟨p_21, G_21, H⟩ := F_bd H
  obtain rfl := Option.some.inj H
  exact ((F_61_R G_21).trans rfl)
set_option maxHeartbeats 4000000 in
set_option maxRecDepth 100000 in
theorem J_82_84_ok {N d : Nat} {t : Nat} (ht : t = 4 ∨ t = 20) {σ : st_S} {lv : vz_L} {p : Int32 × st_S} (g_0 : vz_g lv 0 = some (.ref 46)) (hnb : vz_nbL (vz_gr P0) lv = true) (hr_42_3 : gR σ 42 3 = t) (hr_42_4 : gR σ 42 4 = (t + 1)) (hr_46_2 : gR σ 46 2 = t) (hr_46_3 : gR σ 46 3 = (t + 1)) (H : J_82_84 N t σ = some p) : vz_ev P0 (d + 5) 82 84 lv [] (hp σ) (.inl (some (.int p.1)), hp p.2) := by
  unfold J_82_84 at H
  rcases ht with rfl | rfl
  · refine ev_x (i := .aload_n 0) (len := 1) (p' := 85) (s' := [.ref 46]) rfl rfl (ld_a g_0) ?_
    refine ev_x (i := .bipush 9) (len := 2) (p' := 87) (s' := [.int 9, .ref 46]) rfl rfl rfl ?_
    refine ev_x (i := .aload_n 0) (len := 1) (p' := 88) (s' := [.ref 46, .int 9, .ref 46]) rfl rfl (ld_a g_0) ?_
    refine ev_gr (p' := 91) (v := 5) rfl rfl rfl ly_46 rfl rfl hr_46_3 ?_
    refine ev_gc (p' := 94) (v := 7) rfl rfl rfl ly_5 rfl rfl ?_
    refine ev_x (i := .aload_n 0) (len := 1) (p' := 95) (s' := [.ref 46, .ref 7, .int 9, .ref 46]) rfl rfl (ld_a g_0) ?_
    refine ev_gi (p' := 98) (v := (gI σ 46 8)) rfl rfl rfl ly_46 rfl rfl rfl ?_
    obtain ⟨b_20, H⟩ := F_gd H
    refine ev_ga (p' := 99) (v := (gE (σ) 7 ((gI σ 46 8) : Int32).toNatClampNeg)) rfl rfl ly_7 rfl (gd_in b_20) rfl ?_
    obtain ⟨p_21, G_21, H⟩ := F_bd H
    refine ev_cv (d := d + 4) (As := [.int 9, .int (gE (σ) 7 ((gI σ 46 8) : Int32).toNatClampNeg)]) (a := 46) (p' := 102) rfl rfl rfl ly_46 rfl rfl rfl rfl rfl hnb rfl (F_61_ok (d := d + 3)   G_21) ?_
    refine ev_st (st' := [.int p_21.1]) rfl ?_
    have e_21 := F_61_R G_21
    obtain rfl := Option.some.inj H
    exact ev_iret rfl rfl rfl rfl
  · refine ev_x (i := .aload_n 0) (len := 1) (p' := 85) (s' := [.ref 46]) rfl rfl (ld_a g_0) ?_
    refine ev_x (i := .bipush 9) (len := 2) (p' := 87) (s' := [.int 9, .ref 46]) rfl rfl rfl ?_
    refine ev_x (i := .aload_n 0) (len := 1) (p' := 88) (s' := [.ref 46, .int 9, .ref 46]) rfl rfl (ld_a g_0) ?_
    refine ev_gr (p' := 91) (v := 21) rfl rfl rfl ly_46 rfl rfl hr_46_3 ?_
    refine ev_gc (p' := 94) (v := 23) rfl rfl rfl ly_21 rfl rfl ?_
    refine ev_x (i := .aload_n 0) (len := 1) (p' := 95) (s' := [.ref 46, .ref 23, .int 9, .ref 46]) rfl rfl (ld_a g_0) ?_
    refine ev_gi (p' := 98) (v := (gI σ 46 8)) rfl rfl rfl ly_46 rfl rfl rfl ?_
    obtain ⟨b_20, H⟩ := F_gd H
    refine ev_ga (p' := 99) (v := (gE (σ) 23 ((gI σ 46 8) : Int32).toNatClampNeg)) rfl rfl ly_23 rfl (gd_in b_20) rfl ?_
    obtain ⟨p_21, G_21, H⟩ := F_bd H
    refine ev_cv (d := d + 4) (As := [.int 9, .int (gE (σ) 23 ((gI σ 46 8) : Int32).toNatClampNeg)]) (a := 46) (p' := 102) rfl rfl rfl ly_46 rfl rfl rfl rfl rfl hnb rfl (F_61_ok (d := d + 3)   G_21) ?_
    refine ev_st (st' := [.int p_21.1]) rfl ?_
    have e_21 := F_61_R G_21
    obtain rfl := Option.some.inj H
    exact ev_iret rfl rfl rfl rfl
/-- GameText$Checker.finishesRange()I, from 22 -/
def J_82_22 (N : Nat) (t : Nat) (l_1 : Int32) (σ : st_S) : Option (Int32 × st_S) :=
  if l_1 = 0 then
    if aB (gI σ 46 7) (gN σ (t + 4)) then
    if aB (gE (σ) (t + 4) ((gI σ 46 7) : Int32).toNatClampNeg) (gN σ (t + 8)) then
    if aB (gI σ 46 8) (gN σ (t + 4)) then
    if aB (gE (σ) (t + 4) ((gI σ 46 8) : Int32).toNatClampNeg) (gN σ (t + 8)) then
    if (gE (σ) (t + 8) ((gE (σ) (t + 4) ((gI σ 46 8) : Int32).toNatClampNeg) : Int32).toNatClampNeg) < (gE (σ) (t + 8) ((gE (σ) (t + 4) ((gI σ 46 7) : Int32).toNatClampNeg) : Int32).toNatClampNeg) then
      J_82_84 N t (σ)
    else
      if ((gE (σ) (t + 8) ((gE (σ) (t + 4) ((gI σ 46 8) : Int32).toNatClampNeg) : Int32).toNatClampNeg) - (gE (σ) (t + 8) ((gE (σ) (t + 4) ((gI σ 46 7) : Int32).toNatClampNeg) : Int32).toNatClampNeg)) < 10000 then
        if (gI σ 46 9) < 0 then
          (F_81 N t (gE (σ) (t + 8) ((gE (σ) (t + 4) ((gI σ 46 7) : Int32).toNatClampNeg) : Int32).toNatClampNeg) (gE (σ) (t + 8) ((gE (σ) (t + 4) ((gI σ 46 8) : Int32).toNatClampNeg) : Int32).toNatClampNeg) (gE (σ) (t + 8) ((gE (σ) (t + 4) ((gI σ 46 7) : Int32).toNatClampNeg) : Int32).toNatClampNeg) (σ)).bind fun p_12 =>
          some (0, p_12)
        else
          (F_83 N t (gI σ 46 9) (σ)).bind fun p_13 =>
          if p_13.1 = 0 then
            if aB (gI p_13.2 46 9) (gN p_13.2 (t + 4)) then
            if aB (gE (p_13.2) (t + 4) ((gI p_13.2 46 9) : Int32).toNatClampNeg) (gN p_13.2 (t + 8)) then
            if (gE (p_13.2) (t + 8) ((gE (p_13.2) (t + 4) ((gI p_13.2 46 9) : Int32).toNatClampNeg) : Int32).toNatClampNeg) < (gE (σ) (t + 8) ((gE (σ) (t + 4) ((gI σ 46 7) : Int32).toNatClampNeg) : Int32).toNatClampNeg) then
              J_82_162 N t (p_13.2)
            else
              if (gE (p_13.2) (t + 8) ((gE (p_13.2) (t + 4) ((gI p_13.2 46 9) : Int32).toNatClampNeg) : Int32).toNatClampNeg) ≤ (gE (σ) (t + 8) ((gE (σ) (t + 4) ((gI σ 46 8) : Int32).toNatClampNeg) : Int32).toNatClampNeg) then
                (F_81 N t (gE (σ) (t + 8) ((gE (σ) (t + 4) ((gI σ 46 7) : Int32).toNatClampNeg) : Int32).toNatClampNeg) (gE (σ) (t + 8) ((gE (σ) (t + 4) ((gI σ 46 8) : Int32).toNatClampNeg) : Int32).toNatClampNeg) (gE (p_13.2) (t + 8) ((gE (p_13.2) (t + 4) ((gI p_13.2 46 9) : Int32).toNatClampNeg) : Int32).toNatClampNeg) (p_13.2)).bind fun p_19 =>
                some (0, p_19)
              else
                J_82_162 N t (p_13.2)
            else none
            else none
          else
            some (p_13.1, p_13.2)
      else
        J_82_84 N t (σ)
    else none
    else none
    else none
    else none
  else
    some (l_1, σ)
set_option maxRecDepth 100000 in
theorem J_82_22_R {N : Nat} {t : Nat} {l_1 : Int32} {σ : st_S} {p : Int32 × st_S} (H : J_82_22 N t l_1 σ = some p) : gR p.2 = gR σ := by
  unfold J_82_22 at H
  refine F_if H (fun _ H => ?_) (fun _ H => ?_)
  · obtain ⟨_, H⟩ := F_gd H
    obtain ⟨_, H⟩ := F_gd H
    obtain ⟨_, H⟩ := F_gd H
    obtain ⟨_, H⟩ := F_gd H
    refine F_if H (fun _ H => ?_) (fun _ H => ?_)
    · exact (((J_82_84_R H)).trans rfl)
    · refine F_if H (fun _ H => ?_) (fun _ H => ?_)
      · refine F_if H (fun _ H => ?_) (fun _ H => ?_)
        · obtain ⟨p_12, G_12, H⟩ := F_bd H
          obtain rfl := Option.some.inj H
          exact ((F_81_R G_12).trans rfl)
        · obtain ⟨p_13, G_13, H⟩ := F_bd H
          refine F_if H (fun _ H => ?_) (fun _ H => ?_)
          · obtain ⟨_, H⟩ := F_gd H
            obtain ⟨_, H⟩ := F_gd H
            refine F_if H (fun _ H => ?_) (fun _ H => ?_)
            · exact (((J_82_162_R H)).trans ((F_83_R G_13).trans rfl))
            · refine F_if H (fun _ H => ?_) (fun _ H => ?_)
              · obtain ⟨p_19, G_19, H⟩ := F_bd H
                obtain rfl := Option.some.inj H
                exact ((F_81_R G_19).trans ((F_83_R G_13).trans rfl))
              · exact (((J_82_162_R H)).trans ((F_83_R G_13).trans rfl))
          · obtain rfl := Option.some.inj H
            exact ((F_83_R G_13).trans rfl)
      · exact (((J_82_84_R H)).trans rfl)
  · obtain rfl := Option.some.inj H
    exact rfl
set_option maxHeartbeats 4000000 in
set_option maxRecDepth 100000 in
theorem J_82_22_ok {N d : Nat} {t : Nat} (ht : t = 4 ∨ t = 20) {l_1 : Int32} {σ : st_S} {lv : vz_L} {p : Int32 × st_S} (g_0 : vz_g lv 0 = some (.ref 46)) (g_1 : vz_g lv 1 = some (.int l_1)) (hnb : vz_nbL (vz_gr P0) lv = true) (hr_42_3 : gR σ 42 3 = t) (hr_42_4 : gR σ 42 4 = (t + 1)) (hr_46_2 : gR σ 46 2 = t) (hr_46_3 : gR σ 46 3 = (t + 1)) (H : J_82_22 N t l_1 σ = some p) : vz_ev P0 (d + 5) 82 22 lv [] (hp σ) (.inl (some (.int p.1)), hp p.2) := by
  unfold J_82_22 at H
  rcases ht with rfl | rfl
  · refine ev_x (i := .iload_n 1) (len := 1) (p' := 23) (s' := [.int l_1]) rfl rfl (ld_i g_1) ?_
    refine F_if H (fun c_4 H => ?_) (fun c_4 H => ?_)
    · refine ev_b0 (t := 28) (p' := 28) rfl rfl rfl (if_pos c_4) ?_
      refine ev_x (i := .aload_n 0) (len := 1) (p' := 29) (s' := [.ref 46]) rfl rfl (ld_a g_0) ?_
      refine ev_gr (p' := 32) (v := 5) rfl rfl rfl ly_46 rfl rfl hr_46_3 ?_
      refine ev_gc (p' := 35) (v := 12) rfl rfl rfl ly_5 rfl rfl ?_
      refine ev_x (i := .aload_n 0) (len := 1) (p' := 36) (s' := [.ref 46, .ref 12]) rfl rfl (ld_a g_0) ?_
      refine ev_gr (p' := 39) (v := 5) rfl rfl rfl ly_46 rfl rfl hr_46_3 ?_
      refine ev_gc (p' := 42) (v := 8) rfl rfl rfl ly_5 rfl rfl ?_
      refine ev_x (i := .aload_n 0) (len := 1) (p' := 43) (s' := [.ref 46, .ref 8, .ref 12]) rfl rfl (ld_a g_0) ?_
      refine ev_gi (p' := 46) (v := (gI σ 46 7)) rfl rfl rfl ly_46 rfl rfl rfl ?_
      obtain ⟨b_5, H⟩ := F_gd H
      refine ev_ga (p' := 47) (v := (gE (σ) 8 ((gI σ 46 7) : Int32).toNatClampNeg)) rfl rfl ly_8 rfl (gd_in b_5) rfl ?_
      obtain ⟨b_6, H⟩ := F_gd H
      refine ev_ga (p' := 48) (v := (gE (σ) 12 ((gE (σ) 8 ((gI σ 46 7) : Int32).toNatClampNeg) : Int32).toNatClampNeg)) rfl rfl ly_12 rfl (gd_in b_6) rfl ?_
      refine ev_x (i := .istore_n 2) (len := 1) (p' := 49) (s' := []) (l' := vz_s1 (lv) 2 (.int (gE (σ) 12 ((gE (σ) 8 ((gI σ 46 7) : Int32).toNatClampNeg) : Int32).toNatClampNeg))) rfl rfl rfl ?_
      refine ev_x (i := .aload_n 0) (len := 1) (p' := 50) (s' := [.ref 46]) rfl rfl (ld_a (vg_o (i := 2) (v := .int (gE (σ) 12 ((gE (σ) 8 ((gI σ 46 7) : Int32).toNatClampNeg) : Int32).toNatClampNeg)) g_0 (by decide) (Or.inl rfl))) ?_
      refine ev_gr (p' := 53) (v := 5) rfl rfl rfl ly_46 rfl rfl hr_46_3 ?_
      refine ev_gc (p' := 56) (v := 12) rfl rfl rfl ly_5 rfl rfl ?_
      refine ev_x (i := .aload_n 0) (len := 1) (p' := 57) (s' := [.ref 46, .ref 12]) rfl rfl (ld_a (vg_o (i := 2) (v := .int (gE (σ) 12 ((gE (σ) 8 ((gI σ 46 7) : Int32).toNatClampNeg) : Int32).toNatClampNeg)) g_0 (by decide) (Or.inl rfl))) ?_
      refine ev_gr (p' := 60) (v := 5) rfl rfl rfl ly_46 rfl rfl hr_46_3 ?_
      refine ev_gc (p' := 63) (v := 8) rfl rfl rfl ly_5 rfl rfl ?_
      refine ev_x (i := .aload_n 0) (len := 1) (p' := 64) (s' := [.ref 46, .ref 8, .ref 12]) rfl rfl (ld_a (vg_o (i := 2) (v := .int (gE (σ) 12 ((gE (σ) 8 ((gI σ 46 7) : Int32).toNatClampNeg) : Int32).toNatClampNeg)) g_0 (by decide) (Or.inl rfl))) ?_
      refine ev_gi (p' := 67) (v := (gI σ 46 8)) rfl rfl rfl ly_46 rfl rfl rfl ?_
      obtain ⟨b_7, H⟩ := F_gd H
      refine ev_ga (p' := 68) (v := (gE (σ) 8 ((gI σ 46 8) : Int32).toNatClampNeg)) rfl rfl ly_8 rfl (gd_in b_7) rfl ?_
      obtain ⟨b_8, H⟩ := F_gd H
      refine ev_ga (p' := 69) (v := (gE (σ) 12 ((gE (σ) 8 ((gI σ 46 8) : Int32).toNatClampNeg) : Int32).toNatClampNeg)) rfl rfl ly_12 rfl (gd_in b_8) rfl ?_
      refine ev_x (i := .istore_n 3) (len := 1) (p' := 70) (s' := []) (l' := vz_s1 (vz_s1 (lv) 2 (.int (gE (σ) 12 ((gE (σ) 8 ((gI σ 46 7) : Int32).toNatClampNeg) : Int32).toNatClampNeg))) 3 (.int (gE (σ) 12 ((gE (σ) 8 ((gI σ 46 8) : Int32).toNatClampNeg) : Int32).toNatClampNeg))) rfl rfl rfl ?_
      refine ev_x (i := .iload_n 2) (len := 1) (p' := 71) (s' := [.int (gE (σ) 12 ((gE (σ) 8 ((gI σ 46 7) : Int32).toNatClampNeg) : Int32).toNatClampNeg)]) rfl rfl (ld_i (vg_o (i := 3) (v := .int (gE (σ) 12 ((gE (σ) 8 ((gI σ 46 8) : Int32).toNatClampNeg) : Int32).toNatClampNeg)) (vg_s (lv) 2 (.int (gE (σ) 12 ((gE (σ) 8 ((gI σ 46 7) : Int32).toNatClampNeg) : Int32).toNatClampNeg))) (by decide) (Or.inl rfl))) ?_
      refine ev_x (i := .iload_n 3) (len := 1) (p' := 72) (s' := [.int (gE (σ) 12 ((gE (σ) 8 ((gI σ 46 8) : Int32).toNatClampNeg) : Int32).toNatClampNeg), .int (gE (σ) 12 ((gE (σ) 8 ((gI σ 46 7) : Int32).toNatClampNeg) : Int32).toNatClampNeg)]) rfl rfl (ld_i (vg_s (vz_s1 (lv) 2 (.int (gE (σ) 12 ((gE (σ) 8 ((gI σ 46 7) : Int32).toNatClampNeg) : Int32).toNatClampNeg))) 3 (.int (gE (σ) 12 ((gE (σ) 8 ((gI σ 46 8) : Int32).toNatClampNeg) : Int32).toNatClampNeg)))) ?_
      refine F_if H (fun c_9 H => ?_) (fun c_9 H => ?_)
      · refine ev_b2 (t := 84) (p' := 84) rfl rfl rfl (if_pos c_9) ?_
        exact J_82_84_ok (d := d) (Or.inl rfl) (vg_o (i := 3) (v := .int (gE (σ) 12 ((gE (σ) 8 ((gI σ 46 8) : Int32).toNatClampNeg) : Int32).toNatClampNeg)) (vg_o (i := 2) (v := .int (gE (σ) 12 ((gE (σ) 8 ((gI σ 46 7) : Int32).toNatClampNeg) : Int32).toNatClampNeg)) g_0 (by decide) (Or.inl rfl)) (by decide) (Or.inl rfl)) (nb_s1 (nb_s1 hnb rfl) rfl) hr_42_3 hr_42_4 hr_46_2 hr_46_3 H
      · refine ev_b2 (t := 84) (p' := 75) rfl rfl rfl (if_neg c_9) ?_
        refine ev_x (i := .iload_n 3) (len := 1) (p' := 76) (s' := [.int (gE (σ) 12 ((gE (σ) 8 ((gI σ 46 8) : Int32).toNatClampNeg) : Int32).toNatClampNeg)]) rfl rfl (ld_i (vg_s (vz_s1 (lv) 2 (.int (gE (σ) 12 ((gE (σ) 8 ((gI σ 46 7) : Int32).toNatClampNeg) : Int32).toNatClampNeg))) 3 (.int (gE (σ) 12 ((gE (σ) 8 ((gI σ 46 8) : Int32).toNatClampNeg) : Int32).toNatClampNeg)))) ?_
        refine ev_x (i := .iload_n 2) (len := 1) (p' := 77) (s' := [.int (gE (σ) 12 ((gE (σ) 8 ((gI σ 46 7) : Int32).toNatClampNeg) : Int32).toNatClampNeg), .int (gE (σ) 12 ((gE (σ) 8 ((gI σ 46 8) : Int32).toNatClampNeg) : Int32).toNatClampNeg)]) rfl rfl (ld_i (vg_o (i := 3) (v := .int (gE (σ) 12 ((gE (σ) 8 ((gI σ 46 8) : Int32).toNatClampNeg) : Int32).toNatClampNeg)) (vg_s (lv) 2 (.int (gE (σ) 12 ((gE (σ) 8 ((gI σ 46 7) : Int32).toNatClampNeg) : Int32).toNatClampNeg))) (by decide) (Or.inl rfl))) ?_
        refine ev_x (i := .isub) (len := 1) (p' := 78) (s' := [.int ((gE (σ) 12 ((gE (σ) 8 ((gI σ 46 8) : Int32).toNatClampNeg) : Int32).toNatClampNeg) - (gE (σ) 12 ((gE (σ) 8 ((gI σ 46 7) : Int32).toNatClampNeg) : Int32).toNatClampNeg))]) rfl rfl rfl ?_
        refine ev_x (i := .sipush 10000) (len := 3) (p' := 81) (s' := [.int 10000, .int ((gE (σ) 12 ((gE (σ) 8 ((gI σ 46 8) : Int32).toNatClampNeg) : Int32).toNatClampNeg) - (gE (σ) 12 ((gE (σ) 8 ((gI σ 46 7) : Int32).toNatClampNeg) : Int32).toNatClampNeg))]) rfl rfl rfl ?_
        refine F_if H (fun c_10 H => ?_) (fun c_10 H => ?_)
        · refine ev_b2 (t := 103) (p' := 103) rfl rfl rfl (if_pos c_10) ?_
          refine ev_x (i := .iload_n 2) (len := 1) (p' := 104) (s' := [.int (gE (σ) 12 ((gE (σ) 8 ((gI σ 46 7) : Int32).toNatClampNeg) : Int32).toNatClampNeg)]) rfl rfl (ld_i (vg_o (i := 3) (v := .int (gE (σ) 12 ((gE (σ) 8 ((gI σ 46 8) : Int32).toNatClampNeg) : Int32).toNatClampNeg)) (vg_s (lv) 2 (.int (gE (σ) 12 ((gE (σ) 8 ((gI σ 46 7) : Int32).toNatClampNeg) : Int32).toNatClampNeg))) (by decide) (Or.inl rfl))) ?_
          refine ev_x (i := .istore 4) (len := 2) (p' := 106) (s' := []) (l' := vz_s1 (vz_s1 (vz_s1 (lv) 2 (.int (gE (σ) 12 ((gE (σ) 8 ((gI σ 46 7) : Int32).toNatClampNeg) : Int32).toNatClampNeg))) 3 (.int (gE (σ) 12 ((gE (σ) 8 ((gI σ 46 8) : Int32).toNatClampNeg) : Int32).toNatClampNeg))) 4 (.int (gE (σ) 12 ((gE (σ) 8 ((gI σ 46 7) : Int32).toNatClampNeg) : Int32).toNatClampNeg))) rfl rfl rfl ?_
          refine ev_x (i := .aload_n 0) (len := 1) (p' := 107) (s' := [.ref 46]) rfl rfl (ld_a (vg_o (i := 4) (v := .int (gE (σ) 12 ((gE (σ) 8 ((gI σ 46 7) : Int32).toNatClampNeg) : Int32).toNatClampNeg)) (vg_o (i := 3) (v := .int (gE (σ) 12 ((gE (σ) 8 ((gI σ 46 8) : Int32).toNatClampNeg) : Int32).toNatClampNeg)) (vg_o (i := 2) (v := .int (gE (σ) 12 ((gE (σ) 8 ((gI σ 46 7) : Int32).toNatClampNeg) : Int32).toNatClampNeg)) g_0 (by decide) (Or.inl rfl)) (by decide) (Or.inl rfl)) (by decide) (Or.inl rfl))) ?_
          refine ev_gi (p' := 110) (v := (gI σ 46 9)) rfl rfl rfl ly_46 rfl rfl rfl ?_
          refine F_if H (fun c_11 H => ?_) (fun c_11 H => ?_)
          · refine ev_b0 (t := 181) (p' := 181) rfl rfl rfl (if_pos c_11) ?_
            refine ev_x (i := .aload_n 0) (len := 1) (p' := 182) (s' := [.ref 46]) rfl rfl (ld_a (vg_o (i := 4) (v := .int (gE (σ) 12 ((gE (σ) 8 ((gI σ 46 7) : Int32).toNatClampNeg) : Int32).toNatClampNeg)) (vg_o (i := 3) (v := .int (gE (σ) 12 ((gE (σ) 8 ((gI σ 46 8) : Int32).toNatClampNeg) : Int32).toNatClampNeg)) (vg_o (i := 2) (v := .int (gE (σ) 12 ((gE (σ) 8 ((gI σ 46 7) : Int32).toNatClampNeg) : Int32).toNatClampNeg)) g_0 (by decide) (Or.inl rfl)) (by decide) (Or.inl rfl)) (by decide) (Or.inl rfl))) ?_
            refine ev_x (i := .iload_n 2) (len := 1) (p' := 183) (s' := [.int (gE (σ) 12 ((gE (σ) 8 ((gI σ 46 7) : Int32).toNatClampNeg) : Int32).toNatClampNeg), .ref 46]) rfl rfl (ld_i (vg_o (i := 4) (v := .int (gE (σ) 12 ((gE (σ) 8 ((gI σ 46 7) : Int32).toNatClampNeg) : Int32).toNatClampNeg)) (vg_o (i := 3) (v := .int (gE (σ) 12 ((gE (σ) 8 ((gI σ 46 8) : Int32).toNatClampNeg) : Int32).toNatClampNeg)) (vg_s (lv) 2 (.int (gE (σ) 12 ((gE (σ) 8 ((gI σ 46 7) : Int32).toNatClampNeg) : Int32).toNatClampNeg))) (by decide) (Or.inl rfl)) (by decide) (Or.inl rfl))) ?_
            refine ev_x (i := .iload_n 3) (len := 1) (p' := 184) (s' := [.int (gE (σ) 12 ((gE (σ) 8 ((gI σ 46 8) : Int32).toNatClampNeg) : Int32).toNatClampNeg), .int (gE (σ) 12 ((gE (σ) 8 ((gI σ 46 7) : Int32).toNatClampNeg) : Int32).toNatClampNeg), .ref 46]) rfl rfl (ld_i (vg_o (i := 4) (v := .int (gE (σ) 12 ((gE (σ) 8 ((gI σ 46 7) : Int32).toNatClampNeg) : Int32).toNatClampNeg)) (vg_s (vz_s1 (lv) 2 (.int (gE (σ) 12 ((gE (σ) 8 ((gI σ 46 7) : Int32).toNatClampNeg) : Int32).toNatClampNeg))) 3 (.int (gE (σ) 12 ((gE (σ) 8 ((gI σ 46 8) : Int32).toNatClampNeg) : Int32).toNatClampNeg))) (by decide) (Or.inl rfl))) ?_
            refine ev_x (i := .iload 4) (len := 2) (p' := 186) (s' := [.int (gE (σ) 12 ((gE (σ) 8 ((gI σ 46 7) : Int32).toNatClampNeg) : Int32).toNatClampNeg), .int (gE (σ) 12 ((gE (σ) 8 ((gI σ 46 8) : Int32).toNatClampNeg) : Int32).toNatClampNeg), .int (gE (σ) 12 ((gE (σ) 8 ((gI σ 46 7) : Int32).toNatClampNeg) : Int32).toNatClampNeg), .ref 46]) rfl rfl (ld_i (vg_s (vz_s1 (vz_s1 (lv) 2 (.int (gE (σ) 12 ((gE (σ) 8 ((gI σ 46 7) : Int32).toNatClampNeg) : Int32).toNatClampNeg))) 3 (.int (gE (σ) 12 ((gE (σ) 8 ((gI σ 46 8) : Int32).toNatClampNeg) : Int32).toNatClampNeg))) 4 (.int (gE (σ) 12 ((gE (σ) 8 ((gI σ 46 7) : Int32).toNatClampNeg) : Int32).toNatClampNeg)))) ?_
            obtain ⟨p_12, G_12, H⟩ := F_bd H
            refine ev_cv (d := d + 4) (As := [.int (gE (σ) 12 ((gE (σ) 8 ((gI σ 46 7) : Int32).toNatClampNeg) : Int32).toNatClampNeg), .int (gE (σ) 12 ((gE (σ) 8 ((gI σ 46 8) : Int32).toNatClampNeg) : Int32).toNatClampNeg), .int (gE (σ) 12 ((gE (σ) 8 ((gI σ 46 7) : Int32).toNatClampNeg) : Int32).toNatClampNeg)]) (a := 46) (p' := 189) rfl rfl rfl ly_46 rfl rfl rfl rfl rfl (nb_s1 (nb_s1 (nb_s1 hnb rfl) rfl) rfl) rfl (F_81_ok (d := d + 2) (ht := (Or.inl rfl)) (hr_46_2 := hr_46_2) (hr_46_3 := hr_46_3) G_12) ?_
            refine ev_st (st' := []) rfl ?_
            have e_12 := F_81_R G_12
            refine ev_x (i := .iconst 0) (len := 1) (p' := 190) (s' := [.int 0]) rfl rfl rfl ?_
            obtain rfl := Option.some.inj H
            exact ev_iret rfl rfl rfl rfl
          · refine ev_b0 (t := 181) (p' := 113) rfl rfl rfl (if_neg c_11) ?_
            refine ev_x (i := .aload_n 0) (len := 1) (p' := 114) (s' := [.ref 46]) rfl rfl (ld_a (vg_o (i := 4) (v := .int (gE (σ) 12 ((gE (σ) 8 ((gI σ 46 7) : Int32).toNatClampNeg) : Int32).toNatClampNeg)) (vg_o (i := 3) (v := .int (gE (σ) 12 ((gE (σ) 8 ((gI σ 46 8) : Int32).toNatClampNeg) : Int32).toNatClampNeg)) (vg_o (i := 2) (v := .int (gE (σ) 12 ((gE (σ) 8 ((gI σ 46 7) : Int32).toNatClampNeg) : Int32).toNatClampNeg)) g_0 (by decide) (Or.inl rfl)) (by decide) (Or.inl rfl)) (by decide) (Or.inl rfl))) ?_
            refine ev_x (i := .aload_n 0) (len := 1) (p' := 115) (s' := [.ref 46, .ref 46]) rfl rfl (ld_a (vg_o (i := 4) (v := .int (gE (σ) 12 ((gE (σ) 8 ((gI σ 46 7) : Int32).toNatClampNeg) : Int32).toNatClampNeg)) (vg_o (i := 3) (v := .int (gE (σ) 12 ((gE (σ) 8 ((gI σ 46 8) : Int32).toNatClampNeg) : Int32).toNatClampNeg)) (vg_o (i := 2) (v := .int (gE (σ) 12 ((gE (σ) 8 ((gI σ 46 7) : Int32).toNatClampNeg) : Int32).toNatClampNeg)) g_0 (by decide) (Or.inl rfl)) (by decide) (Or.inl rfl)) (by decide) (Or.inl rfl))) ?_
            refine ev_gi (p' := 118) (v := (gI σ 46 9)) rfl rfl rfl ly_46 rfl rfl rfl ?_
            obtain ⟨p_13, G_13, H⟩ := F_bd H
            refine ev_cv (d := d + 4) (As := [.int (gI σ 46 9)]) (a := 46) (p' := 121) rfl rfl rfl ly_46 rfl rfl rfl rfl rfl (nb_s1 (nb_s1 (nb_s1 hnb rfl) rfl) rfl) rfl (F_83_ok (d := d + 0) (ht := (Or.inl rfl)) (hr_42_3 := hr_42_3) (hr_42_4 := hr_42_4) (hr_46_3 := hr_46_3) G_13) ?_
            refine ev_st (st' := [.int p_13.1]) rfl ?_
            have e_13 := F_83_R G_13
            refine ev_x (i := .istore_n 1) (len := 1) (p' := 122) (s' := []) (l' := vz_s1 (vz_s1 (vz_s1 (vz_s1 (lv) 2 (.int (gE (σ) 12 ((gE (σ) 8 ((gI σ 46 7) : Int32).toNatClampNeg) : Int32).toNatClampNeg))) 3 (.int (gE (σ) 12 ((gE (σ) 8 ((gI σ 46 8) : Int32).toNatClampNeg) : Int32).toNatClampNeg))) 4 (.int (gE (σ) 12 ((gE (σ) 8 ((gI σ 46 7) : Int32).toNatClampNeg) : Int32).toNatClampNeg))) 1 (.int p_13.1)) rfl rfl rfl ?_
            refine ev_x (i := .iload_n 1) (len := 1) (p' := 123) (s' := [.int p_13.1]) rfl rfl (ld_i (vg_s (vz_s1 (vz_s1 (vz_s1 (lv) 2 (.int (gE (σ) 12 ((gE (σ) 8 ((gI σ 46 7) : Int32).toNatClampNeg) : Int32).toNatClampNeg))) 3 (.int (gE (σ) 12 ((gE (σ) 8 ((gI σ 46 8) : Int32).toNatClampNeg) : Int32).toNatClampNeg))) 4 (.int (gE (σ) 12 ((gE (σ) 8 ((gI σ 46 7) : Int32).toNatClampNeg) : Int32).toNatClampNeg))) 1 (.int p_13.1))) ?_
            refine F_if H (fun c_14 H => ?_) (fun c_14 H => ?_)
            · refine ev_b0 (t := 128) (p' := 128) rfl rfl rfl (if_pos c_14) ?_
              refine ev_x (i := .aload_n 0) (len := 1) (p' := 129) (s' := [.ref 46]) rfl rfl (ld_a (vg_o (i := 1) (v := .int p_13.1) (vg_o (i := 4) (v := .int (gE (σ) 12 ((gE (σ) 8 ((gI σ 46 7) : Int32).toNatClampNeg) : Int32).toNatClampNeg)) (vg_o (i := 3) (v := .int (gE (σ) 12 ((gE (σ) 8 ((gI σ 46 8) : Int32).toNatClampNeg) : Int32).toNatClampNeg)) (vg_o (i := 2) (v := .int (gE (σ) 12 ((gE (σ) 8 ((gI σ 46 7) : Int32).toNatClampNeg) : Int32).toNatClampNeg)) g_0 (by decide) (Or.inl rfl)) (by decide) (Or.inl rfl)) (by decide) (Or.inl rfl)) (by decide) (Or.inl rfl))) ?_
              refine ev_gr (p' := 132) (v := 5) rfl rfl rfl ly_46 rfl rfl ((congrFun (congrFun e_13 46) 3).trans hr_46_3) ?_
              refine ev_gc (p' := 135) (v := 12) rfl rfl rfl ly_5 rfl rfl ?_
              refine ev_x (i := .aload_n 0) (len := 1) (p' := 136) (s' := [.ref 46, .ref 12]) rfl rfl (ld_a (vg_o (i := 1) (v := .int p_13.1) (vg_o (i := 4) (v := .int (gE (σ) 12 ((gE (σ) 8 ((gI σ 46 7) : Int32).toNatClampNeg) : Int32).toNatClampNeg)) (vg_o (i := 3) (v := .int (gE (σ) 12 ((gE (σ) 8 ((gI σ 46 8) : Int32).toNatClampNeg) : Int32).toNatClampNeg)) (vg_o (i := 2) (v := .int (gE (σ) 12 ((gE (σ) 8 ((gI σ 46 7) : Int32).toNatClampNeg) : Int32).toNatClampNeg)) g_0 (by decide) (Or.inl rfl)) (by decide) (Or.inl rfl)) (by decide) (Or.inl rfl)) (by decide) (Or.inl rfl))) ?_
              refine ev_gr (p' := 139) (v := 5) rfl rfl rfl ly_46 rfl rfl ((congrFun (congrFun e_13 46) 3).trans hr_46_3) ?_
              refine ev_gc (p' := 142) (v := 8) rfl rfl rfl ly_5 rfl rfl ?_
              refine ev_x (i := .aload_n 0) (len := 1) (p' := 143) (s' := [.ref 46, .ref 8, .ref 12]) rfl rfl (ld_a (vg_o (i := 1) (v := .int p_13.1) (vg_o (i := 4) (v := .int (gE (σ) 12 ((gE (σ) 8 ((gI σ 46 7) : Int32).toNatClampNeg) : Int32).toNatClampNeg)) (vg_o (i := 3) (v := .int (gE (σ) 12 ((gE (σ) 8 ((gI σ 46 8) : Int32).toNatClampNeg) : Int32).toNatClampNeg)) (vg_o (i := 2) (v := .int (gE (σ) 12 ((gE (σ) 8 ((gI σ 46 7) : Int32).toNatClampNeg) : Int32).toNatClampNeg)) g_0 (by decide) (Or.inl rfl)) (by decide) (Or.inl rfl)) (by decide) (Or.inl rfl)) (by decide) (Or.inl rfl))) ?_
              refine ev_gi (p' := 146) (v := (gI p_13.2 46 9)) rfl rfl rfl ly_46 rfl rfl rfl ?_
              obtain ⟨b_15, H⟩ := F_gd H
              refine ev_ga (p' := 147) (v := (gE (p_13.2) 8 ((gI p_13.2 46 9) : Int32).toNatClampNeg)) rfl rfl ly_8 rfl (gd_in b_15) rfl ?_
              obtain ⟨b_16, H⟩ := F_gd H
              refine ev_ga (p' := 148) (v := (gE (p_13.2) 12 ((gE (p_13.2) 8 ((gI p_13.2 46 9) : Int32).toNatClampNeg) : Int32).toNatClampNeg)) rfl rfl ly_12 rfl (gd_in b_16) rfl ?_
              refine ev_x (i := .istore 4) (len := 2) (p' := 150) (s' := []) (l' := vz_s1 (vz_s1 (vz_s1 (vz_s1 (vz_s1 (lv) 2 (.int (gE (σ) 12 ((gE (σ) 8 ((gI σ 46 7) : Int32).toNatClampNeg) : Int32).toNatClampNeg))) 3 (.int (gE (σ) 12 ((gE (σ) 8 ((gI σ 46 8) : Int32).toNatClampNeg) : Int32).toNatClampNeg))) 4 (.int (gE (σ) 12 ((gE (σ) 8 ((gI σ 46 7) : Int32).toNatClampNeg) : Int32).toNatClampNeg))) 1 (.int p_13.1)) 4 (.int (gE (p_13.2) 12 ((gE (p_13.2) 8 ((gI p_13.2 46 9) : Int32).toNatClampNeg) : Int32).toNatClampNeg))) rfl rfl rfl ?_
              refine ev_x (i := .iload 4) (len := 2) (p' := 152) (s' := [.int (gE (p_13.2) 12 ((gE (p_13.2) 8 ((gI p_13.2 46 9) : Int32).toNatClampNeg) : Int32).toNatClampNeg)]) rfl rfl (ld_i (vg_s (vz_s1 (vz_s1 (vz_s1 (vz_s1 (lv) 2 (.int (gE (σ) 12 ((gE (σ) 8 ((gI σ 46 7) : Int32).toNatClampNeg) : Int32).toNatClampNeg))) 3 (.int (gE (σ) 12 ((gE (σ) 8 ((gI σ 46 8) : Int32).toNatClampNeg) : Int32).toNatClampNeg))) 4 (.int (gE (σ) 12 ((gE (σ) 8 ((gI σ 46 7) : Int32).toNatClampNeg) : Int32).toNatClampNeg))) 1 (.int p_13.1)) 4 (.int (gE (p_13.2) 12 ((gE (p_13.2) 8 ((gI p_13.2 46 9) : Int32).toNatClampNeg) : Int32).toNatClampNeg)))) ?_
              refine ev_x (i := .iload_n 2) (len := 1) (p' := 153) (s' := [.int (gE (σ) 12 ((gE (σ) 8 ((gI σ 46 7) : Int32).toNatClampNeg) : Int32).toNatClampNeg), .int (gE (p_13.2) 12 ((gE (p_13.2) 8 ((gI p_13.2 46 9) : Int32).toNatClampNeg) : Int32).toNatClampNeg)]) rfl rfl (ld_i (vg_o (i := 4) (v := .int (gE (p_13.2) 12 ((gE (p_13.2) 8 ((gI p_13.2 46 9) : Int32).toNatClampNeg) : Int32).toNatClampNeg)) (vg_o (i := 1) (v := .int p_13.1) (vg_o (i := 4) (v := .int (gE (σ) 12 ((gE (σ) 8 ((gI σ 46 7) : Int32).toNatClampNeg) : Int32).toNatClampNeg)) (vg_o (i := 3) (v := .int (gE (σ) 12 ((gE (σ) 8 ((gI σ 46 8) : Int32).toNatClampNeg) : Int32).toNatClampNeg)) (vg_s (lv) 2 (.int (gE (σ) 12 ((gE (σ) 8 ((gI σ 46 7) : Int32).toNatClampNeg) : Int32).toNatClampNeg))) (by decide) (Or.inl rfl)) (by decide) (Or.inl rfl)) (by decide) (Or.inl rfl)) (by decide) (Or.inl rfl))) ?_
              refine F_if H (fun c_17 H => ?_) (fun c_17 H => ?_)
              · refine ev_b2 (t := 162) (p' := 162) rfl rfl rfl (if_pos c_17) ?_
                exact J_82_162_ok (d := d) (Or.inl rfl) (vg_o (i := 4) (v := .int (gE (p_13.2) 12 ((gE (p_13.2) 8 ((gI p_13.2 46 9) : Int32).toNatClampNeg) : Int32).toNatClampNeg)) (vg_o (i := 1) (v := .int p_13.1) (vg_o (i := 4) (v := .int (gE (σ) 12 ((gE (σ) 8 ((gI σ 46 7) : Int32).toNatClampNeg) : Int32).toNatClampNeg)) (vg_o (i := 3) (v := .int (gE (σ) 12 ((gE (σ) 8 ((gI σ 46 8) : Int32).toNatClampNeg) : Int32).toNatClampNeg)) (vg_o (i := 2) (v := .int (gE (σ) 12 ((gE (σ) 8 ((gI σ 46 7) : Int32).toNatClampNeg) : Int32).toNatClampNeg)) g_0 (by decide) (Or.inl rfl)) (by decide) (Or.inl rfl)) (by decide) (Or.inl rfl)) (by decide) (Or.inl rfl)) (by decide) (Or.inl rfl)) (nb_s1 (nb_s1 (nb_s1 (nb_s1 (nb_s1 hnb rfl) rfl) rfl) rfl) rfl) ((congrFun (congrFun e_13 42) 3).trans hr_42_3) ((congrFun (congrFun e_13 42) 4).trans hr_42_4) ((congrFun (congrFun e_13 46) 2).trans hr_46_2) ((congrFun (congrFun e_13 46) 3).trans hr_46_3) H
              · refine ev_b2 (t := 162) (p' := 156) rfl rfl rfl (if_neg c_17) ?_
                refine ev_x (i := .iload 4) (len := 2) (p' := 158) (s' := [.int (gE (p_13.2) 12 ((gE (p_13.2) 8 ((gI p_13.2 46 9) : Int32).toNatClampNeg) : Int32).toNatClampNeg)]) rfl rfl (ld_i (vg_s (vz_s1 (vz_s1 (vz_s1 (vz_s1 (lv) 2 (.int (gE (σ) 12 ((gE (σ) 8 ((gI σ 46 7) : Int32).toNatClampNeg) : Int32).toNatClampNeg))) 3 (.int (gE (σ) 12 ((gE (σ) 8 ((gI σ 46 8) : Int32).toNatClampNeg) : Int32).toNatClampNeg))) 4 (.int (gE (σ) 12 ((gE (σ) 8 ((gI σ 46 7) : Int32).toNatClampNeg) : Int32).toNatClampNeg))) 1 (.int p_13.1)) 4 (.int (gE (p_13.2) 12 ((gE (p_13.2) 8 ((gI p_13.2 46 9) : Int32).toNatClampNeg) : Int32).toNatClampNeg)))) ?_
                refine ev_x (i := .iload_n 3) (len := 1) (p' := 159) (s' := [.int (gE (σ) 12 ((gE (σ) 8 ((gI σ 46 8) : Int32).toNatClampNeg) : Int32).toNatClampNeg), .int (gE (p_13.2) 12 ((gE (p_13.2) 8 ((gI p_13.2 46 9) : Int32).toNatClampNeg) : Int32).toNatClampNeg)]) rfl rfl (ld_i (vg_o (i := 4) (v := .int (gE (p_13.2) 12 ((gE (p_13.2) 8 ((gI p_13.2 46 9) : Int32).toNatClampNeg) : Int32).toNatClampNeg)) (vg_o (i := 1) (v := .int p_13.1) (vg_o (i := 4) (v := .int (gE (σ) 12 ((gE (σ) 8 ((gI σ 46 7) : Int32).toNatClampNeg) : Int32).toNatClampNeg)) (vg_s (vz_s1 (lv) 2 (.int (gE (σ) 12 ((gE (σ) 8 ((gI σ 46 7) : Int32).toNatClampNeg) : Int32).toNatClampNeg))) 3 (.int (gE (σ) 12 ((gE (σ) 8 ((gI σ 46 8) : Int32).toNatClampNeg) : Int32).toNatClampNeg))) (by decide) (Or.inl rfl)) (by decide) (Or.inl rfl)) (by decide) (Or.inl rfl))) ?_
                refine F_if H (fun c_18 H => ?_) (fun c_18 H => ?_)
                · refine ev_b2 (t := 181) (p' := 181) rfl rfl rfl (if_pos c_18) ?_
                  refine ev_x (i := .aload_n 0) (len := 1) (p' := 182) (s' := [.ref 46]) rfl rfl (ld_a (vg_o (i := 4) (v := .int (gE (p_13.2) 12 ((gE (p_13.2) 8 ((gI p_13.2 46 9) : Int32).toNatClampNeg) : Int32).toNatClampNeg)) (vg_o (i := 1) (v := .int p_13.1) (vg_o (i := 4) (v := .int (gE (σ) 12 ((gE (σ) 8 ((gI σ 46 7) : Int32).toNatClampNeg) : Int32).toNatClampNeg)) (vg_o (i := 3) (v := .int (gE (σ) 12 ((gE (σ) 8 ((gI σ 46 8) : Int32).toNatClampNeg) : Int32).toNatClampNeg)) (vg_o (i := 2) (v := .int (gE (σ) 12 ((gE (σ) 8 ((gI σ 46 7) : Int32).toNatClampNeg) : Int32).toNatClampNeg)) g_0 (by decide) (Or.inl rfl)) (by decide) (Or.inl rfl)) (by decide) (Or.inl rfl)) (by decide) (Or.inl rfl)) (by decide) (Or.inl rfl))) ?_
                  refine ev_x (i := .iload_n 2) (len := 1) (p' := 183) (s' := [.int (gE (σ) 12 ((gE (σ) 8 ((gI σ 46 7) : Int32).toNatClampNeg) : Int32).toNatClampNeg), .ref 46]) rfl rfl (ld_i (vg_o (i := 4) (v := .int (gE (p_13.2) 12 ((gE (p_13.2) 8 ((gI p_13.2 46 9) : Int32).toNatClampNeg) : Int32).toNatClampNeg)) (vg_o (i := 1) (v := .int p_13.1) (vg_o (i := 4) (v := .int (gE (σ) 12 ((gE (σ) 8 ((gI σ 46 7) : Int32).toNatClampNeg) : Int32).toNatClampNeg)) (vg_o (i := 3) (v := .int (gE (σ) 12 ((gE (σ) 8 ((gI σ 46 8) : Int32).toNatClampNeg) : Int32).toNatClampNeg)) (vg_s (lv) 2 (.int (gE (σ) 12 ((gE (σ) 8 ((gI σ 46 7) : Int32).toNatClampNeg) : Int32).toNatClampNeg))) (by decide) (Or.inl rfl)) (by decide) (Or.inl rfl)) (by decide) (Or.inl rfl)) (by decide) (Or.inl rfl))) ?_
                  refine ev_x (i := .iload_n 3) (len := 1) (p' := 184) (s' := [.int (gE (σ) 12 ((gE (σ) 8 ((gI σ 46 8) : Int32).toNatClampNeg) : Int32).toNatClampNeg), .int (gE (σ) 12 ((gE (σ) 8 ((gI σ 46 7) : Int32).toNatClampNeg) : Int32).toNatClampNeg), .ref 46]) rfl rfl (ld_i (vg_o (i := 4) (v := .int (gE (p_13.2) 12 ((gE (p_13.2) 8 ((gI p_13.2 46 9) : Int32).toNatClampNeg) : Int32).toNatClampNeg)) (vg_o (i := 1) (v := .int p_13.1) (vg_o (i := 4) (v := .int (gE (σ) 12 ((gE (σ) 8 ((gI σ 46 7) : Int32).toNatClampNeg) : Int32).toNatClampNeg)) (vg_s (vz_s1 (lv) 2 (.int (gE (σ) 12 ((gE (σ) 8 ((gI σ 46 7) : Int32).toNatClampNeg) : Int32).toNatClampNeg))) 3 (.int (gE (σ) 12 ((gE (σ) 8 ((gI σ 46 8) : Int32).toNatClampNeg) : Int32).toNatClampNeg))) (by decide) (Or.inl rfl)) (by decide) (Or.inl rfl)) (by decide) (Or.inl rfl))) ?_
                  refine ev_x (i := .iload 4) (len := 2) (p' := 186) (s' := [.int (gE (p_13.2) 12 ((gE (p_13.2) 8 ((gI p_13.2 46 9) : Int32).toNatClampNeg) : Int32).toNatClampNeg), .int (gE (σ) 12 ((gE (σ) 8 ((gI σ 46 8) : Int32).toNatClampNeg) : Int32).toNatClampNeg), .int (gE (σ) 12 ((gE (σ) 8 ((gI σ 46 7) : Int32).toNatClampNeg) : Int32).toNatClampNeg), .ref 46]) rfl rfl (ld_i (vg_s (vz_s1 (vz_s1 (vz_s1 (vz_s1 (lv) 2 (.int (gE (σ) 12 ((gE (σ) 8 ((gI σ 46 7) : Int32).toNatClampNeg) : Int32).toNatClampNeg))) 3 (.int (gE (σ) 12 ((gE (σ) 8 ((gI σ 46 8) : Int32).toNatClampNeg) : Int32).toNatClampNeg))) 4 (.int (gE (σ) 12 ((gE (σ) 8 ((gI σ 46 7) : Int32).toNatClampNeg) : Int32).toNatClampNeg))) 1 (.int p_13.1)) 4 (.int (gE (p_13.2) 12 ((gE (p_13.2) 8 ((gI p_13.2 46 9) : Int32).toNatClampNeg) : Int32).toNatClampNeg)))) ?_
                  obtain ⟨p_19, G_19, H⟩ := F_bd H
                  refine ev_cv (d := d + 4) (As := [.int (gE (σ) 12 ((gE (σ) 8 ((gI σ 46 7) : Int32).toNatClampNeg) : Int32).toNatClampNeg), .int (gE (σ) 12 ((gE (σ) 8 ((gI σ 46 8) : Int32).toNatClampNeg) : Int32).toNatClampNeg), .int (gE (p_13.2) 12 ((gE (p_13.2) 8 ((gI p_13.2 46 9) : Int32).toNatClampNeg) : Int32).toNatClampNeg)]) (a := 46) (p' := 189) rfl rfl rfl ly_46 rfl rfl rfl rfl rfl (nb_s1 (nb_s1 (nb_s1 (nb_s1 (nb_s1 hnb rfl) rfl) rfl) rfl) rfl) rfl (F_81_ok (d := d + 2) (ht := (Or.inl rfl)) (hr_46_2 := ((congrFun (congrFun e_13 46) 2).trans hr_46_2)) (hr_46_3 := ((congrFun (congrFun e_13 46) 3).trans hr_46_3)) G_19) ?_
                  refine ev_st (st' := []) rfl ?_
                  have e_19 := F_81_R G_19
                  refine ev_x (i := .iconst 0) (len := 1) (p' := 190) (s' := [.int 0]) rfl rfl rfl ?_
                  obtain rfl := Option.some.inj H
                  exact ev_iret rfl rfl rfl rfl
                · refine ev_b2 (t := 181) (p' := 162) rfl rfl rfl (if_neg c_18) ?_
                  exact J_82_162_ok (d := d) (Or.inl rfl) (vg_o (i := 4) (v := .int (gE (p_13.2) 12 ((gE (p_13.2) 8 ((gI p_13.2 46 9) : Int32).toNatClampNeg) : Int32).toNatClampNeg)) (vg_o (i := 1) (v := .int p_13.1) (vg_o (i := 4) (v := .int (gE (σ) 12 ((gE (σ) 8 ((gI σ 46 7) : Int32).toNatClampNeg) : Int32).toNatClampNeg)) (vg_o (i := 3) (v := .int (gE (σ) 12 ((gE (σ) 8 ((gI σ 46 8) : Int32).toNatClampNeg) : Int32).toNatClampNeg)) (vg_o (i := 2) (v := .int (gE (σ) 12 ((gE (σ) 8 ((gI σ 46 7) : Int32).toNatClampNeg) : Int32).toNatClampNeg)) g_0 (by decide) (Or.inl rfl)) (by decide) (Or.inl rfl)) (by decide) (Or.inl rfl)) (by decide) (Or.inl rfl)) (by decide) (Or.inl rfl)) (nb_s1 (nb_s1 (nb_s1 (nb_s1 (nb_s1 hnb rfl) rfl) rfl) rfl) rfl) ((congrFun (congrFun e_13 42) 3).trans hr_42_3) ((congrFun (congrFun e_13 42) 4).trans hr_42_4) ((congrFun (congrFun e_13 46) 2).trans hr_46_2) ((congrFun (congrFun e_13 46) 3).trans hr_46_3) H
            · refine ev_b0 (t := 128) (p' := 126) rfl rfl rfl (if_neg c_14) ?_
              refine ev_x (i := .iload_n 1) (len := 1) (p' := 127) (s' := [.int p_13.1]) rfl rfl (ld_i (vg_s (vz_s1 (vz_s1 (vz_s1 (lv) 2 (.int (gE (σ) 12 ((gE (σ) 8 ((gI σ 46 7) : Int32).toNatClampNeg) : Int32).toNatClampNeg))) 3 (.int (gE (σ) 12 ((gE (σ) 8 ((gI σ 46 8) : Int32).toNatClampNeg) : Int32).toNatClampNeg))) 4 (.int (gE (σ) 12 ((gE (σ) 8 ((gI σ 46 7) : Int32).toNatClampNeg) : Int32).toNatClampNeg))) 1 (.int p_13.1))) ?_
              obtain rfl := Option.some.inj H
              exact ev_iret rfl rfl rfl rfl
        · refine ev_b2 (t := 103) (p' := 84) rfl rfl rfl (if_neg c_10) ?_
          exact J_82_84_ok (d := d) (Or.inl rfl) (vg_o (i := 3) (v := .int (gE (σ) 12 ((gE (σ) 8 ((gI σ 46 8) : Int32).toNatClampNeg) : Int32).toNatClampNeg)) (vg_o (i := 2) (v := .int (gE (σ) 12 ((gE (σ) 8 ((gI σ 46 7) : Int32).toNatClampNeg) : Int32).toNatClampNeg)) g_0 (by decide) (Or.inl rfl)) (by decide) (Or.inl rfl)) (nb_s1 (nb_s1 hnb rfl) rfl) hr_42_3 hr_42_4 hr_46_2 hr_46_3 H
    · refine ev_b0 (t := 28) (p' := 26) rfl rfl rfl (if_neg c_4) ?_
      refine ev_x (i := .iload_n 1) (len := 1) (p' := 27) (s' := [.int l_1]) rfl rfl (ld_i g_1) ?_
      obtain rfl := Option.some.inj H
      exact ev_iret rfl rfl rfl rfl
  · refine ev_x (i := .iload_n 1) (len := 1) (p' := 23) (s' := [.int l_1]) rfl rfl (ld_i g_1) ?_
    refine F_if H (fun c_4 H => ?_) (fun c_4 H => ?_)
    · refine ev_b0 (t := 28) (p' := 28) rfl rfl rfl (if_pos c_4) ?_
      refine ev_x (i := .aload_n 0) (len := 1) (p' := 29) (s' := [.ref 46]) rfl rfl (ld_a g_0) ?_
      refine ev_gr (p' := 32) (v := 21) rfl rfl rfl ly_46 rfl rfl hr_46_3 ?_
      refine ev_gc (p' := 35) (v := 28) rfl rfl rfl ly_21 rfl rfl ?_
      refine ev_x (i := .aload_n 0) (len := 1) (p' := 36) (s' := [.ref 46, .ref 28]) rfl rfl (ld_a g_0) ?_
      refine ev_gr (p' := 39) (v := 21) rfl rfl rfl ly_46 rfl rfl hr_46_3 ?_
      refine ev_gc (p' := 42) (v := 24) rfl rfl rfl ly_21 rfl rfl ?_
      refine ev_x (i := .aload_n 0) (len := 1) (p' := 43) (s' := [.ref 46, .ref 24, .ref 28]) rfl rfl (ld_a g_0) ?_
      refine ev_gi (p' := 46) (v := (gI σ 46 7)) rfl rfl rfl ly_46 rfl rfl rfl ?_
      obtain ⟨b_5, H⟩ := F_gd H
      refine ev_ga (p' := 47) (v := (gE (σ) 24 ((gI σ 46 7) : Int32).toNatClampNeg)) rfl rfl ly_24 rfl (gd_in b_5) rfl ?_
      obtain ⟨b_6, H⟩ := F_gd H
      refine ev_ga (p' := 48) (v := (gE (σ) 28 ((gE (σ) 24 ((gI σ 46 7) : Int32).toNatClampNeg) : Int32).toNatClampNeg)) rfl rfl ly_28 rfl (gd_in b_6) rfl ?_
      refine ev_x (i := .istore_n 2) (len := 1) (p' := 49) (s' := []) (l' := vz_s1 (lv) 2 (.int (gE (σ) 28 ((gE (σ) 24 ((gI σ 46 7) : Int32).toNatClampNeg) : Int32).toNatClampNeg))) rfl rfl rfl ?_
      refine ev_x (i := .aload_n 0) (len := 1) (p' := 50) (s' := [.ref 46]) rfl rfl (ld_a (vg_o (i := 2) (v := .int (gE (σ) 28 ((gE (σ) 24 ((gI σ 46 7) : Int32).toNatClampNeg) : Int32).toNatClampNeg)) g_0 (by decide) (Or.inl rfl))) ?_
      refine ev_gr (p' := 53) (v := 21) rfl rfl rfl ly_46 rfl rfl hr_46_3 ?_
      refine ev_gc (p' := 56) (v := 28) rfl rfl rfl ly_21 rfl rfl ?_
      refine ev_x (i := .aload_n 0) (len := 1) (p' := 57) (s' := [.ref 46, .ref 28]) rfl rfl (ld_a (vg_o (i := 2) (v := .int (gE (σ) 28 ((gE (σ) 24 ((gI σ 46 7) : Int32).toNatClampNeg) : Int32).toNatClampNeg)) g_0 (by decide) (Or.inl rfl))) ?_
      refine ev_gr (p' := 60) (v := 21) rfl rfl rfl ly_46 rfl rfl hr_46_3 ?_
      refine ev_gc (p' := 63) (v := 24) rfl rfl rfl ly_21 rfl rfl ?_
      refine ev_x (i := .aload_n 0) (len := 1) (p' := 64) (s' := [.ref 46, .ref 24, .ref 28]) rfl rfl (ld_a (vg_o (i := 2) (v := .int (gE (σ) 28 ((gE (σ) 24 ((gI σ 46 7) : Int32).toNatClampNeg) : Int32).toNatClampNeg)) g_0 (by decide) (Or.inl rfl))) ?_
      refine ev_gi (p' := 67) (v := (gI σ 46 8)) rfl rfl rfl ly_46 rfl rfl rfl ?_
      obtain ⟨b_7, H⟩ := F_gd H
      refine ev_ga (p' := 68) (v := (gE (σ) 24 ((gI σ 46 8) : Int32).toNatClampNeg)) rfl rfl ly_24 rfl (gd_in b_7) rfl ?_
      obtain ⟨b_8, H⟩ := F_gd H
      refine ev_ga (p' := 69) (v := (gE (σ) 28 ((gE (σ) 24 ((gI σ 46 8) : Int32).toNatClampNeg) : Int32).toNatClampNeg)) rfl rfl ly_28 rfl (gd_in b_8) rfl ?_
      refine ev_x (i := .istore_n 3) (len := 1) (p' := 70) (s' := []) (l' := vz_s1 (vz_s1 (lv) 2 (.int (gE (σ) 28 ((gE (σ) 24 ((gI σ 46 7) : Int32).toNatClampNeg) : Int32).toNatClampNeg))) 3 (.int (gE (σ) 28 ((gE (σ) 24 ((gI σ 46 8) : Int32).toNatClampNeg) : Int32).toNatClampNeg))) rfl rfl rfl ?_
      refine ev_x (i := .iload_n 2) (len := 1) (p' := 71) (s' := [.int (gE (σ) 28 ((gE (σ) 24 ((gI σ 46 7) : Int32).toNatClampNeg) : Int32).toNatClampNeg)]) rfl rfl (ld_i (vg_o (i := 3) (v := .int (gE (σ) 28 ((gE (σ) 24 ((gI σ 46 8) : Int32).toNatClampNeg) : Int32).toNatClampNeg)) (vg_s (lv) 2 (.int (gE (σ) 28 ((gE (σ) 24 ((gI σ 46 7) : Int32).toNatClampNeg) : Int32).toNatClampNeg))) (by decide) (Or.inl rfl))) ?_
      refine ev_x (i := .iload_n 3) (len := 1) (p' := 72) (s' := [.int (gE (σ) 28 ((gE (σ) 24 ((gI σ 46 8) : Int32).toNatClampNeg) : Int32).toNatClampNeg), .int (gE (σ) 28 ((gE (σ) 24 ((gI σ 46 7) : Int32).toNatClampNeg) : Int32).toNatClampNeg)]) rfl rfl (ld_i (vg_s (vz_s1 (lv) 2 (.int (gE (σ) 28 ((gE (σ) 24 ((gI σ 46 7) : Int32).toNatClampNeg) : Int32).toNatClampNeg))) 3 (.int (gE (σ) 28 ((gE (σ) 24 ((gI σ 46 8) : Int32).toNatClampNeg) : Int32).toNatClampNeg)))) ?_
      refine F_if H (fun c_9 H => ?_) (fun c_9 H => ?_)
      · refine ev_b2 (t := 84) (p' := 84) rfl rfl rfl (if_pos c_9) ?_
        exact J_82_84_ok (d := d) (Or.inr rfl) (vg_o (i := 3) (v := .int (gE (σ) 28 ((gE (σ) 24 ((gI σ 46 8) : Int32).toNatClampNeg) : Int32).toNatClampNeg)) (vg_o (i := 2) (v := .int (gE (σ) 28 ((gE (σ) 24 ((gI σ 46 7) : Int32).toNatClampNeg) : Int32).toNatClampNeg)) g_0 (by decide) (Or.inl rfl)) (by decide) (Or.inl rfl)) (nb_s1 (nb_s1 hnb rfl) rfl) hr_42_3 hr_42_4 hr_46_2 hr_46_3 H
      · refine ev_b2 (t := 84) (p' := 75) rfl rfl rfl (if_neg c_9) ?_
        refine ev_x (i := .iload_n 3) (len := 1) (p' := 76) (s' := [.int (gE (σ) 28 ((gE (σ) 24 ((gI σ 46 8) : Int32).toNatClampNeg) : Int32).toNatClampNeg)]) rfl rfl (ld_i (vg_s (vz_s1 (lv) 2 (.int (gE (σ) 28 ((gE (σ) 24 ((gI σ 46 7) : Int32).toNatClampNeg) : Int32).toNatClampNeg))) 3 (.int (gE (σ) 28 ((gE (σ) 24 ((gI σ 46 8) : Int32).toNatClampNeg) : Int32).toNatClampNeg)))) ?_
        refine ev_x (i := .iload_n 2) (len := 1) (p' := 77) (s' := [.int (gE (σ) 28 ((gE (σ) 24 ((gI σ 46 7) : Int32).toNatClampNeg) : Int32).toNatClampNeg), .int (gE (σ) 28 ((gE (σ) 24 ((gI σ 46 8) : Int32).toNatClampNeg) : Int32).toNatClampNeg)]) rfl rfl (ld_i (vg_o (i := 3) (v := .int (gE (σ) 28 ((gE (σ) 24 ((gI σ 46 8) : Int32).toNatClampNeg) : Int32).toNatClampNeg)) (vg_s (lv) 2 (.int (gE (σ) 28 ((gE (σ) 24 ((gI σ 46 7) : Int32).toNatClampNeg) : Int32).toNatClampNeg))) (by decide) (Or.inl rfl))) ?_
        refine ev_x (i := .isub) (len := 1) (p' := 78) (s' := [.int ((gE (σ) 28 ((gE (σ) 24 ((gI σ 46 8) : Int32).toNatClampNeg) : Int32).toNatClampNeg) - (gE (σ) 28 ((gE (σ) 24 ((gI σ 46 7) : Int32).toNatClampNeg) : Int32).toNatClampNeg))]) rfl rfl rfl ?_
        refine ev_x (i := .sipush 10000) (len := 3) (p' := 81) (s' := [.int 10000, .int ((gE (σ) 28 ((gE (σ) 24 ((gI σ 46 8) : Int32).toNatClampNeg) : Int32).toNatClampNeg) - (gE (σ) 28 ((gE (σ) 24 ((gI σ 46 7) : Int32).toNatClampNeg) : Int32).toNatClampNeg))]) rfl rfl rfl ?_
        refine F_if H (fun c_10 H => ?_) (fun c_10 H => ?_)
        · refine ev_b2 (t := 103) (p' := 103) rfl rfl rfl (if_pos c_10) ?_
          refine ev_x (i := .iload_n 2) (len := 1) (p' := 104) (s' := [.int (gE (σ) 28 ((gE (σ) 24 ((gI σ 46 7) : Int32).toNatClampNeg) : Int32).toNatClampNeg)]) rfl rfl (ld_i (vg_o (i := 3) (v := .int (gE (σ) 28 ((gE (σ) 24 ((gI σ 46 8) : Int32).toNatClampNeg) : Int32).toNatClampNeg)) (vg_s (lv) 2 (.int (gE (σ) 28 ((gE (σ) 24 ((gI σ 46 7) : Int32).toNatClampNeg) : Int32).toNatClampNeg))) (by decide) (Or.inl rfl))) ?_
          refine ev_x (i := .istore 4) (len := 2) (p' := 106) (s' := []) (l' := vz_s1 (vz_s1 (vz_s1 (lv) 2 (.int (gE (σ) 28 ((gE (σ) 24 ((gI σ 46 7) : Int32).toNatClampNeg) : Int32).toNatClampNeg))) 3 (.int (gE (σ) 28 ((gE (σ) 24 ((gI σ 46 8) : Int32).toNatClampNeg) : Int32).toNatClampNeg))) 4 (.int (gE (σ) 28 ((gE (σ) 24 ((gI σ 46 7) : Int32).toNatClampNeg) : Int32).toNatClampNeg))) rfl rfl rfl ?_
          refine ev_x (i := .aload_n 0) (len := 1) (p' := 107) (s' := [.ref 46]) rfl rfl (ld_a (vg_o (i := 4) (v := .int (gE (σ) 28 ((gE (σ) 24 ((gI σ 46 7) : Int32).toNatClampNeg) : Int32).toNatClampNeg)) (vg_o (i := 3) (v := .int (gE (σ) 28 ((gE (σ) 24 ((gI σ 46 8) : Int32).toNatClampNeg) : Int32).toNatClampNeg)) (vg_o (i := 2) (v := .int (gE (σ) 28 ((gE (σ) 24 ((gI σ 46 7) : Int32).toNatClampNeg) : Int32).toNatClampNeg)) g_0 (by decide) (Or.inl rfl)) (by decide) (Or.inl rfl)) (by decide) (Or.inl rfl))) ?_
          refine ev_gi (p' := 110) (v := (gI σ 46 9)) rfl rfl rfl ly_46 rfl rfl rfl ?_
          refine F_if H (fun c_11 H => ?_) (fun c_11 H => ?_)
          · refine ev_b0 (t := 181) (p' := 181) rfl rfl rfl (if_pos c_11) ?_
            refine ev_x (i := .aload_n 0) (len := 1) (p' := 182) (s' := [.ref 46]) rfl rfl (ld_a (vg_o (i := 4) (v := .int (gE (σ) 28 ((gE (σ) 24 ((gI σ 46 7) : Int32).toNatClampNeg) : Int32).toNatClampNeg)) (vg_o (i := 3) (v := .int (gE (σ) 28 ((gE (σ) 24 ((gI σ 46 8) : Int32).toNatClampNeg) : Int32).toNatClampNeg)) (vg_o (i := 2) (v := .int (gE (σ) 28 ((gE (σ) 24 ((gI σ 46 7) : Int32).toNatClampNeg) : Int32).toNatClampNeg)) g_0 (by decide) (Or.inl rfl)) (by decide) (Or.inl rfl)) (by decide) (Or.inl rfl))) ?_
            refine ev_x (i := .iload_n 2) (len := 1) (p' := 183) (s' := [.int (gE (σ) 28 ((gE (σ) 24 ((gI σ 46 7) : Int32).toNatClampNeg) : Int32).toNatClampNeg), .ref 46]) rfl rfl (ld_i (vg_o (i := 4) (v := .int (gE (σ) 28 ((gE (σ) 24 ((gI σ 46 7) : Int32).toNatClampNeg) : Int32).toNatClampNeg)) (vg_o (i := 3) (v := .int (gE (σ) 28 ((gE (σ) 24 ((gI σ 46 8) : Int32).toNatClampNeg) : Int32).toNatClampNeg)) (vg_s (lv) 2 (.int (gE (σ) 28 ((gE (σ) 24 ((gI σ 46 7) : Int32).toNatClampNeg) : Int32).toNatClampNeg))) (by decide) (Or.inl rfl)) (by decide) (Or.inl rfl))) ?_
            refine ev_x (i := .iload_n 3) (len := 1) (p' := 184) (s' := [.int (gE (σ) 28 ((gE (σ) 24 ((gI σ 46 8) : Int32).toNatClampNeg) : Int32).toNatClampNeg), .int (gE (σ) 28 ((gE (σ) 24 ((gI σ 46 7) : Int32).toNatClampNeg) : Int32).toNatClampNeg), .ref 46]) rfl rfl (ld_i (vg_o (i := 4) (v := .int (gE (σ) 28 ((gE (σ) 24 ((gI σ 46 7) : Int32).toNatClampNeg) : Int32).toNatClampNeg)) (vg_s (vz_s1 (lv) 2 (.int (gE (σ) 28 ((gE (σ) 24 ((gI σ 46 7) : Int32).toNatClampNeg) : Int32).toNatClampNeg))) 3 (.int (gE (σ) 28 ((gE (σ) 24 ((gI σ 46 8) : Int32).toNatClampNeg) : Int32).toNatClampNeg))) (by decide) (Or.inl rfl))) ?_
            refine ev_x (i := .iload 4) (len := 2) (p' := 186) (s' := [.int (gE (σ) 28 ((gE (σ) 24 ((gI σ 46 7) : Int32).toNatClampNeg) : Int32).toNatClampNeg), .int (gE (σ) 28 ((gE (σ) 24 ((gI σ 46 8) : Int32).toNatClampNeg) : Int32).toNatClampNeg), .int (gE (σ) 28 ((gE (σ) 24 ((gI σ 46 7) : Int32).toNatClampNeg) : Int32).toNatClampNeg), .ref 46]) rfl rfl (ld_i (vg_s (vz_s1 (vz_s1 (lv) 2 (.int (gE (σ) 28 ((gE (σ) 24 ((gI σ 46 7) : Int32).toNatClampNeg) : Int32).toNatClampNeg))) 3 (.int (gE (σ) 28 ((gE (σ) 24 ((gI σ 46 8) : Int32).toNatClampNeg) : Int32).toNatClampNeg))) 4 (.int (gE (σ) 28 ((gE (σ) 24 ((gI σ 46 7) : Int32).toNatClampNeg) : Int32).toNatClampNeg)))) ?_
            obtain ⟨p_12, G_12, H⟩ := F_bd H
            refine ev_cv (d := d + 4) (As := [.int (gE (σ) 28 ((gE (σ) 24 ((gI σ 46 7) : Int32).toNatClampNeg) : Int32).toNatClampNeg), .int (gE (σ) 28 ((gE (σ) 24 ((gI σ 46 8) : Int32).toNatClampNeg) : Int32).toNatClampNeg), .int (gE (σ) 28 ((gE (σ) 24 ((gI σ 46 7) : Int32).toNatClampNeg) : Int32).toNatClampNeg)]) (a := 46) (p' := 189) rfl rfl rfl ly_46 rfl rfl rfl rfl rfl (nb_s1 (nb_s1 (nb_s1 hnb rfl) rfl) rfl) rfl (F_81_ok (d := d + 2) (ht := (Or.inr rfl)) (hr_46_2 := hr_46_2) (hr_46_3 := hr_46_3) G_12) ?_
            refine ev_st (st' := []) rfl ?_
            have e_12 := F_81_R G_12
            refine ev_x (i := .iconst 0) (len := 1) (p' := 190) (s' := [.int 0]) rfl rfl rfl ?_
            obtain rfl := Option.some.inj H
            exact ev_iret rfl rfl rfl rfl
          · refine ev_b0 (t := 181) (p' := 113) rfl rfl rfl (if_neg c_11) ?_
            refine ev_x (i := .aload_n 0) (len := 1) (p' := 114) (s' := [.ref 46]) rfl rfl (ld_a (vg_o (i := 4) (v := .int (gE (σ) 28 ((gE (σ) 24 ((gI σ 46 7) : Int32).toNatClampNeg) : Int32).toNatClampNeg)) (vg_o (i := 3) (v := .int (gE (σ) 28 ((gE (σ) 24 ((gI σ 46 8) : Int32).toNatClampNeg) : Int32).toNatClampNeg)) (vg_o (i := 2) (v := .int (gE (σ) 28 ((gE (σ) 24 ((gI σ 46 7) : Int32).toNatClampNeg) : Int32).toNatClampNeg)) g_0 (by decide) (Or.inl rfl)) (by decide) (Or.inl rfl)) (by decide) (Or.inl rfl))) ?_
            refine ev_x (i := .aload_n 0) (len := 1) (p' := 115) (s' := [.ref 46, .ref 46]) rfl rfl (ld_a (vg_o (i := 4) (v := .int (gE (σ) 28 ((gE (σ) 24 ((gI σ 46 7) : Int32).toNatClampNeg) : Int32).toNatClampNeg)) (vg_o (i := 3) (v := .int (gE (σ) 28 ((gE (σ) 24 ((gI σ 46 8) : Int32).toNatClampNeg) : Int32).toNatClampNeg)) (vg_o (i := 2) (v := .int (gE (σ) 28 ((gE (σ) 24 ((gI σ 46 7) : Int32).toNatClampNeg) : Int32).toNatClampNeg)) g_0 (by decide) (Or.inl rfl)) (by decide) (Or.inl rfl)) (by decide) (Or.inl rfl))) ?_
            refine ev_gi (p' := 118) (v := (gI σ 46 9)) rfl rfl rfl ly_46 rfl rfl rfl ?_
            obtain ⟨p_13, G_13, H⟩ := F_bd H
            refine ev_cv (d := d + 4) (As := [.int (gI σ 46 9)]) (a := 46) (p' := 121) rfl rfl rfl ly_46 rfl rfl rfl rfl rfl (nb_s1 (nb_s1 (nb_s1 hnb rfl) rfl) rfl) rfl (F_83_ok (d := d + 0) (ht := (Or.inr rfl)) (hr_42_3 := hr_42_3) (hr_42_4 := hr_42_4) (hr_46_3 := hr_46_3) G_13) ?_
            refine ev_st (st' := [.int p_13.1]) rfl ?_
            have e_13 := F_83_R G_13
            refine ev_x (i := .istore_n 1) (len := 1) (p' := 122) (s' := []) (l' := vz_s1 (vz_s1 (vz_s1 (vz_s1 (lv) 2 (.int (gE (σ) 28 ((gE (σ) 24 ((gI σ 46 7) : Int32).toNatClampNeg) : Int32).toNatClampNeg))) 3 (.int (gE (σ) 28 ((gE (σ) 24 ((gI σ 46 8) : Int32).toNatClampNeg) : Int32).toNatClampNeg))) 4 (.int (gE (σ) 28 ((gE (σ) 24 ((gI σ 46 7) : Int32).toNatClampNeg) : Int32).toNatClampNeg))) 1 (.int p_13.1)) rfl rfl rfl ?_
            refine ev_x (i := .iload_n 1) (len := 1) (p' := 123) (s' := [.int p_13.1]) rfl rfl (ld_i (vg_s (vz_s1 (vz_s1 (vz_s1 (lv) 2 (.int (gE (σ) 28 ((gE (σ) 24 ((gI σ 46 7) : Int32).toNatClampNeg) : Int32).toNatClampNeg))) 3 (.int (gE (σ) 28 ((gE (σ) 24 ((gI σ 46 8) : Int32).toNatClampNeg) : Int32).toNatClampNeg))) 4 (.int (gE (σ) 28 ((gE (σ) 24 ((gI σ 46 7) : Int32).toNatClampNeg) : Int32).toNatClampNeg))) 1 (.int p_13.1))) ?_
            refine F_if H (fun c_14 H => ?_) (fun c_14 H => ?_)
            · refine ev_b0 (t := 128) (p' := 128) rfl rfl rfl (if_pos c_14) ?_
              refine ev_x (i := .aload_n 0) (len := 1) (p' := 129) (s' := [.ref 46]) rfl rfl (ld_a (vg_o (i := 1) (v := .int p_13.1) (vg_o (i := 4) (v := .int (gE (σ) 28 ((gE (σ) 24 ((gI σ 46 7) : Int32).toNatClampNeg) : Int32).toNatClampNeg)) (vg_o (i := 3) (v := .int (gE (σ) 28 ((gE (σ) 24 ((gI σ 46 8) : Int32).toNatClampNeg) : Int32).toNatClampNeg)) (vg_o (i := 2) (v := .int (gE (σ) 28 ((gE (σ) 24 ((gI σ 46 7) : Int32).toNatClampNeg) : Int32).toNatClampNeg)) g_0 (by decide) (Or.inl rfl)) (by decide) (Or.inl rfl)) (by decide) (Or.inl rfl)) (by decide) (Or.inl rfl))) ?_
              refine ev_gr (p' := 132) (v := 21) rfl rfl rfl ly_46 rfl rfl ((congrFun (congrFun e_13 46) 3).trans hr_46_3) ?_
              refine ev_gc (p' := 135) (v := 28) rfl rfl rfl ly_21 rfl rfl ?_
              refine ev_x (i := .aload_n 0) (len := 1) (p' := 136) (s' := [.ref 46, .ref 28]) rfl rfl (ld_a (vg_o (i := 1) (v := .int p_13.1) (vg_o (i := 4) (v := .int (gE (σ) 28 ((gE (σ) 24 ((gI σ 46 7) : Int32).toNatClampNeg) : Int32).toNatClampNeg)) (vg_o (i := 3) (v := .int (gE (σ) 28 ((gE (σ) 24 ((gI σ 46 8) : Int32).toNatClampNeg) : Int32).toNatClampNeg)) (vg_o (i := 2) (v := .int (gE (σ) 28 ((gE (σ) 24 ((gI σ 46 7) : Int32).toNatClampNeg) : Int32).toNatClampNeg)) g_0 (by decide) (Or.inl rfl)) (by decide) (Or.inl rfl)) (by decide) (Or.inl rfl)) (by decide) (Or.inl rfl))) ?_
              refine ev_gr (p' := 139) (v := 21) rfl rfl rfl ly_46 rfl rfl ((congrFun (congrFun e_13 46) 3).trans hr_46_3) ?_
              refine ev_gc (p' := 142) (v := 24) rfl rfl rfl ly_21 rfl rfl ?_
              refine ev_x (i := .aload_n 0) (len := 1) (p' := 143) (s' := [.ref 46, .ref 24, .ref 28]) rfl rfl (ld_a (vg_o (i := 1) (v := .int p_13.1) (vg_o (i := 4) (v := .int (gE (σ) 28 ((gE (σ) 24 ((gI σ 46 7) : Int32).toNatClampNeg) : Int32).toNatClampNeg)) (vg_o (i := 3) (v := .int (gE (σ) 28 ((gE (σ) 24 ((gI σ 46 8) : Int32).toNatClampNeg) : Int32).toNatClampNeg)) (vg_o (i := 2) (v := .int (gE (σ) 28 ((gE (σ) 24 ((gI σ 46 7) : Int32).toNatClampNeg) : Int32).toNatClampNeg)) g_0 (by decide) (Or.inl rfl)) (by decide) (Or.inl rfl)) (by decide) (Or.inl rfl)) (by decide) (Or.inl rfl))) ?_
              refine ev_gi (p' := 146) (v := (gI p_13.2 46 9)) rfl rfl rfl ly_46 rfl rfl rfl ?_
              obtain ⟨b_15, H⟩ := F_gd H
              refine ev_ga (p' := 147) (v := (gE (p_13.2) 24 ((gI p_13.2 46 9) : Int32).toNatClampNeg)) rfl rfl ly_24 rfl (gd_in b_15) rfl ?_
              obtain ⟨b_16, H⟩ := F_gd H
              refine ev_ga (p' := 148) (v := (gE (p_13.2) 28 ((gE (p_13.2) 24 ((gI p_13.2 46 9) : Int32).toNatClampNeg) : Int32).toNatClampNeg)) rfl rfl ly_28 rfl (gd_in b_16) rfl ?_
              refine ev_x (i := .istore 4) (len := 2) (p' := 150) (s' := []) (l' := vz_s1 (vz_s1 (vz_s1 (vz_s1 (vz_s1 (lv) 2 (.int (gE (σ) 28 ((gE (σ) 24 ((gI σ 46 7) : Int32).toNatClampNeg) : Int32).toNatClampNeg))) 3 (.int (gE (σ) 28 ((gE (σ) 24 ((gI σ 46 8) : Int32).toNatClampNeg) : Int32).toNatClampNeg))) 4 (.int (gE (σ) 28 ((gE (σ) 24 ((gI σ 46 7) : Int32).toNatClampNeg) : Int32).toNatClampNeg))) 1 (.int p_13.1)) 4 (.int (gE (p_13.2) 28 ((gE (p_13.2) 24 ((gI p_13.2 46 9) : Int32).toNatClampNeg) : Int32).toNatClampNeg))) rfl rfl rfl ?_
              refine ev_x (i := .iload 4) (len := 2) (p' := 152) (s' := [.int (gE (p_13.2) 28 ((gE (p_13.2) 24 ((gI p_13.2 46 9) : Int32).toNatClampNeg) : Int32).toNatClampNeg)]) rfl rfl (ld_i (vg_s (vz_s1 (vz_s1 (vz_s1 (vz_s1 (lv) 2 (.int (gE (σ) 28 ((gE (σ) 24 ((gI σ 46 7) : Int32).toNatClampNeg) : Int32).toNatClampNeg))) 3 (.int (gE (σ) 28 ((gE (σ) 24 ((gI σ 46 8) : Int32).toNatClampNeg) : Int32).toNatClampNeg))) 4 (.int (gE (σ) 28 ((gE (σ) 24 ((gI σ 46 7) : Int32).toNatClampNeg) : Int32).toNatClampNeg))) 1 (.int p_13.1)) 4 (.int (gE (p_13.2) 28 ((gE (p_13.2) 24 ((gI p_13.2 46 9) : Int32).toNatClampNeg) : Int32).toNatClampNeg)))) ?_
              refine ev_x (i := .iload_n 2) (len := 1) (p' := 153) (s' := [.int (gE (σ) 28 ((gE (σ) 24 ((gI σ 46 7) : Int32).toNatClampNeg) : Int32).toNatClampNeg), .int (gE (p_13.2) 28 ((gE (p_13.2) 24 ((gI p_13.2 46 9) : Int32).toNatClampNeg) : Int32).toNatClampNeg)]) rfl rfl (ld_i (vg_o (i := 4) (v := .int (gE (p_13.2) 28 ((gE (p_13.2) 24 ((gI p_13.2 46 9) : Int32).toNatClampNeg) : Int32).toNatClampNeg)) (vg_o (i := 1) (v := .int p_13.1) (vg_o (i := 4) (v := .int (gE (σ) 28 ((gE (σ) 24 ((gI σ 46 7) : Int32).toNatClampNeg) : Int32).toNatClampNeg)) (vg_o (i := 3) (v := .int (gE (σ) 28 ((gE (σ) 24 ((gI σ 46 8) : Int32).toNatClampNeg) : Int32).toNatClampNeg)) (vg_s (lv) 2 (.int (gE (σ) 28 ((gE (σ) 24 ((gI σ 46 7) : Int32).toNatClampNeg) : Int32).toNatClampNeg))) (by decide) (Or.inl rfl)) (by decide) (Or.inl rfl)) (by decide) (Or.inl rfl)) (by decide) (Or.inl rfl))) ?_
              refine F_if H (fun c_17 H => ?_) (fun c_17 H => ?_)
              · refine ev_b2 (t := 162) (p' := 162) rfl rfl rfl (if_pos c_17) ?_
                exact J_82_162_ok (d := d) (Or.inr rfl) (vg_o (i := 4) (v := .int (gE (p_13.2) 28 ((gE (p_13.2) 24 ((gI p_13.2 46 9) : Int32).toNatClampNeg) : Int32).toNatClampNeg)) (vg_o (i := 1) (v := .int p_13.1) (vg_o (i := 4) (v := .int (gE (σ) 28 ((gE (σ) 24 ((gI σ 46 7) : Int32).toNatClampNeg) : Int32).toNatClampNeg)) (vg_o (i := 3) (v := .int (gE (σ) 28 ((gE (σ) 24 ((gI σ 46 8) : Int32).toNatClampNeg) : Int32).toNatClampNeg)) (vg_o (i := 2) (v := .int (gE (σ) 28 ((gE (σ) 24 ((gI σ 46 7) : Int32).toNatClampNeg) : Int32).toNatClampNeg)) g_0 (by decide) (Or.inl rfl)) (by decide) (Or.inl rfl)) (by decide) (Or.inl rfl)) (by decide) (Or.inl rfl)) (by decide) (Or.inl rfl)) (nb_s1 (nb_s1 (nb_s1 (nb_s1 (nb_s1 hnb rfl) rfl) rfl) rfl) rfl) ((congrFun (congrFun e_13 42) 3).trans hr_42_3) ((congrFun (congrFun e_13 42) 4).trans hr_42_4) ((congrFun (congrFun e_13 46) 2).trans hr_46_2) ((congrFun (congrFun e_13 46) 3).trans hr_46_3) H
              · refine ev_b2 (t := 162) (p' := 156) rfl rfl rfl (if_neg c_17) ?_
                refine ev_x (i := .iload 4) (len := 2) (p' := 158) (s' := [.int (gE (p_13.2) 28 ((gE (p_13.2) 24 ((gI p_13.2 46 9) : Int32).toNatClampNeg) : Int32).toNatClampNeg)]) rfl rfl (ld_i (vg_s (vz_s1 (vz_s1 (vz_s1 (vz_s1 (lv) 2 (.int (gE (σ) 28 ((gE (σ) 24 ((gI σ 46 7) : Int32).toNatClampNeg) : Int32).toNatClampNeg))) 3 (.int (gE (σ) 28 ((gE (σ) 24 ((gI σ 46 8) : Int32).toNatClampNeg) : Int32).toNatClampNeg))) 4 (.int (gE (σ) 28 ((gE (σ) 24 ((gI σ 46 7) : Int32).toNatClampNeg) : Int32).toNatClampNeg))) 1 (.int p_13.1)) 4 (.int (gE (p_13.2) 28 ((gE (p_13.2) 24 ((gI p_13.2 46 9) : Int32).toNatClampNeg) : Int32).toNatClampNeg)))) ?_
                refine ev_x (i := .iload_n 3) (len := 1) (p' := 159) (s' := [.int (gE (σ) 28 ((gE (σ) 24 ((gI σ 46 8) : Int32).toNatClampNeg) : Int32).toNatClampNeg), .int (gE (p_13.2) 28 ((gE (p_13.2) 24 ((gI p_13.2 46 9) : Int32).toNatClampNeg) : Int32).toNatClampNeg)]) rfl rfl (ld_i (vg_o (i := 4) (v := .int (gE (p_13.2) 28 ((gE (p_13.2) 24 ((gI p_13.2 46 9) : Int32).toNatClampNeg) : Int32).toNatClampNeg)) (vg_o (i := 1) (v := .int p_13.1) (vg_o (i := 4) (v := .int (gE (σ) 28 ((gE (σ) 24 ((gI σ 46 7) : Int32).toNatClampNeg) : Int32).toNatClampNeg)) (vg_s (vz_s1 (lv) 2 (.int (gE (σ) 28 ((gE (σ) 24 ((gI σ 46 7) : Int32).toNatClampNeg) : Int32).toNatClampNeg))) 3 (.int (gE (σ) 28 ((gE (σ) 24 ((gI σ 46 8) : Int32).toNatClampNeg) : Int32).toNatClampNeg))) (by decide) (Or.inl rfl)) (by decide) (Or.inl rfl)) (by decide) (Or.inl rfl))) ?_
                refine F_if H (fun c_18 H => ?_) (fun c_18 H => ?_)
                · refine ev_b2 (t := 181) (p' := 181) rfl rfl rfl (if_pos c_18) ?_
                  refine ev_x (i := .aload_n 0) (len := 1) (p' := 182) (s' := [.ref 46]) rfl rfl (ld_a (vg_o (i := 4) (v := .int (gE (p_13.2) 28 ((gE (p_13.2) 24 ((gI p_13.2 46 9) : Int32).toNatClampNeg) : Int32).toNatClampNeg)) (vg_o (i := 1) (v := .int p_13.1) (vg_o (i := 4) (v := .int (gE (σ) 28 ((gE (σ) 24 ((gI σ 46 7) : Int32).toNatClampNeg) : Int32).toNatClampNeg)) (vg_o (i := 3) (v := .int (gE (σ) 28 ((gE (σ) 24 ((gI σ 46 8) : Int32).toNatClampNeg) : Int32).toNatClampNeg)) (vg_o (i := 2) (v := .int (gE (σ) 28 ((gE (σ) 24 ((gI σ 46 7) : Int32).toNatClampNeg) : Int32).toNatClampNeg)) g_0 (by decide) (Or.inl rfl)) (by decide) (Or.inl rfl)) (by decide) (Or.inl rfl)) (by decide) (Or.inl rfl)) (by decide) (Or.inl rfl))) ?_
                  refine ev_x (i := .iload_n 2) (len := 1) (p' := 183) (s' := [.int (gE (σ) 28 ((gE (σ) 24 ((gI σ 46 7) : Int32).toNatClampNeg) : Int32).toNatClampNeg), .ref 46]) rfl rfl (ld_i (vg_o (i := 4) (v := .int (gE (p_13.2) 28 ((gE (p_13.2) 24 ((gI p_13.2 46 9) : Int32).toNatClampNeg) : Int32).toNatClampNeg)) (vg_o (i := 1) (v := .int p_13.1) (vg_o (i := 4) (v := .int (gE (σ) 28 ((gE (σ) 24 ((gI σ 46 7) : Int32).toNatClampNeg) : Int32).toNatClampNeg)) (vg_o (i := 3) (v := .int (gE (σ) 28 ((gE (σ) 24 ((gI σ 46 8) : Int32).toNatClampNeg) : Int32).toNatClampNeg)) (vg_s (lv) 2 (.int (gE (σ) 28 ((gE (σ) 24 ((gI σ 46 7) : Int32).toNatClampNeg) : Int32).toNatClampNeg))) (by decide) (Or.inl rfl)) (by decide) (Or.inl rfl)) (by decide) (Or.inl rfl)) (by decide) (Or.inl rfl))) ?_
                  refine ev_x (i := .iload_n 3) (len := 1) (p' := 184) (s' := [.int (gE (σ) 28 ((gE (σ) 24 ((gI σ 46 8) : Int32).toNatClampNeg) : Int32).toNatClampNeg), .int (gE (σ) 28 ((gE (σ) 24 ((gI σ 46 7) : Int32).toNatClampNeg) : Int32).toNatClampNeg), .ref 46]) rfl rfl (ld_i (vg_o (i := 4) (v := .int (gE (p_13.2) 28 ((gE (p_13.2) 24 ((gI p_13.2 46 9) : Int32).toNatClampNeg) : Int32).toNatClampNeg)) (vg_o (i := 1) (v := .int p_13.1) (vg_o (i := 4) (v := .int (gE (σ) 28 ((gE (σ) 24 ((gI σ 46 7) : Int32).toNatClampNeg) : Int32).toNatClampNeg)) (vg_s (vz_s1 (lv) 2 (.int (gE (σ) 28 ((gE (σ) 24 ((gI σ 46 7) : Int32).toNatClampNeg) : Int32).toNatClampNeg))) 3 (.int (gE (σ) 28 ((gE (σ) 24 ((gI σ 46 8) : Int32).toNatClampNeg) : Int32).toNatClampNeg))) (by decide) (Or.inl rfl)) (by decide) (Or.inl rfl)) (by decide) (Or.inl rfl))) ?_
                  refine ev_x (i := .iload 4) (len := 2) (p' := 186) (s' := [.int (gE (p_13.2) 28 ((gE (p_13.2) 24 ((gI p_13.2 46 9) : Int32).toNatClampNeg) : Int32).toNatClampNeg), .int (gE (σ) 28 ((gE (σ) 24 ((gI σ 46 8) : Int32).toNatClampNeg) : Int32).toNatClampNeg), .int (gE (σ) 28 ((gE (σ) 24 ((gI σ 46 7) : Int32).toNatClampNeg) : Int32).toNatClampNeg), .ref 46]) rfl rfl (ld_i (vg_s (vz_s1 (vz_s1 (vz_s1 (vz_s1 (lv) 2 (.int (gE (σ) 28 ((gE (σ) 24 ((gI σ 46 7) : Int32).toNatClampNeg) : Int32).toNatClampNeg))) 3 (.int (gE (σ) 28 ((gE (σ) 24 ((gI σ 46 8) : Int32).toNatClampNeg) : Int32).toNatClampNeg))) 4 (.int (gE (σ) 28 ((gE (σ) 24 ((gI σ 46 7) : Int32).toNatClampNeg) : Int32).toNatClampNeg))) 1 (.int p_13.1)) 4 (.int (gE (p_13.2) 28 ((gE (p_13.2) 24 ((gI p_13.2 46 9) : Int32).toNatClampNeg) : Int32).toNatClampNeg)))) ?_
                  obtain ⟨p_19, G_19, H⟩ := F_bd H
                  refine ev_cv (d := d + 4) (As := [.int (gE (σ) 28 ((gE (σ) 24 ((gI σ 46 7) : Int32).toNatClampNeg) : Int32).toNatClampNeg), .int (gE (σ) 28 ((gE (σ) 24 ((gI σ 46 8) : Int32).toNatClampNeg) : Int32).toNatClampNeg), .int (gE (p_13.2) 28 ((gE (p_13.2) 24 ((gI p_13.2 46 9) : Int32).toNatClampNeg) : Int32).toNatClampNeg)]) (a := 46) (p' := 189) rfl rfl rfl ly_46 rfl rfl rfl rfl rfl (nb_s1 (nb_s1 (nb_s1 (nb_s1 (nb_s1 hnb rfl) rfl) rfl) rfl) rfl) rfl (F_81_ok (d := d + 2) (ht := (Or.inr rfl)) (hr_46_2 := ((congrFun (congrFun e_13 46) 2).trans hr_46_2)) (hr_46_3 := ((congrFun (congrFun e_13 46) 3).trans hr_46_3)) G_19) ?_
                  refine ev_st (st' := []) rfl ?_
                  have e_19 := F_81_R G_19
                  refine ev_x (i := .iconst 0) (len := 1) (p' := 190) (s' := [.int 0]) rfl rfl rfl ?_
                  obtain rfl := Option.some.inj H
                  exact ev_iret rfl rfl rfl rfl
                · refine ev_b2 (t := 181) (p' := 162) rfl rfl rfl (if_neg c_18) ?_
                  exact J_82_162_ok (d := d) (Or.inr rfl) (vg_o (i := 4) (v := .int (gE (p_13.2) 28 ((gE (p_13.2) 24 ((gI p_13.2 46 9) : Int32).toNatClampNeg) : Int32).toNatClampNeg)) (vg_o (i := 1) (v := .int p_13.1) (vg_o (i := 4) (v := .int (gE (σ) 28 ((gE (σ) 24 ((gI σ 46 7) : Int32).toNatClampNeg) : Int32).toNatClampNeg)) (vg_o (i := 3) (v := .int (gE (σ) 28 ((gE (σ) 24 ((gI σ 46 8) : Int32).toNatClampNeg) : Int32).toNatClampNeg)) (vg_o (i := 2) (v := .int (gE (σ) 28 ((gE (σ) 24 ((gI σ 46 7) : Int32).toNatClampNeg) : Int32).toNatClampNeg)) g_0 (by decide) (Or.inl rfl)) (by decide) (Or.inl rfl)) (by decide) (Or.inl rfl)) (by decide) (Or.inl rfl)) (by decide) (Or.inl rfl)) (nb_s1 (nb_s1 (nb_s1 (nb_s1 (nb_s1 hnb rfl) rfl) rfl) rfl) rfl) ((congrFun (congrFun e_13 42) 3).trans hr_42_3) ((congrFun (congrFun e_13 42) 4).trans hr_42_4) ((congrFun (congrFun e_13 46) 2).trans hr_46_2) ((congrFun (congrFun e_13 46) 3).trans hr_46_3) H
            · refine ev_b0 (t := 128) (p' := 126) rfl rfl rfl (if_neg c_14) ?_
              refine ev_x (i := .iload_n 1) (len := 1) (p' := 127) (s' := [.int p_13.1]) rfl rfl (ld_i (vg_s (vz_s1 (vz_s1 (vz_s1 (lv) 2 (.int (gE (σ) 28 ((gE (σ) 24 ((gI σ 46 7) : Int32).toNatClampNeg) : Int32).toNatClampNeg))) 3 (.int (gE (σ) 28 ((gE (σ) 24 ((gI σ 46 8) : Int32).toNatClampNeg) : Int32).toNatClampNeg))) 4 (.int (gE (σ) 28 ((gE (σ) 24 ((gI σ 46 7) : Int32).toNatClampNeg) : Int32).toNatClampNeg))) 1 (.int p_13.1))) ?_
              obtain rfl := Option.some.inj H
              exact ev_iret rfl rfl rfl rfl
        · refine ev_b2 (t := 103) (p' := 84) rfl rfl rfl (if_neg c_10) ?_
          exact J_82_84_ok (d := d) (Or.inr rfl) (vg_o (i := 3) (v := .int (gE (σ) 28 ((gE (σ) 24 ((gI σ 46 8) : Int32).toNatClampNeg) : Int32).toNatClampNeg)) (vg_o (i := 2) (v := .int (gE (σ) 28 ((gE (σ) 24 ((gI σ 46 7) : Int32).toNatClampNeg) : Int32).toNatClampNeg)) g_0 (by decide) (Or.inl rfl)) (by decide) (Or.inl rfl)) (nb_s1 (nb_s1 hnb rfl) rfl) hr_42_3 hr_42_4 hr_46_2 hr_46_3 H
    · refine ev_b0 (t := 28) (p' := 26) rfl rfl rfl (if_neg c_4) ?_
      refine ev_x (i := .iload_n 1) (len := 1) (p' := 27) (s' := [.int l_1]) rfl rfl (ld_i g_1) ?_
      obtain rfl := Option.some.inj H
      exact ev_iret rfl rfl rfl rfl
/-- GameText$Checker.finishesRange()I -/
def F_82 (N : Nat) (t : Nat) (σ : st_S) : Option (Int32 × st_S) :=
  (F_83 N t (gI σ 46 7) (σ)).bind fun p_1 =>
  if p_1.1 = 0 then
    (F_83 N t (gI p_1.2 46 8) (p_1.2)).bind fun p_3 =>
    J_82_22 N t p_3.1 (p_3.2)
  else
    J_82_22 N t p_1.1 (p_1.2)
set_option maxRecDepth 100000 in
theorem F_82_R {N : Nat} {t : Nat} {σ : st_S} {p : Int32 × st_S} (H : F_82 N t σ = some p) : gR p.2 = gR σ := by
  unfold F_82 at H
  obtain ⟨p_1, G_1, H⟩ := F_bd H
  refine F_if H (fun _ H => ?_) (fun _ H => ?_)
  · obtain ⟨p_3, G_3, H⟩ := F_bd H
    exact (((J_82_22_R H)).trans ((F_83_R G_3).trans ((F_83_R G_1).trans rfl)))
  · exact (((J_82_22_R H)).trans ((F_83_R G_1).trans rfl))
set_option maxHeartbeats 4000000 in
set_option maxRecDepth 100000 in
theorem F_82_ok {N d : Nat} {t : Nat} (ht : t = 4 ∨ t = 20) {σ : st_S} {p : Int32 × st_S} (hr_42_3 : gR σ 42 3 = t) (hr_42_4 : gR σ 42 4 = (t + 1)) (hr_46_2 : gR σ 46 2 = t) (hr_46_3 : gR σ 46 3 = (t + 1)) (H : F_82 N t σ = some p) : vz_ev P0 (d + 5) 82 0 (lv_args 0 [.ref 46]) [] (hp σ) (.inl (some (.int p.1)), hp p.2) := by
  unfold F_82 at H
  refine ev_x (i := .aload_n 0) (len := 1) (p' := 1) (s' := [.ref 46]) rfl rfl rfl ?_
  refine ev_x (i := .aload_n 0) (len := 1) (p' := 2) (s' := [.ref 46, .ref 46]) rfl rfl rfl ?_
  refine ev_gi (p' := 5) (v := (gI σ 46 7)) rfl rfl rfl ly_46 rfl rfl rfl ?_
  obtain ⟨p_1, G_1, H⟩ := F_bd H
  refine ev_cv (d := d + 4) (As := [.int (gI σ 46 7)]) (a := 46) (p' := 8) rfl rfl rfl ly_46 rfl rfl rfl rfl rfl rfl rfl (F_83_ok (d := d + 0) (ht := ht) (hr_42_3 := hr_42_3) (hr_42_4 := hr_42_4) (hr_46_3 := hr_46_3) G_1) ?_
  refine ev_st (st' := [.int p_1.1]) rfl ?_
  have e_1 := F_83_R G_1
  refine ev_x (i := .istore_n 1) (len := 1) (p' := 9) (s' := []) (l' := [(1, .int p_1.1), (0, .ref 46)]) rfl rfl rfl ?_
  refine ev_x (i := .iload_n 1) (len := 1) (p' := 10) (s' := [.int p_1.1]) rfl rfl rfl ?_
  refine F_if H (fun c_2 H => ?_) (fun c_2 H => ?_)
  · refine ev_b0 (t := 22) (p' := 13) rfl rfl rfl (if_neg (fun q => q c_2)) ?_
    refine ev_x (i := .aload_n 0) (len := 1) (p' := 14) (s' := [.ref 46]) rfl rfl rfl ?_
    refine ev_x (i := .aload_n 0) (len := 1) (p' := 15) (s' := [.ref 46, .ref 46]) rfl rfl rfl ?_
    refine ev_gi (p' := 18) (v := (gI p_1.2 46 8)) rfl rfl rfl ly_46 rfl rfl rfl ?_
    obtain ⟨p_3, G_3, H⟩ := F_bd H
    refine ev_cv (d := d + 4) (As := [.int (gI p_1.2 46 8)]) (a := 46) (p' := 21) rfl rfl rfl ly_46 rfl rfl rfl rfl rfl rfl rfl (F_83_ok (d := d + 0) (ht := ht) (hr_42_3 := ((congrFun (congrFun e_1 42) 3).trans hr_42_3)) (hr_42_4 := ((congrFun (congrFun e_1 42) 4).trans hr_42_4)) (hr_46_3 := ((congrFun (congrFun e_1 46) 3).trans hr_46_3)) G_3) ?_
    refine ev_st (st' := [.int p_3.1]) rfl ?_
    have e_3 := F_83_R G_3
    refine ev_x (i := .istore_n 1) (len := 1) (p' := 22) (s' := []) (l' := [(1, .int p_3.1), (0, .ref 46)]) rfl rfl rfl ?_
    exact J_82_22_ok (d := d) ht rfl rfl rfl ((congrFun (congrFun e_3 42) 3).trans ((congrFun (congrFun e_1 42) 3).trans hr_42_3)) ((congrFun (congrFun e_3 42) 4).trans ((congrFun (congrFun e_1 42) 4).trans hr_42_4)) ((congrFun (congrFun e_3 46) 2).trans ((congrFun (congrFun e_1 46) 2).trans hr_46_2)) ((congrFun (congrFun e_3 46) 3).trans ((congrFun (congrFun e_1 46) 3).trans hr_46_3)) H
  · refine ev_b0 (t := 22) (p' := 22) rfl rfl rfl (if_pos c_2) ?_
    exact J_82_22_ok (d := d) ht rfl rfl rfl ((congrFun (congrFun e_1 42) 3).trans hr_42_3) ((congrFun (congrFun e_1 42) 4).trans hr_42_4) ((congrFun (congrFun e_1 46) 2).trans hr_46_2) ((congrFun (congrFun e_1 46) 3).trans hr_46_3) H
/-- GameText$Checker.finishes()I -/
def F_67 (N : Nat) (t : Nat) (σ : st_S) : Option (Int32 × st_S) :=
  if aB (gI σ 46 5) (gN σ (t + 2)) then
  if (gE (σ) (t + 2) ((gI σ 46 5) : Int32).toNatClampNeg) = 27 then
    (F_68 N t (σ)).bind fun p_3 =>
    some (p_3.1, p_3.2)
  else
  if (gE (σ) (t + 2) ((gI σ 46 5) : Int32).toNatClampNeg) = 28 then
    if aB (gI σ 46 5) (gN σ (t + 4)) then
    if aB (gI σ 46 5) (gN σ (t + 5)) then
    (F_79 N (gE (σ) (t + 4) ((gI σ 46 5) : Int32).toNatClampNeg) (gE (σ) (t + 5) ((gI σ 46 5) : Int32).toNatClampNeg) 28 (gI σ t 9) (σ)).bind fun p_7 =>
    if aB (gI p_7 t 9) (gN p_7 (t + 14)) then
    some (0, st_i (st_i (st_e (p_7) (t + 14) (((gI p_7 t 9) : Int32).toNatClampNeg) (gI p_7 46 6)) t 9 ((gI p_7 t 9) + 1)) t 8 ((gI p_7 t 8) + 1))
    else none
    else none
    else none
  else
  if (gE (σ) (t + 2) ((gI σ 46 5) : Int32).toNatClampNeg) = 29 then
    if aB (gI σ 46 5) (gN σ (t + 6)) then
    if (gE (σ) (t + 6) ((gI σ 46 5) : Int32).toNatClampNeg) = 2 then
      (F_80 N t (σ)).bind fun p_12 =>
      some (p_12.1, p_12.2)
    else
      (F_82 N t (σ)).bind fun p_13 =>
      some (p_13.1, p_13.2)
    else none
  else
  if (gE (σ) (t + 2) ((gI σ 46 5) : Int32).toNatClampNeg) = 30 then
    some (0, st_i (σ) t 11 (gI σ 46 6))
  else
    if aB (gI σ t 10) (gN σ (t + 15)) then
    some (0, st_i (st_e (σ) (t + 15) (((gI σ t 10) : Int32).toNatClampNeg) (gI σ 46 5)) t 10 ((gI σ t 10) + 1))
    else none
  else none
set_option maxRecDepth 100000 in
theorem F_67_R {N : Nat} {t : Nat} {σ : st_S} {p : Int32 × st_S} (H : F_67 N t σ = some p) : gR p.2 = gR σ := by
  unfold F_67 at H
  obtain ⟨_, H⟩ := F_gd H
  refine F_if H (fun _ H => ?_) (fun _ H => ?_)
  · obtain ⟨p_3, G_3, H⟩ := F_bd H
    obtain rfl := Option.some.inj H
    exact ((F_68_R G_3).trans rfl)
  · refine F_if H (fun _ H => ?_) (fun _ H => ?_)
    · obtain ⟨_, H⟩ := F_gd H
      obtain ⟨_, H⟩ := F_gd H
      obtain ⟨p_7, G_7, H⟩ := F_bd H
      obtain ⟨_, H⟩ := F_gd H
      obtain rfl := Option.some.inj H
      exact ((F_79_R G_7).trans rfl)
    · refine F_if H (fun _ H => ?_) (fun _ H => ?_)
      · obtain ⟨_, H⟩ := F_gd H
        refine F_if H (fun _ H => ?_) (fun _ H => ?_)
        · obtain ⟨p_12, G_12, H⟩ := F_bd H
          obtain rfl := Option.some.inj H
          exact ((F_80_R G_12).trans rfl)
        · obtain ⟨p_13, G_13, H⟩ := F_bd H
          obtain rfl := Option.some.inj H
          exact ((F_82_R G_13).trans rfl)
      · refine F_if H (fun _ H => ?_) (fun _ H => ?_)
        · obtain rfl := Option.some.inj H
          exact rfl
        · obtain ⟨_, H⟩ := F_gd H
          obtain rfl := Option.some.inj H
          exact rfl
set_option maxHeartbeats 4000000 in
set_option maxRecDepth 100000 in
theorem F_67_ok {N d : Nat} {t : Nat} (ht : t = 4 ∨ t = 20) {σ : st_S} {p : Int32 × st_S} (hr_42_3 : gR σ 42 3 = t) (hr_42_4 : gR σ 42 4 = (t + 1)) (hr_46_2 : gR σ 46 2 = t) (hr_46_3 : gR σ 46 3 = (t + 1)) (H : F_67 N t σ = some p) : vz_ev P0 (d + 6) 67 0 (lv_args 0 [.ref 46]) [] (hp σ) (.inl (some (.int p.1)), hp p.2) := by
  unfold F_67 at H
  rcases ht with rfl | rfl
  · refine ev_x (i := .aload_n 0) (len := 1) (p' := 1) (s' := [.ref 46]) rfl rfl rfl ?_
    refine ev_gr (p' := 4) (v := 5) rfl rfl rfl ly_46 rfl rfl hr_46_3 ?_
    refine ev_gc (p' := 7) (v := 6) rfl rfl rfl ly_5 rfl rfl ?_
    refine ev_x (i := .aload_n 0) (len := 1) (p' := 8) (s' := [.ref 46, .ref 6]) rfl rfl rfl ?_
    refine ev_gi (p' := 11) (v := (gI σ 46 5)) rfl rfl rfl ly_46 rfl rfl rfl ?_
    obtain ⟨b_1, H⟩ := F_gd H
    refine ev_ga (p' := 12) (v := (gE (σ) 6 ((gI σ 46 5) : Int32).toNatClampNeg)) rfl rfl ly_6 rfl (gd_in b_1) rfl ?_
    refine F_if H (fun c_2 H => ?_) (fun c_2 H => ?_)
    · refine ev_st (st' := [.int 27]) (congrArg (fun z => Value.int z :: []) c_2) ?_
      refine ev_ts (off := 32) (t := 44) rfl rfl (by decide) rfl ?_
      refine ev_x (i := .aload_n 0) (len := 1) (p' := 45) (s' := [.ref 46]) rfl rfl rfl ?_
      obtain ⟨p_3, G_3, H⟩ := F_bd H
      refine ev_cv (d := d + 5) (As := []) (a := 46) (p' := 48) rfl rfl rfl ly_46 rfl rfl rfl rfl rfl rfl rfl (F_68_ok (d := d + 0) (ht := (Or.inl rfl)) (hr_42_3 := hr_42_3) (hr_42_4 := hr_42_4) (hr_46_2 := hr_46_2) (hr_46_3 := hr_46_3) G_3) ?_
      refine ev_st (st' := [.int p_3.1]) rfl ?_
      have e_3 := F_68_R G_3
      obtain rfl := Option.some.inj H
      exact ev_iret rfl rfl rfl rfl
    · refine F_if H (fun c_4 H => ?_) (fun c_4 H => ?_)
      · refine ev_st (st' := [.int 28]) (congrArg (fun z => Value.int z :: []) c_4) ?_
        refine ev_ts (off := 37) (t := 49) rfl rfl (by decide) rfl ?_
        refine ev_x (i := .aload_n 0) (len := 1) (p' := 50) (s' := [.ref 46]) rfl rfl rfl ?_
        refine ev_gc (p' := 53) (v := 47) rfl rfl rfl ly_46 rfl rfl ?_
        refine ev_x (i := .aload_n 0) (len := 1) (p' := 54) (s' := [.ref 46, .ref 47]) rfl rfl rfl ?_
        refine ev_gr (p' := 57) (v := 5) rfl rfl rfl ly_46 rfl rfl hr_46_3 ?_
        refine ev_gc (p' := 60) (v := 8) rfl rfl rfl ly_5 rfl rfl ?_
        refine ev_x (i := .aload_n 0) (len := 1) (p' := 61) (s' := [.ref 46, .ref 8, .ref 47]) rfl rfl rfl ?_
        refine ev_gi (p' := 64) (v := (gI σ 46 5)) rfl rfl rfl ly_46 rfl rfl rfl ?_
        obtain ⟨b_5, H⟩ := F_gd H
        refine ev_ga (p' := 65) (v := (gE (σ) 8 ((gI σ 46 5) : Int32).toNatClampNeg)) rfl rfl ly_8 rfl (gd_in b_5) rfl ?_
        refine ev_x (i := .aload_n 0) (len := 1) (p' := 66) (s' := [.ref 46, .int (gE (σ) 8 ((gI σ 46 5) : Int32).toNatClampNeg), .ref 47]) rfl rfl rfl ?_
        refine ev_gr (p' := 69) (v := 5) rfl rfl rfl ly_46 rfl rfl hr_46_3 ?_
        refine ev_gc (p' := 72) (v := 9) rfl rfl rfl ly_5 rfl rfl ?_
        refine ev_x (i := .aload_n 0) (len := 1) (p' := 73) (s' := [.ref 46, .ref 9, .int (gE (σ) 8 ((gI σ 46 5) : Int32).toNatClampNeg), .ref 47]) rfl rfl rfl ?_
        refine ev_gi (p' := 76) (v := (gI σ 46 5)) rfl rfl rfl ly_46 rfl rfl rfl ?_
        obtain ⟨b_6, H⟩ := F_gd H
        refine ev_ga (p' := 77) (v := (gE (σ) 9 ((gI σ 46 5) : Int32).toNatClampNeg)) rfl rfl ly_9 rfl (gd_in b_6) rfl ?_
        refine ev_x (i := .bipush 28) (len := 2) (p' := 79) (s' := [.int 28, .int (gE (σ) 9 ((gI σ 46 5) : Int32).toNatClampNeg), .int (gE (σ) 8 ((gI σ 46 5) : Int32).toNatClampNeg), .ref 47]) rfl rfl rfl ?_
        refine ev_x (i := .aload_n 0) (len := 1) (p' := 80) (s' := [.ref 46, .int 28, .int (gE (σ) 9 ((gI σ 46 5) : Int32).toNatClampNeg), .int (gE (σ) 8 ((gI σ 46 5) : Int32).toNatClampNeg), .ref 47]) rfl rfl rfl ?_
        refine ev_gr (p' := 83) (v := 4) rfl rfl rfl ly_46 rfl rfl hr_46_2 ?_
        refine ev_gi (p' := 86) (v := (gI σ 4 9)) rfl rfl rfl ly_4 rfl rfl rfl ?_
        obtain ⟨p_7, G_7, H⟩ := F_bd H
        refine ev_cv (d := d + 5) (As := [.int (gE (σ) 8 ((gI σ 46 5) : Int32).toNatClampNeg), .int (gE (σ) 9 ((gI σ 46 5) : Int32).toNatClampNeg), .int 28, .int (gI σ 4 9)]) (a := 47) (p' := 89) rfl rfl rfl ly_47 rfl rfl rfl rfl rfl rfl rfl (F_79_ok (d := d + 4)   G_7) ?_
        refine ev_st (st' := []) rfl ?_
        have e_7 := F_79_R G_7
        refine ev_x (i := .aload_n 0) (len := 1) (p' := 90) (s' := [.ref 46]) rfl rfl rfl ?_
        refine ev_gr (p' := 93) (v := 4) rfl rfl rfl ly_46 rfl rfl ((congrFun (congrFun e_7 46) 2).trans hr_46_2) ?_
        refine ev_gc (p' := 96) (v := 18) rfl rfl rfl ly_4 rfl rfl ?_
        refine ev_x (i := .aload_n 0) (len := 1) (p' := 97) (s' := [.ref 46, .ref 18]) rfl rfl rfl ?_
        refine ev_gr (p' := 100) (v := 4) rfl rfl rfl ly_46 rfl rfl ((congrFun (congrFun e_7 46) 2).trans hr_46_2) ?_
        refine ev_gi (p' := 103) (v := (gI p_7 4 9)) rfl rfl rfl ly_4 rfl rfl rfl ?_
        refine ev_x (i := .aload_n 0) (len := 1) (p' := 104) (s' := [.ref 46, .int (gI p_7 4 9), .ref 18]) rfl rfl rfl ?_
        refine ev_gi (p' := 107) (v := (gI p_7 46 6)) rfl rfl rfl ly_46 rfl rfl rfl ?_
        obtain ⟨b_8, H⟩ := F_gd H
        refine ev_pa (j := ((gI p_7 4 9) : Int32).toNatClampNeg) (p' := 108) rfl rfl ly_18 rfl (gd_in b_8) rfl ?_
        refine ev_x (i := .aload_n 0) (len := 1) (p' := 109) (s' := [.ref 46]) rfl rfl rfl ?_
        refine ev_gr (p' := 112) (v := 4) rfl rfl rfl ly_46 rfl rfl ((congrFun (congrFun e_7 46) 2).trans hr_46_2) ?_
        refine ev_x (i := .dup) (len := 1) (p' := 113) (s' := [.ref 4, .ref 4]) rfl rfl rfl ?_
        refine ev_gi (p' := 116) (v := (gI p_7 4 9)) rfl rfl rfl ly_4 rfl rfl rfl ?_
        refine ev_x (i := .iconst 1) (len := 1) (p' := 117) (s' := [.int 1, .int (gI p_7 4 9), .ref 4]) rfl rfl rfl ?_
        refine ev_x (i := .iadd) (len := 1) (p' := 118) (s' := [.int ((gI p_7 4 9) + 1), .ref 4]) rfl rfl rfl ?_
        refine ev_pi (p' := 121) rfl rfl rfl ly_4 rfl rfl rfl rfl ?_
        refine ev_x (i := .aload_n 0) (len := 1) (p' := 122) (s' := [.ref 46]) rfl rfl rfl ?_
        refine ev_gr (p' := 125) (v := 4) rfl rfl rfl ly_46 rfl rfl ((congrFun (congrFun e_7 46) 2).trans hr_46_2) ?_
        refine ev_x (i := .dup) (len := 1) (p' := 126) (s' := [.ref 4, .ref 4]) rfl rfl rfl ?_
        refine ev_gi (p' := 129) (v := (gI p_7 4 8)) rfl rfl rfl ly_4 rfl rfl rfl ?_
        refine ev_x (i := .iconst 1) (len := 1) (p' := 130) (s' := [.int 1, .int (gI p_7 4 8), .ref 4]) rfl rfl rfl ?_
        refine ev_x (i := .iadd) (len := 1) (p' := 131) (s' := [.int ((gI p_7 4 8) + 1), .ref 4]) rfl rfl rfl ?_
        refine ev_pi (p' := 134) rfl rfl rfl ly_4 rfl rfl rfl rfl ?_
        refine ev_x (i := .iconst 0) (len := 1) (p' := 135) (s' := [.int 0]) rfl rfl rfl ?_
        obtain rfl := Option.some.inj H
        exact ev_iret rfl rfl rfl rfl
      · refine F_if H (fun c_9 H => ?_) (fun c_9 H => ?_)
        · refine ev_st (st' := [.int 29]) (congrArg (fun z => Value.int z :: []) c_9) ?_
          refine ev_ts (off := 124) (t := 136) rfl rfl (by decide) rfl ?_
          refine ev_x (i := .aload_n 0) (len := 1) (p' := 137) (s' := [.ref 46]) rfl rfl rfl ?_
          refine ev_gr (p' := 140) (v := 5) rfl rfl rfl ly_46 rfl rfl hr_46_3 ?_
          refine ev_gc (p' := 143) (v := 10) rfl rfl rfl ly_5 rfl rfl ?_
          refine ev_x (i := .aload_n 0) (len := 1) (p' := 144) (s' := [.ref 46, .ref 10]) rfl rfl rfl ?_
          refine ev_gi (p' := 147) (v := (gI σ 46 5)) rfl rfl rfl ly_46 rfl rfl rfl ?_
          obtain ⟨b_10, H⟩ := F_gd H
          refine ev_ga (p' := 148) (v := (gE (σ) 10 ((gI σ 46 5) : Int32).toNatClampNeg)) rfl rfl ly_10 rfl (gd_in b_10) rfl ?_
          refine ev_x (i := .iconst 2) (len := 1) (p' := 149) (s' := [.int 2, .int (gE (σ) 10 ((gI σ 46 5) : Int32).toNatClampNeg)]) rfl rfl rfl ?_
          refine F_if H (fun c_11 H => ?_) (fun c_11 H => ?_)
          · refine ev_b2 (t := 159) (p' := 152) rfl rfl rfl (if_neg (fun q => q c_11)) ?_
            refine ev_x (i := .aload_n 0) (len := 1) (p' := 153) (s' := [.ref 46]) rfl rfl rfl ?_
            obtain ⟨p_12, G_12, H⟩ := F_bd H
            refine ev_cv (d := d + 5) (As := []) (a := 46) (p' := 156) rfl rfl rfl ly_46 rfl rfl rfl rfl rfl rfl rfl (F_80_ok (d := d + 0) (ht := (Or.inl rfl)) (hr_42_3 := hr_42_3) (hr_42_4 := hr_42_4) (hr_46_2 := hr_46_2) (hr_46_3 := hr_46_3) G_12) ?_
            refine ev_st (st' := [.int p_12.1]) rfl ?_
            have e_12 := F_80_R G_12
            refine ev_x (i := .goto 7) (len := 3) (p' := 163) (s' := [.int p_12.1]) rfl rfl rfl ?_
            obtain rfl := Option.some.inj H
            exact ev_iret rfl rfl rfl rfl
          · refine ev_b2 (t := 159) (p' := 159) rfl rfl rfl (if_pos c_11) ?_
            refine ev_x (i := .aload_n 0) (len := 1) (p' := 160) (s' := [.ref 46]) rfl rfl rfl ?_
            obtain ⟨p_13, G_13, H⟩ := F_bd H
            refine ev_cv (d := d + 5) (As := []) (a := 46) (p' := 163) rfl rfl rfl ly_46 rfl rfl rfl rfl rfl rfl rfl (F_82_ok (d := d + 0) (ht := (Or.inl rfl)) (hr_42_3 := hr_42_3) (hr_42_4 := hr_42_4) (hr_46_2 := hr_46_2) (hr_46_3 := hr_46_3) G_13) ?_
            refine ev_st (st' := [.int p_13.1]) rfl ?_
            have e_13 := F_82_R G_13
            obtain rfl := Option.some.inj H
            exact ev_iret rfl rfl rfl rfl
        · refine F_if H (fun c_14 H => ?_) (fun c_14 H => ?_)
          · refine ev_st (st' := [.int 30]) (congrArg (fun z => Value.int z :: []) c_14) ?_
            refine ev_ts (off := 152) (t := 164) rfl rfl (by decide) rfl ?_
            refine ev_x (i := .aload_n 0) (len := 1) (p' := 165) (s' := [.ref 46]) rfl rfl rfl ?_
            refine ev_gr (p' := 168) (v := 4) rfl rfl rfl ly_46 rfl rfl hr_46_2 ?_
            refine ev_x (i := .aload_n 0) (len := 1) (p' := 169) (s' := [.ref 46, .ref 4]) rfl rfl rfl ?_
            refine ev_gi (p' := 172) (v := (gI σ 46 6)) rfl rfl rfl ly_46 rfl rfl rfl ?_
            refine ev_pi (p' := 175) rfl rfl rfl ly_4 rfl rfl rfl rfl ?_
            refine ev_x (i := .iconst 0) (len := 1) (p' := 176) (s' := [.int 0]) rfl rfl rfl ?_
            obtain rfl := Option.some.inj H
            exact ev_iret rfl rfl rfl rfl
          · have n_27 : (27 : Int) ≠ ((gE (σ) 6 ((gI σ 46 5) : Int32).toNatClampNeg) : Int32).toInt := i32_ne (k := 27) (by decide) c_2
            have n_28 : (28 : Int) ≠ ((gE (σ) 6 ((gI σ 46 5) : Int32).toNatClampNeg) : Int32).toInt := i32_ne (k := 28) (by decide) c_4
            have n_29 : (29 : Int) ≠ ((gE (σ) 6 ((gI σ 46 5) : Int32).toNatClampNeg) : Int32).toInt := i32_ne (k := 29) (by decide) c_9
            have n_30 : (30 : Int) ≠ ((gE (σ) 6 ((gI σ 46 5) : Int32).toNatClampNeg) : Int32).toInt := i32_ne (k := 30) (by decide) c_14
            refine ev_ts (off := 165) (t := 177) rfl rfl ?hsw rfl ?_
            case hsw =>
              by_cases hq : ((gE (σ) 6 ((gI σ 46 5) : Int32).toNatClampNeg) : Int32).toInt < 27 ∨ 30 < ((gE (σ) 6 ((gI σ 46 5) : Int32).toNatClampNeg) : Int32).toInt
              · exact if_pos hq
              · rw [if_neg hq]
                exact absurd hq (by omega)
            refine ev_x (i := .aload_n 0) (len := 1) (p' := 178) (s' := [.ref 46]) rfl rfl rfl ?_
            refine ev_gr (p' := 181) (v := 4) rfl rfl rfl ly_46 rfl rfl hr_46_2 ?_
            refine ev_gc (p' := 184) (v := 19) rfl rfl rfl ly_4 rfl rfl ?_
            refine ev_x (i := .aload_n 0) (len := 1) (p' := 185) (s' := [.ref 46, .ref 19]) rfl rfl rfl ?_
            refine ev_gr (p' := 188) (v := 4) rfl rfl rfl ly_46 rfl rfl hr_46_2 ?_
            refine ev_gi (p' := 191) (v := (gI σ 4 10)) rfl rfl rfl ly_4 rfl rfl rfl ?_
            refine ev_x (i := .aload_n 0) (len := 1) (p' := 192) (s' := [.ref 46, .int (gI σ 4 10), .ref 19]) rfl rfl rfl ?_
            refine ev_gi (p' := 195) (v := (gI σ 46 5)) rfl rfl rfl ly_46 rfl rfl rfl ?_
            obtain ⟨b_15, H⟩ := F_gd H
            refine ev_pa (j := ((gI σ 4 10) : Int32).toNatClampNeg) (p' := 196) rfl rfl ly_19 rfl (gd_in b_15) rfl ?_
            refine ev_x (i := .aload_n 0) (len := 1) (p' := 197) (s' := [.ref 46]) rfl rfl rfl ?_
            refine ev_gr (p' := 200) (v := 4) rfl rfl rfl ly_46 rfl rfl hr_46_2 ?_
            refine ev_x (i := .dup) (len := 1) (p' := 201) (s' := [.ref 4, .ref 4]) rfl rfl rfl ?_
            refine ev_gi (p' := 204) (v := (gI σ 4 10)) rfl rfl rfl ly_4 rfl rfl rfl ?_
            refine ev_x (i := .iconst 1) (len := 1) (p' := 205) (s' := [.int 1, .int (gI σ 4 10), .ref 4]) rfl rfl rfl ?_
            refine ev_x (i := .iadd) (len := 1) (p' := 206) (s' := [.int ((gI σ 4 10) + 1), .ref 4]) rfl rfl rfl ?_
            refine ev_pi (p' := 209) rfl rfl rfl ly_4 rfl rfl rfl rfl ?_
            refine ev_x (i := .iconst 0) (len := 1) (p' := 210) (s' := [.int 0]) rfl rfl rfl ?_
            obtain rfl := Option.some.inj H
            exact ev_iret rfl rfl rfl rfl
  · refine ev_x (i := .aload_n 0) (len := 1) (p' := 1) (s' := [.ref 46]) rfl rfl rfl ?_
    refine ev_gr (p' := 4) (v := 21) rfl rfl rfl ly_46 rfl rfl hr_46_3 ?_
    refine ev_gc (p' := 7) (v := 22) rfl rfl rfl ly_21 rfl rfl ?_
    refine ev_x (i := .aload_n 0) (len := 1) (p' := 8) (s' := [.ref 46, .ref 22]) rfl rfl rfl ?_
    refine ev_gi (p' := 11) (v := (gI σ 46 5)) rfl rfl rfl ly_46 rfl rfl rfl ?_
    obtain ⟨b_1, H⟩ := F_gd H
    refine ev_ga (p' := 12) (v := (gE (σ) 22 ((gI σ 46 5) : Int32).toNatClampNeg)) rfl rfl ly_22 rfl (gd_in b_1) rfl ?_
    refine F_if H (fun c_2 H => ?_) (fun c_2 H => ?_)
    · refine ev_st (st' := [.int 27]) (congrArg (fun z => Value.int z :: []) c_2) ?_
      refine ev_ts (off := 32) (t := 44) rfl rfl (by decide) rfl ?_
      refine ev_x (i := .aload_n 0) (len := 1) (p' := 45) (s' := [.ref 46]) rfl rfl rfl ?_
      obtain ⟨p_3, G_3, H⟩ := F_bd H
      refine ev_cv (d := d + 5) (As := []) (a := 46) (p' := 48) rfl rfl rfl ly_46 rfl rfl rfl rfl rfl rfl rfl (F_68_ok (d := d + 0) (ht := (Or.inr rfl)) (hr_42_3 := hr_42_3) (hr_42_4 := hr_42_4) (hr_46_2 := hr_46_2) (hr_46_3 := hr_46_3) G_3) ?_
      refine ev_st (st' := [.int p_3.1]) rfl ?_
      have e_3 := F_68_R G_3
      obtain rfl := Option.some.inj H
      exact ev_iret rfl rfl rfl rfl
    · refine F_if H (fun c_4 H => ?_) (fun c_4 H => ?_)
      · refine ev_st (st' := [.int 28]) (congrArg (fun z => Value.int z :: []) c_4) ?_
        refine ev_ts (off := 37) (t := 49) rfl rfl (by decide) rfl ?_
        refine ev_x (i := .aload_n 0) (len := 1) (p' := 50) (s' := [.ref 46]) rfl rfl rfl ?_
        refine ev_gc (p' := 53) (v := 47) rfl rfl rfl ly_46 rfl rfl ?_
        refine ev_x (i := .aload_n 0) (len := 1) (p' := 54) (s' := [.ref 46, .ref 47]) rfl rfl rfl ?_
        refine ev_gr (p' := 57) (v := 21) rfl rfl rfl ly_46 rfl rfl hr_46_3 ?_
        refine ev_gc (p' := 60) (v := 24) rfl rfl rfl ly_21 rfl rfl ?_
        refine ev_x (i := .aload_n 0) (len := 1) (p' := 61) (s' := [.ref 46, .ref 24, .ref 47]) rfl rfl rfl ?_
        refine ev_gi (p' := 64) (v := (gI σ 46 5)) rfl rfl rfl ly_46 rfl rfl rfl ?_
        obtain ⟨b_5, H⟩ := F_gd H
        refine ev_ga (p' := 65) (v := (gE (σ) 24 ((gI σ 46 5) : Int32).toNatClampNeg)) rfl rfl ly_24 rfl (gd_in b_5) rfl ?_
        refine ev_x (i := .aload_n 0) (len := 1) (p' := 66) (s' := [.ref 46, .int (gE (σ) 24 ((gI σ 46 5) : Int32).toNatClampNeg), .ref 47]) rfl rfl rfl ?_
        refine ev_gr (p' := 69) (v := 21) rfl rfl rfl ly_46 rfl rfl hr_46_3 ?_
        refine ev_gc (p' := 72) (v := 25) rfl rfl rfl ly_21 rfl rfl ?_
        refine ev_x (i := .aload_n 0) (len := 1) (p' := 73) (s' := [.ref 46, .ref 25, .int (gE (σ) 24 ((gI σ 46 5) : Int32).toNatClampNeg), .ref 47]) rfl rfl rfl ?_
        refine ev_gi (p' := 76) (v := (gI σ 46 5)) rfl rfl rfl ly_46 rfl rfl rfl ?_
        obtain ⟨b_6, H⟩ := F_gd H
        refine ev_ga (p' := 77) (v := (gE (σ) 25 ((gI σ 46 5) : Int32).toNatClampNeg)) rfl rfl ly_25 rfl (gd_in b_6) rfl ?_
        refine ev_x (i := .bipush 28) (len := 2) (p' := 79) (s' := [.int 28, .int (gE (σ) 25 ((gI σ 46 5) : Int32).toNatClampNeg), .int (gE (σ) 24 ((gI σ 46 5) : Int32).toNatClampNeg), .ref 47]) rfl rfl rfl ?_
        refine ev_x (i := .aload_n 0) (len := 1) (p' := 80) (s' := [.ref 46, .int 28, .int (gE (σ) 25 ((gI σ 46 5) : Int32).toNatClampNeg), .int (gE (σ) 24 ((gI σ 46 5) : Int32).toNatClampNeg), .ref 47]) rfl rfl rfl ?_
        refine ev_gr (p' := 83) (v := 20) rfl rfl rfl ly_46 rfl rfl hr_46_2 ?_
        refine ev_gi (p' := 86) (v := (gI σ 20 9)) rfl rfl rfl ly_20 rfl rfl rfl ?_
        obtain ⟨p_7, G_7, H⟩ := F_bd H
        refine ev_cv (d := d + 5) (As := [.int (gE (σ) 24 ((gI σ 46 5) : Int32).toNatClampNeg), .int (gE (σ) 25 ((gI σ 46 5) : Int32).toNatClampNeg), .int 28, .int (gI σ 20 9)]) (a := 47) (p' := 89) rfl rfl rfl ly_47 rfl rfl rfl rfl rfl rfl rfl (F_79_ok (d := d + 4)   G_7) ?_
        refine ev_st (st' := []) rfl ?_
        have e_7 := F_79_R G_7
        refine ev_x (i := .aload_n 0) (len := 1) (p' := 90) (s' := [.ref 46]) rfl rfl rfl ?_
        refine ev_gr (p' := 93) (v := 20) rfl rfl rfl ly_46 rfl rfl ((congrFun (congrFun e_7 46) 2).trans hr_46_2) ?_
        refine ev_gc (p' := 96) (v := 34) rfl rfl rfl ly_20 rfl rfl ?_
        refine ev_x (i := .aload_n 0) (len := 1) (p' := 97) (s' := [.ref 46, .ref 34]) rfl rfl rfl ?_
        refine ev_gr (p' := 100) (v := 20) rfl rfl rfl ly_46 rfl rfl ((congrFun (congrFun e_7 46) 2).trans hr_46_2) ?_
        refine ev_gi (p' := 103) (v := (gI p_7 20 9)) rfl rfl rfl ly_20 rfl rfl rfl ?_
        refine ev_x (i := .aload_n 0) (len := 1) (p' := 104) (s' := [.ref 46, .int (gI p_7 20 9), .ref 34]) rfl rfl rfl ?_
        refine ev_gi (p' := 107) (v := (gI p_7 46 6)) rfl rfl rfl ly_46 rfl rfl rfl ?_
        obtain ⟨b_8, H⟩ := F_gd H
        refine ev_pa (j := ((gI p_7 20 9) : Int32).toNatClampNeg) (p' := 108) rfl rfl ly_34 rfl (gd_in b_8) rfl ?_
        refine ev_x (i := .aload_n 0) (len := 1) (p' := 109) (s' := [.ref 46]) rfl rfl rfl ?_
        refine ev_gr (p' := 112) (v := 20) rfl rfl rfl ly_46 rfl rfl ((congrFun (congrFun e_7 46) 2).trans hr_46_2) ?_
        refine ev_x (i := .dup) (len := 1) (p' := 113) (s' := [.ref 20, .ref 20]) rfl rfl rfl ?_
        refine ev_gi (p' := 116) (v := (gI p_7 20 9)) rfl rfl rfl ly_20 rfl rfl rfl ?_
        refine ev_x (i := .iconst 1) (len := 1) (p' := 117) (s' := [.int 1, .int (gI p_7 20 9), .ref 20]) rfl rfl rfl ?_
        refine ev_x (i := .iadd) (len := 1) (p' := 118) (s' := [.int ((gI p_7 20 9) + 1), .ref 20]) rfl rfl rfl ?_
        refine ev_pi (p' := 121) rfl rfl rfl ly_20 rfl rfl rfl rfl ?_
        refine ev_x (i := .aload_n 0) (len := 1) (p' := 122) (s' := [.ref 46]) rfl rfl rfl ?_
        refine ev_gr (p' := 125) (v := 20) rfl rfl rfl ly_46 rfl rfl ((congrFun (congrFun e_7 46) 2).trans hr_46_2) ?_
        refine ev_x (i := .dup) (len := 1) (p' := 126) (s' := [.ref 20, .ref 20]) rfl rfl rfl ?_
        refine ev_gi (p' := 129) (v := (gI p_7 20 8)) rfl rfl rfl ly_20 rfl rfl rfl ?_
        refine ev_x (i := .iconst 1) (len := 1) (p' := 130) (s' := [.int 1, .int (gI p_7 20 8), .ref 20]) rfl rfl rfl ?_
        refine ev_x (i := .iadd) (len := 1) (p' := 131) (s' := [.int ((gI p_7 20 8) + 1), .ref 20]) rfl rfl rfl ?_
        refine ev_pi (p' := 134) rfl rfl rfl ly_20 rfl rfl rfl rfl ?_
        refine ev_x (i := .iconst 0) (len := 1) (p' := 135) (s' := [.int 0]) rfl rfl rfl ?_
        obtain rfl := Option.some.inj H
        exact ev_iret rfl rfl rfl rfl
      · refine F_if H (fun c_9 H => ?_) (fun c_9 H => ?_)
        · refine ev_st (st' := [.int 29]) (congrArg (fun z => Value.int z :: []) c_9) ?_
          refine ev_ts (off := 124) (t := 136) rfl rfl (by decide) rfl ?_
          refine ev_x (i := .aload_n 0) (len := 1) (p' := 137) (s' := [.ref 46]) rfl rfl rfl ?_
          refine ev_gr (p' := 140) (v := 21) rfl rfl rfl ly_46 rfl rfl hr_46_3 ?_
          refine ev_gc (p' := 143) (v := 26) rfl rfl rfl ly_21 rfl rfl ?_
          refine ev_x (i := .aload_n 0) (len := 1) (p' := 144) (s' := [.ref 46, .ref 26]) rfl rfl rfl ?_
          refine ev_gi (p' := 147) (v := (gI σ 46 5)) rfl rfl rfl ly_46 rfl rfl rfl ?_
          obtain ⟨b_10, H⟩ := F_gd H
          refine ev_ga (p' := 148) (v := (gE (σ) 26 ((gI σ 46 5) : Int32).toNatClampNeg)) rfl rfl ly_26 rfl (gd_in b_10) rfl ?_
          refine ev_x (i := .iconst 2) (len := 1) (p' := 149) (s' := [.int 2, .int (gE (σ) 26 ((gI σ 46 5) : Int32).toNatClampNeg)]) rfl rfl rfl ?_
          refine F_if H (fun c_11 H => ?_) (fun c_11 H => ?_)
          · refine ev_b2 (t := 159) (p' := 152) rfl rfl rfl (if_neg (fun q => q c_11)) ?_
            refine ev_x (i := .aload_n 0) (len := 1) (p' := 153) (s' := [.ref 46]) rfl rfl rfl ?_
            obtain ⟨p_12, G_12, H⟩ := F_bd H
            refine ev_cv (d := d + 5) (As := []) (a := 46) (p' := 156) rfl rfl rfl ly_46 rfl rfl rfl rfl rfl rfl rfl (F_80_ok (d := d + 0) (ht := (Or.inr rfl)) (hr_42_3 := hr_42_3) (hr_42_4 := hr_42_4) (hr_46_2 := hr_46_2) (hr_46_3 := hr_46_3) G_12) ?_
            refine ev_st (st' := [.int p_12.1]) rfl ?_
            have e_12 := F_80_R G_12
            refine ev_x (i := .goto 7) (len := 3) (p' := 163) (s' := [.int p_12.1]) rfl rfl rfl ?_
            obtain rfl := Option.some.inj H
            exact ev_iret rfl rfl rfl rfl
          · refine ev_b2 (t := 159) (p' := 159) rfl rfl rfl (if_pos c_11) ?_
            refine ev_x (i := .aload_n 0) (len := 1) (p' := 160) (s' := [.ref 46]) rfl rfl rfl ?_
            obtain ⟨p_13, G_13, H⟩ := F_bd H
            refine ev_cv (d := d + 5) (As := []) (a := 46) (p' := 163) rfl rfl rfl ly_46 rfl rfl rfl rfl rfl rfl rfl (F_82_ok (d := d + 0) (ht := (Or.inr rfl)) (hr_42_3 := hr_42_3) (hr_42_4 := hr_42_4) (hr_46_2 := hr_46_2) (hr_46_3 := hr_46_3) G_13) ?_
            refine ev_st (st' := [.int p_13.1]) rfl ?_
            have e_13 := F_82_R G_13
            obtain rfl := Option.some.inj H
            exact ev_iret rfl rfl rfl rfl
        · refine F_if H (fun c_14 H => ?_) (fun c_14 H => ?_)
          · refine ev_st (st' := [.int 30]) (congrArg (fun z => Value.int z :: []) c_14) ?_
            refine ev_ts (off := 152) (t := 164) rfl rfl (by decide) rfl ?_
            refine ev_x (i := .aload_n 0) (len := 1) (p' := 165) (s' := [.ref 46]) rfl rfl rfl ?_
            refine ev_gr (p' := 168) (v := 20) rfl rfl rfl ly_46 rfl rfl hr_46_2 ?_
            refine ev_x (i := .aload_n 0) (len := 1) (p' := 169) (s' := [.ref 46, .ref 20]) rfl rfl rfl ?_
            refine ev_gi (p' := 172) (v := (gI σ 46 6)) rfl rfl rfl ly_46 rfl rfl rfl ?_
            refine ev_pi (p' := 175) rfl rfl rfl ly_20 rfl rfl rfl rfl ?_
            refine ev_x (i := .iconst 0) (len := 1) (p' := 176) (s' := [.int 0]) rfl rfl rfl ?_
            obtain rfl := Option.some.inj H
            exact ev_iret rfl rfl rfl rfl
          · have n_27 : (27 : Int) ≠ ((gE (σ) 22 ((gI σ 46 5) : Int32).toNatClampNeg) : Int32).toInt := i32_ne (k := 27) (by decide) c_2
            have n_28 : (28 : Int) ≠ ((gE (σ) 22 ((gI σ 46 5) : Int32).toNatClampNeg) : Int32).toInt := i32_ne (k := 28) (by decide) c_4
            have n_29 : (29 : Int) ≠ ((gE (σ) 22 ((gI σ 46 5) : Int32).toNatClampNeg) : Int32).toInt := i32_ne (k := 29) (by decide) c_9
            have n_30 : (30 : Int) ≠ ((gE (σ) 22 ((gI σ 46 5) : Int32).toNatClampNeg) : Int32).toInt := i32_ne (k := 30) (by decide) c_14
            refine ev_ts (off := 165) (t := 177) rfl rfl ?hsw rfl ?_
            case hsw =>
              by_cases hq : ((gE (σ) 22 ((gI σ 46 5) : Int32).toNatClampNeg) : Int32).toInt < 27 ∨ 30 < ((gE (σ) 22 ((gI σ 46 5) : Int32).toNatClampNeg) : Int32).toInt
              · exact if_pos hq
              · rw [if_neg hq]
                exact absurd hq (by omega)
            refine ev_x (i := .aload_n 0) (len := 1) (p' := 178) (s' := [.ref 46]) rfl rfl rfl ?_
            refine ev_gr (p' := 181) (v := 20) rfl rfl rfl ly_46 rfl rfl hr_46_2 ?_
            refine ev_gc (p' := 184) (v := 35) rfl rfl rfl ly_20 rfl rfl ?_
            refine ev_x (i := .aload_n 0) (len := 1) (p' := 185) (s' := [.ref 46, .ref 35]) rfl rfl rfl ?_
            refine ev_gr (p' := 188) (v := 20) rfl rfl rfl ly_46 rfl rfl hr_46_2 ?_
            refine ev_gi (p' := 191) (v := (gI σ 20 10)) rfl rfl rfl ly_20 rfl rfl rfl ?_
            refine ev_x (i := .aload_n 0) (len := 1) (p' := 192) (s' := [.ref 46, .int (gI σ 20 10), .ref 35]) rfl rfl rfl ?_
            refine ev_gi (p' := 195) (v := (gI σ 46 5)) rfl rfl rfl ly_46 rfl rfl rfl ?_
            obtain ⟨b_15, H⟩ := F_gd H
            refine ev_pa (j := ((gI σ 20 10) : Int32).toNatClampNeg) (p' := 196) rfl rfl ly_35 rfl (gd_in b_15) rfl ?_
            refine ev_x (i := .aload_n 0) (len := 1) (p' := 197) (s' := [.ref 46]) rfl rfl rfl ?_
            refine ev_gr (p' := 200) (v := 20) rfl rfl rfl ly_46 rfl rfl hr_46_2 ?_
            refine ev_x (i := .dup) (len := 1) (p' := 201) (s' := [.ref 20, .ref 20]) rfl rfl rfl ?_
            refine ev_gi (p' := 204) (v := (gI σ 20 10)) rfl rfl rfl ly_20 rfl rfl rfl ?_
            refine ev_x (i := .iconst 1) (len := 1) (p' := 205) (s' := [.int 1, .int (gI σ 20 10), .ref 20]) rfl rfl rfl ?_
            refine ev_x (i := .iadd) (len := 1) (p' := 206) (s' := [.int ((gI σ 20 10) + 1), .ref 20]) rfl rfl rfl ?_
            refine ev_pi (p' := 209) rfl rfl rfl ly_20 rfl rfl rfl rfl ?_
            refine ev_x (i := .iconst 0) (len := 1) (p' := 210) (s' := [.int 0]) rfl rfl rfl ?_
            obtain rfl := Option.some.inj H
            exact ev_iret rfl rfl rfl rfl
