/-! methods as functions of the store. Written by wip/prog/dec2.py, gen_all.py -/
/-- GameTextModel.enter(I)V, its loops -/
def L_212 (N : Nat) (g : Nat) : Nat → Nat → Int32 → Int32 → st_S → Option (st_S)
  | 0, _, _, _, _ => none
  | k + 1, w, l_1, l_2, σ =>
    if w = 2 then
      if (gI σ g 12) ≤ l_2 then
        L_212 N g k 38 0 0 (σ)
      else
        if aB ((12 * l_1) + l_2) (gN σ 171) then
        if aB l_2 (gN σ 167) then
        L_212 N g k 2 l_1 (l_2 + 1) (st_e (σ) 167 ((l_2 : Int32).toNatClampNeg) (gE (σ) 171 (((12 * l_1) + l_2) : Int32).toNatClampNeg))
        else none
        else none
    else
      if (gI σ g 6) ≤ l_2 then
        some (σ)
      else
        if aB l_2 (gN σ 168) then
        L_212 N g k 38 0 (l_2 + 1) (st_e (σ) 168 ((l_2 : Int32).toNatClampNeg) (vp_nar .boolean 0))
        else none
set_option maxRecDepth 100000 in
theorem L_212_R {N : Nat} {g : Nat} : ∀ (k : Nat) (w : Nat) (l_1 : Int32) (l_2 : Int32) (σ : st_S) (p : st_S), L_212 N g k w l_1 l_2 σ = some p → gR p = gR σ := by
  intro k
  induction k with
  | zero => intro w l_1 l_2 σ p H; unfold L_212 at H; cases H
  | succ k ih =>
    intro w l_1 l_2 σ p H
    unfold L_212 at H
    refine F_if H (fun _ H => ?_) (fun _ H => ?_)
    · refine F_if H (fun _ H => ?_) (fun _ H => ?_)
      · exact (((ih _ _ _ _ _ H)).trans rfl)
      · obtain ⟨_, H⟩ := F_gd H
        obtain ⟨_, H⟩ := F_gd H
        exact (((ih _ _ _ _ _ H)).trans rfl)
    · skip
      refine F_if H (fun _ H => ?_) (fun _ H => ?_)
      · obtain rfl := Option.some.inj H
        exact rfl
      · obtain ⟨_, H⟩ := F_gd H
        exact (((ih _ _ _ _ _ H)).trans rfl)
set_option maxHeartbeats 4000000 in
set_option maxRecDepth 100000 in
theorem L_212_ok {N d : Nat} {g : Nat} (hg : g = 79 ∨ g = 115) : ∀ k : Nat, (∀ (l_1 : Int32) (l_2 : Int32) (σ : st_S) (lv : vz_L) (p : st_S), vz_g lv 0 = some (.ref 66) → vz_g lv 1 = some (.int l_1) → vz_g lv 2 = some (.int l_2) → vz_nbL (vz_gr P0) lv = true → gR σ 66 9 = g → L_212 N g k 2 l_1 l_2 σ = some p → vz_ev P0 (d + 1) 212 2 lv [] (hp σ) (.inl none, hp p)) ∧ (∀ (l_1 : Int32) (l_2 : Int32) (σ : st_S) (lv : vz_L) (p : st_S), vz_g lv 0 = some (.ref 66) → vz_g lv 2 = some (.int l_2) → vz_nbL (vz_gr P0) lv = true → gR σ 66 9 = g → L_212 N g k 38 l_1 l_2 σ = some p → vz_ev P0 (d + 1) 212 38 lv [] (hp σ) (.inl none, hp p)) := by
  rcases hg with rfl | rfl
  · intro k
    induction k with
    | zero => exact ⟨(by intro l_1 l_2 σ lv p g_0 g_1 g_2 hnb hr_66_9 H; unfold L_212 at H; cases H), (by intro l_1 l_2 σ lv p g_0 g_2 hnb hr_66_9 H; unfold L_212 at H; cases H)⟩
    | succ k ih =>
      refine ⟨?_, ?_⟩
      · intro l_1 l_2 σ lv p g_0 g_1 g_2 hnb hr_66_9 H
        unfold L_212 at H
        rw [if_pos rfl] at H
        refine ev_x (i := .iload_n 2) (len := 1) (p' := 3) (s' := [.int l_2]) rfl rfl (ld_i g_2) ?_
        refine ev_x (i := .aload_n 0) (len := 1) (p' := 4) (s' := [.ref 66, .int l_2]) rfl rfl (ld_a g_0) ?_
        refine ev_gr (p' := 7) (v := 79) rfl rfl rfl ly_66 rfl rfl hr_66_9 ?_
        refine ev_gi (p' := 10) (v := (gI σ 79 12)) rfl rfl rfl ly_79 rfl rfl rfl ?_
        refine F_if H (fun c_1 H => ?_) (fun c_1 H => ?_)
        · refine ev_b2 (t := 36) (p' := 36) rfl rfl rfl (if_pos c_1) ?_
          refine ev_x (i := .iconst 0) (len := 1) (p' := 37) (s' := [.int 0]) rfl rfl rfl ?_
          refine ev_x (i := .istore_n 2) (len := 1) (p' := 38) (s' := []) (l' := vz_s1 (lv) 2 (.int 0)) rfl rfl rfl ?_
          exact ih.2 _ _ _ _ _ (vg_o (i := 2) (v := .int 0) g_0 (by decide) (Or.inl rfl)) (vg_s (lv) 2 (.int 0)) (nb_s1 hnb rfl) hr_66_9 H
        · refine ev_b2 (t := 36) (p' := 13) rfl rfl rfl (if_neg c_1) ?_
          refine ev_x (i := .aload_n 0) (len := 1) (p' := 14) (s' := [.ref 66]) rfl rfl (ld_a g_0) ?_
          refine ev_gc (p' := 17) (v := 167) rfl rfl rfl ly_66 rfl rfl ?_
          refine ev_x (i := .iload_n 2) (len := 1) (p' := 18) (s' := [.int l_2, .ref 167]) rfl rfl (ld_i g_2) ?_
          refine ev_x (i := .aload_n 0) (len := 1) (p' := 19) (s' := [.ref 66, .int l_2, .ref 167]) rfl rfl (ld_a g_0) ?_
          refine ev_gc (p' := 22) (v := 171) rfl rfl rfl ly_66 rfl rfl ?_
          refine ev_x (i := .bipush 12) (len := 2) (p' := 24) (s' := [.int 12, .ref 171, .int l_2, .ref 167]) rfl rfl rfl ?_
          refine ev_x (i := .iload_n 1) (len := 1) (p' := 25) (s' := [.int l_1, .int 12, .ref 171, .int l_2, .ref 167]) rfl rfl (ld_i g_1) ?_
          refine ev_x (i := .imul) (len := 1) (p' := 26) (s' := [.int (12 * l_1), .ref 171, .int l_2, .ref 167]) rfl rfl rfl ?_
          refine ev_x (i := .iload_n 2) (len := 1) (p' := 27) (s' := [.int l_2, .int (12 * l_1), .ref 171, .int l_2, .ref 167]) rfl rfl (ld_i g_2) ?_
          refine ev_x (i := .iadd) (len := 1) (p' := 28) (s' := [.int ((12 * l_1) + l_2), .ref 171, .int l_2, .ref 167]) rfl rfl rfl ?_
          obtain ⟨b_2, H⟩ := F_gd H
          refine ev_ga (p' := 29) (v := (gE (σ) 171 (((12 * l_1) + l_2) : Int32).toNatClampNeg)) rfl rfl ly_171 rfl (gd_in b_2) rfl ?_
          obtain ⟨b_3, H⟩ := F_gd H
          refine ev_pa (j := (l_2 : Int32).toNatClampNeg) (p' := 30) rfl rfl ly_167 rfl (gd_in b_3) rfl ?_
          refine ev_x (i := .iinc 2 1) (len := 3) (p' := 33) (s' := []) (l' := vz_s1 (lv) 2 (.int (l_2 + 1))) rfl rfl (ld_inc g_2 rfl) ?_
          refine ev_x (i := .goto (-31)) (len := 3) (p' := 2) (s' := []) rfl rfl rfl ?_
          exact ih.1 _ _ _ _ _ (vg_o (i := 2) (v := .int (l_2 + 1)) g_0 (by decide) (Or.inl rfl)) (vg_o (i := 2) (v := .int (l_2 + 1)) g_1 (by decide) (Or.inl rfl)) (vg_s (lv) 2 (.int (l_2 + 1))) (nb_s1 hnb rfl) hr_66_9 H
      · intro l_1 l_2 σ lv p g_0 g_2 hnb hr_66_9 H
        unfold L_212 at H
        rw [if_neg (by decide)] at H
        refine ev_x (i := .iload_n 2) (len := 1) (p' := 39) (s' := [.int l_2]) rfl rfl (ld_i g_2) ?_
        refine ev_x (i := .aload_n 0) (len := 1) (p' := 40) (s' := [.ref 66, .int l_2]) rfl rfl (ld_a g_0) ?_
        refine ev_gr (p' := 43) (v := 79) rfl rfl rfl ly_66 rfl rfl hr_66_9 ?_
        refine ev_gi (p' := 46) (v := (gI σ 79 6)) rfl rfl rfl ly_79 rfl rfl rfl ?_
        refine F_if H (fun c_4 H => ?_) (fun c_4 H => ?_)
        · refine ev_b2 (t := 62) (p' := 62) rfl rfl rfl (if_pos c_4) ?_
          obtain rfl := Option.some.inj H
          exact ev_vret rfl rfl rfl
        · refine ev_b2 (t := 62) (p' := 49) rfl rfl rfl (if_neg c_4) ?_
          refine ev_x (i := .aload_n 0) (len := 1) (p' := 50) (s' := [.ref 66]) rfl rfl (ld_a g_0) ?_
          refine ev_gc (p' := 53) (v := 168) rfl rfl rfl ly_66 rfl rfl ?_
          refine ev_x (i := .iload_n 2) (len := 1) (p' := 54) (s' := [.int l_2, .ref 168]) rfl rfl (ld_i g_2) ?_
          refine ev_x (i := .iconst 0) (len := 1) (p' := 55) (s' := [.int 0, .int l_2, .ref 168]) rfl rfl rfl ?_
          obtain ⟨b_5, H⟩ := F_gd H
          refine ev_pb (j := (l_2 : Int32).toNatClampNeg) (p' := 56) rfl rfl ly_168 rfl (gd_in b_5) rfl ?_
          refine ev_x (i := .iinc 2 1) (len := 3) (p' := 59) (s' := []) (l' := vz_s1 (lv) 2 (.int (l_2 + 1))) rfl rfl (ld_inc g_2 rfl) ?_
          refine ev_x (i := .goto (-21)) (len := 3) (p' := 38) (s' := []) rfl rfl rfl ?_
          exact ih.2 _ _ _ _ _ (vg_o (i := 2) (v := .int (l_2 + 1)) g_0 (by decide) (Or.inl rfl)) (vg_s (lv) 2 (.int (l_2 + 1))) (nb_s1 hnb rfl) hr_66_9 H
  · intro k
    induction k with
    | zero => exact ⟨(by intro l_1 l_2 σ lv p g_0 g_1 g_2 hnb hr_66_9 H; unfold L_212 at H; cases H), (by intro l_1 l_2 σ lv p g_0 g_2 hnb hr_66_9 H; unfold L_212 at H; cases H)⟩
    | succ k ih =>
      refine ⟨?_, ?_⟩
      · intro l_1 l_2 σ lv p g_0 g_1 g_2 hnb hr_66_9 H
        unfold L_212 at H
        rw [if_pos rfl] at H
        refine ev_x (i := .iload_n 2) (len := 1) (p' := 3) (s' := [.int l_2]) rfl rfl (ld_i g_2) ?_
        refine ev_x (i := .aload_n 0) (len := 1) (p' := 4) (s' := [.ref 66, .int l_2]) rfl rfl (ld_a g_0) ?_
        refine ev_gr (p' := 7) (v := 115) rfl rfl rfl ly_66 rfl rfl hr_66_9 ?_
        refine ev_gi (p' := 10) (v := (gI σ 115 12)) rfl rfl rfl ly_115 rfl rfl rfl ?_
        refine F_if H (fun c_1 H => ?_) (fun c_1 H => ?_)
        · refine ev_b2 (t := 36) (p' := 36) rfl rfl rfl (if_pos c_1) ?_
          refine ev_x (i := .iconst 0) (len := 1) (p' := 37) (s' := [.int 0]) rfl rfl rfl ?_
          refine ev_x (i := .istore_n 2) (len := 1) (p' := 38) (s' := []) (l' := vz_s1 (lv) 2 (.int 0)) rfl rfl rfl ?_
          exact ih.2 _ _ _ _ _ (vg_o (i := 2) (v := .int 0) g_0 (by decide) (Or.inl rfl)) (vg_s (lv) 2 (.int 0)) (nb_s1 hnb rfl) hr_66_9 H
        · refine ev_b2 (t := 36) (p' := 13) rfl rfl rfl (if_neg c_1) ?_
          refine ev_x (i := .aload_n 0) (len := 1) (p' := 14) (s' := [.ref 66]) rfl rfl (ld_a g_0) ?_
          refine ev_gc (p' := 17) (v := 167) rfl rfl rfl ly_66 rfl rfl ?_
          refine ev_x (i := .iload_n 2) (len := 1) (p' := 18) (s' := [.int l_2, .ref 167]) rfl rfl (ld_i g_2) ?_
          refine ev_x (i := .aload_n 0) (len := 1) (p' := 19) (s' := [.ref 66, .int l_2, .ref 167]) rfl rfl (ld_a g_0) ?_
          refine ev_gc (p' := 22) (v := 171) rfl rfl rfl ly_66 rfl rfl ?_
          refine ev_x (i := .bipush 12) (len := 2) (p' := 24) (s' := [.int 12, .ref 171, .int l_2, .ref 167]) rfl rfl rfl ?_
          refine ev_x (i := .iload_n 1) (len := 1) (p' := 25) (s' := [.int l_1, .int 12, .ref 171, .int l_2, .ref 167]) rfl rfl (ld_i g_1) ?_
          refine ev_x (i := .imul) (len := 1) (p' := 26) (s' := [.int (12 * l_1), .ref 171, .int l_2, .ref 167]) rfl rfl rfl ?_
          refine ev_x (i := .iload_n 2) (len := 1) (p' := 27) (s' := [.int l_2, .int (12 * l_1), .ref 171, .int l_2, .ref 167]) rfl rfl (ld_i g_2) ?_
          refine ev_x (i := .iadd) (len := 1) (p' := 28) (s' := [.int ((12 * l_1) + l_2), .ref 171, .int l_2, .ref 167]) rfl rfl rfl ?_
          obtain ⟨b_2, H⟩ := F_gd H
          refine ev_ga (p' := 29) (v := (gE (σ) 171 (((12 * l_1) + l_2) : Int32).toNatClampNeg)) rfl rfl ly_171 rfl (gd_in b_2) rfl ?_
          obtain ⟨b_3, H⟩ := F_gd H
          refine ev_pa (j := (l_2 : Int32).toNatClampNeg) (p' := 30) rfl rfl ly_167 rfl (gd_in b_3) rfl ?_
          refine ev_x (i := .iinc 2 1) (len := 3) (p' := 33) (s' := []) (l' := vz_s1 (lv) 2 (.int (l_2 + 1))) rfl rfl (ld_inc g_2 rfl) ?_
          refine ev_x (i := .goto (-31)) (len := 3) (p' := 2) (s' := []) rfl rfl rfl ?_
          exact ih.1 _ _ _ _ _ (vg_o (i := 2) (v := .int (l_2 + 1)) g_0 (by decide) (Or.inl rfl)) (vg_o (i := 2) (v := .int (l_2 + 1)) g_1 (by decide) (Or.inl rfl)) (vg_s (lv) 2 (.int (l_2 + 1))) (nb_s1 hnb rfl) hr_66_9 H
      · intro l_1 l_2 σ lv p g_0 g_2 hnb hr_66_9 H
        unfold L_212 at H
        rw [if_neg (by decide)] at H
        refine ev_x (i := .iload_n 2) (len := 1) (p' := 39) (s' := [.int l_2]) rfl rfl (ld_i g_2) ?_
        refine ev_x (i := .aload_n 0) (len := 1) (p' := 40) (s' := [.ref 66, .int l_2]) rfl rfl (ld_a g_0) ?_
        refine ev_gr (p' := 43) (v := 115) rfl rfl rfl ly_66 rfl rfl hr_66_9 ?_
        refine ev_gi (p' := 46) (v := (gI σ 115 6)) rfl rfl rfl ly_115 rfl rfl rfl ?_
        refine F_if H (fun c_4 H => ?_) (fun c_4 H => ?_)
        · refine ev_b2 (t := 62) (p' := 62) rfl rfl rfl (if_pos c_4) ?_
          obtain rfl := Option.some.inj H
          exact ev_vret rfl rfl rfl
        · refine ev_b2 (t := 62) (p' := 49) rfl rfl rfl (if_neg c_4) ?_
          refine ev_x (i := .aload_n 0) (len := 1) (p' := 50) (s' := [.ref 66]) rfl rfl (ld_a g_0) ?_
          refine ev_gc (p' := 53) (v := 168) rfl rfl rfl ly_66 rfl rfl ?_
          refine ev_x (i := .iload_n 2) (len := 1) (p' := 54) (s' := [.int l_2, .ref 168]) rfl rfl (ld_i g_2) ?_
          refine ev_x (i := .iconst 0) (len := 1) (p' := 55) (s' := [.int 0, .int l_2, .ref 168]) rfl rfl rfl ?_
          obtain ⟨b_5, H⟩ := F_gd H
          refine ev_pb (j := (l_2 : Int32).toNatClampNeg) (p' := 56) rfl rfl ly_168 rfl (gd_in b_5) rfl ?_
          refine ev_x (i := .iinc 2 1) (len := 3) (p' := 59) (s' := []) (l' := vz_s1 (lv) 2 (.int (l_2 + 1))) rfl rfl (ld_inc g_2 rfl) ?_
          refine ev_x (i := .goto (-21)) (len := 3) (p' := 38) (s' := []) rfl rfl rfl ?_
          exact ih.2 _ _ _ _ _ (vg_o (i := 2) (v := .int (l_2 + 1)) g_0 (by decide) (Or.inl rfl)) (vg_s (lv) 2 (.int (l_2 + 1))) (nb_s1 hnb rfl) hr_66_9 H
/-- GameTextModel.enter(I)V -/
def F_212 (N : Nat) (g : Nat) (x_1 : Int32) (σ : st_S) : Option (st_S) :=
  L_212 N g N 2 x_1 0 (σ)
set_option maxRecDepth 100000 in
theorem F_212_R {N : Nat} {g : Nat} {x_1 : Int32} {σ : st_S} {p : st_S} (H : F_212 N g x_1 σ = some p) : gR p = gR σ := by
  unfold F_212 at H
  exact (((L_212_R _ _ _ _ _ _ H)).trans rfl)
set_option maxHeartbeats 4000000 in
set_option maxRecDepth 100000 in
theorem F_212_ok {N d : Nat} {g : Nat} (hg : g = 79 ∨ g = 115) {x_1 : Int32} {σ : st_S} {p : st_S} (hr_66_9 : gR σ 66 9 = g) (H : F_212 N g x_1 σ = some p) : vz_ev P0 (d + 1) 212 0 (lv_args 0 [.ref 66, .int x_1]) [] (hp σ) (.inl none, hp p) := by
  unfold F_212 at H
  refine ev_x (i := .iconst 0) (len := 1) (p' := 1) (s' := [.int 0]) rfl rfl rfl ?_
  refine ev_x (i := .istore_n 2) (len := 1) (p' := 2) (s' := []) (l' := [(2, .int 0), (0, .ref 66), (1, .int x_1)]) rfl rfl rfl ?_
  exact (L_212_ok (d := d) hg N).1 _ _ _ _ _ rfl rfl rfl rfl hr_66_9 H
/-- GameTextModel.reach(I)V -/
def F_213 (N : Nat) (g : Nat) (x_1 : Int32) (σ : st_S) : Option (st_S) :=
  (F_185 N g x_1 (σ)).bind fun p_1 =>
  some (p_1)
set_option maxRecDepth 100000 in
theorem F_213_R {N : Nat} {g : Nat} {x_1 : Int32} {σ : st_S} {p : st_S} (H : F_213 N g x_1 σ = some p) : gR p = gR σ := by
  unfold F_213 at H
  obtain ⟨p_1, G_1, H⟩ := F_bd H
  obtain rfl := Option.some.inj H
  exact ((F_185_R G_1).trans rfl)
set_option maxHeartbeats 4000000 in
set_option maxRecDepth 100000 in
theorem F_213_ok {N d : Nat} {g : Nat} (hg : g = 79 ∨ g = 115) {x_1 : Int32} {σ : st_S} {p : st_S} (hr_66_9 : gR σ 66 9 = g) (H : F_213 N g x_1 σ = some p) : vz_ev P0 (d + 6) 213 0 (lv_args 0 [.ref 66, .int x_1]) [] (hp σ) (.inl none, hp p) := by
  unfold F_213 at H
  rcases hg with rfl | rfl
  · refine ev_x (i := .aload_n 0) (len := 1) (p' := 1) (s' := [.ref 66]) rfl rfl rfl ?_
    refine ev_x (i := .aload_n 0) (len := 1) (p' := 2) (s' := [.ref 66, .ref 66]) rfl rfl rfl ?_
    refine ev_gr (p' := 5) (v := 79) rfl rfl rfl ly_66 rfl rfl hr_66_9 ?_
    refine ev_x (i := .iload_n 1) (len := 1) (p' := 6) (s' := [.int x_1, .ref 79, .ref 66]) rfl rfl rfl ?_
    obtain ⟨p_1, G_1, H⟩ := F_bd H
    refine ev_cv (d := d + 5) (As := [.ref 79, .int x_1]) (a := 66) (p' := 9) rfl rfl rfl ly_66 rfl rfl rfl rfl rfl rfl rfl (F_185_ok (d := d + 0) (hg := (Or.inl rfl))  G_1) ?_
    refine ev_st (st' := []) rfl ?_
    have e_1 := F_185_R G_1
    obtain rfl := Option.some.inj H
    exact ev_vret rfl rfl rfl
  · refine ev_x (i := .aload_n 0) (len := 1) (p' := 1) (s' := [.ref 66]) rfl rfl rfl ?_
    refine ev_x (i := .aload_n 0) (len := 1) (p' := 2) (s' := [.ref 66, .ref 66]) rfl rfl rfl ?_
    refine ev_gr (p' := 5) (v := 115) rfl rfl rfl ly_66 rfl rfl hr_66_9 ?_
    refine ev_x (i := .iload_n 1) (len := 1) (p' := 6) (s' := [.int x_1, .ref 115, .ref 66]) rfl rfl rfl ?_
    obtain ⟨p_1, G_1, H⟩ := F_bd H
    refine ev_cv (d := d + 5) (As := [.ref 115, .int x_1]) (a := 66) (p' := 9) rfl rfl rfl ly_66 rfl rfl rfl rfl rfl rfl rfl (F_185_ok (d := d + 0) (hg := (Or.inr rfl))  G_1) ?_
    refine ev_st (st' := []) rfl ?_
    have e_1 := F_185_R G_1
    obtain rfl := Option.some.inj H
    exact ev_vret rfl rfl rfl
/-- GameTextModel.chances(II)J, its loops -/
def L_215 (N : Nat) (g : Nat) : Nat → Nat → Int32 → Int32 → Int32 → Int64 → Int32 → st_S → Option (Int64 × st_S)
  | 0, _, _, _, _, _, _, _ => none
  | k + 1, w, l_1, l_2, l_3, l_3l, l_5, σ =>
    if w = 2 then
      if aB l_1 (gN σ (g + 25)) then
      if (gE (σ) (g + 25) (l_1 : Int32).toNatClampNeg) ≤ l_3 then
        L_215 N g k 129 l_1 l_2 0 1 0 (σ)
      else
        if (gI σ 66 16) = 0 then
          if aB ((8 * l_1) + l_3) (gN σ (g + 26)) then
          (F_213 N g (gE (σ) (g + 26) (((8 * l_1) + l_3) : Int32).toNatClampNeg) (σ)).bind fun p_5 =>
          if aB 0 (gN p_5 163) then
          if aB l_3 (gN p_5 185) then
          if aB 0 (gN p_5 164) then
          if aB l_3 (gN p_5 186) then
          if (gI p_5 66 16) = 0 then
            if (lg_cmp (gL (p_5) 163 (0 : Int32).toNatClampNeg) 0) < 0 then
              if aB ((8 * l_1) + l_3) (gN p_5 (g + 27)) then
              (F_165 N 11 (gE (p_5) (g + 27) (((8 * l_1) + l_3) : Int32).toNatClampNeg) (st_E (st_E (p_5) 185 ((l_3 : Int32).toNatClampNeg) (gL (p_5) 163 (0 : Int32).toNatClampNeg)) 186 ((l_3 : Int32).toNatClampNeg) (gL (p_5) 164 (0 : Int32).toNatClampNeg))).bind fun p_13 =>
              L_215 N g k 2 l_1 l_2 (l_3 + 1) 0 0 (p_13)
              else none
            else
              if (lg_cmp (gL (p_5) 163 (0 : Int32).toNatClampNeg) (gL (p_5) 164 (0 : Int32).toNatClampNeg)) ≤ 0 then
                L_215 N g k 2 l_1 l_2 (l_3 + 1) 0 0 (st_E (st_E (p_5) 185 ((l_3 : Int32).toNatClampNeg) (gL (p_5) 163 (0 : Int32).toNatClampNeg)) 186 ((l_3 : Int32).toNatClampNeg) (gL (p_5) 164 (0 : Int32).toNatClampNeg))
              else
                if aB ((8 * l_1) + l_3) (gN p_5 (g + 27)) then
                (F_165 N 11 (gE (p_5) (g + 27) (((8 * l_1) + l_3) : Int32).toNatClampNeg) (st_E (st_E (p_5) 185 ((l_3 : Int32).toNatClampNeg) (gL (p_5) 163 (0 : Int32).toNatClampNeg)) 186 ((l_3 : Int32).toNatClampNeg) (gL (p_5) 164 (0 : Int32).toNatClampNeg))).bind fun p_16 =>
                L_215 N g k 2 l_1 l_2 (l_3 + 1) 0 0 (p_16)
                else none
          else
            L_215 N g k 2 l_1 l_2 (l_3 + 1) 0 0 (st_E (st_E (p_5) 185 ((l_3 : Int32).toNatClampNeg) (gL (p_5) 163 (0 : Int32).toNatClampNeg)) 186 ((l_3 : Int32).toNatClampNeg) (gL (p_5) 164 (0 : Int32).toNatClampNeg))
          else none
          else none
          else none
          else none
          else none
        else
          L_215 N g k 129 l_1 l_2 0 1 0 (σ)
      else none
    else
      if aB l_1 (gN σ (g + 25)) then
      if (gE (σ) (g + 25) (l_1 : Int32).toNatClampNeg) ≤ l_5 then
        some (l_3l, σ)
      else
        if (gI σ 66 16) = 0 then
          if aB l_5 (gN σ 186) then
          (F_196 N l_3l (gL (σ) 186 (l_5 : Int32).toNatClampNeg) (σ)).bind fun p_21 =>
          if ¬ (p_21.1 : Int64) = 0 then
          if aB l_5 (gN p_21.2 186) then
          if (lg_cmp ((l_3l / p_21.1) * (gL (p_21.2) 186 (l_5 : Int32).toNatClampNeg)) 1000000000) < 0 then
            L_215 N g k 129 l_1 l_2 0 ((l_3l / p_21.1) * (gL (p_21.2) 186 (l_5 : Int32).toNatClampNeg)) (l_5 + 1) (p_21.2)
          else
            (F_165 N 6 l_2 (p_21.2)).bind fun p_25 =>
            L_215 N g k 129 l_1 l_2 0 ((l_3l / p_21.1) * (gL (p_21.2) 186 (l_5 : Int32).toNatClampNeg)) (l_5 + 1) (p_25)
          else none
          else none
          else none
        else
          some (l_3l, σ)
      else none
set_option maxRecDepth 100000 in
theorem L_215_R {N : Nat} {g : Nat} : ∀ (k : Nat) (w : Nat) (l_1 : Int32) (l_2 : Int32) (l_3 : Int32) (l_3l : Int64) (l_5 : Int32) (σ : st_S) (p : Int64 × st_S), L_215 N g k w l_1 l_2 l_3 l_3l l_5 σ = some p → gR p.2 = gR σ := by
  intro k
  induction k with
  | zero => intro w l_1 l_2 l_3 l_3l l_5 σ p H; unfold L_215 at H; cases H
  | succ k ih =>
    intro w l_1 l_2 l_3 l_3l l_5 σ p H
    unfold L_215 at H
    refine F_if H (fun _ H => ?_) (fun _ H => ?_)
    · obtain ⟨_, H⟩ := F_gd H
      refine F_if H (fun _ H => ?_) (fun _ H => ?_)
      · exact (((ih _ _ _ _ _ _ _ _ H)).trans rfl)
      · refine F_if H (fun _ H => ?_) (fun _ H => ?_)
        · obtain ⟨_, H⟩ := F_gd H
          obtain ⟨p_5, G_5, H⟩ := F_bd H
          obtain ⟨_, H⟩ := F_gd H
          obtain ⟨_, H⟩ := F_gd H
          obtain ⟨_, H⟩ := F_gd H
          obtain ⟨_, H⟩ := F_gd H
          refine F_if H (fun _ H => ?_) (fun _ H => ?_)
          · refine F_if H (fun _ H => ?_) (fun _ H => ?_)
            · obtain ⟨_, H⟩ := F_gd H
              obtain ⟨p_13, G_13, H⟩ := F_bd H
              exact (((ih _ _ _ _ _ _ _ _ H)).trans ((F_165_R G_13).trans ((F_213_R G_5).trans rfl)))
            · refine F_if H (fun _ H => ?_) (fun _ H => ?_)
              · exact (((ih _ _ _ _ _ _ _ _ H)).trans ((F_213_R G_5).trans rfl))
              · obtain ⟨_, H⟩ := F_gd H
                obtain ⟨p_16, G_16, H⟩ := F_bd H
                exact (((ih _ _ _ _ _ _ _ _ H)).trans ((F_165_R G_16).trans ((F_213_R G_5).trans rfl)))
          · exact (((ih _ _ _ _ _ _ _ _ H)).trans ((F_213_R G_5).trans rfl))
        · exact (((ih _ _ _ _ _ _ _ _ H)).trans rfl)
    · skip
      obtain ⟨_, H⟩ := F_gd H
      refine F_if H (fun _ H => ?_) (fun _ H => ?_)
      · obtain rfl := Option.some.inj H
        exact rfl
      · refine F_if H (fun _ H => ?_) (fun _ H => ?_)
        · obtain ⟨_, H⟩ := F_gd H
          obtain ⟨p_21, G_21, H⟩ := F_bd H
          obtain ⟨_, H⟩ := F_gd H
          obtain ⟨_, H⟩ := F_gd H
          refine F_if H (fun _ H => ?_) (fun _ H => ?_)
          · exact (((ih _ _ _ _ _ _ _ _ H)).trans ((F_196_R G_21).trans rfl))
          · obtain ⟨p_25, G_25, H⟩ := F_bd H
            exact (((ih _ _ _ _ _ _ _ _ H)).trans ((F_165_R G_25).trans ((F_196_R G_21).trans rfl)))
        · obtain rfl := Option.some.inj H
          exact rfl
set_option maxHeartbeats 4000000 in
set_option maxRecDepth 100000 in
theorem L_215_ok {N d : Nat} {g : Nat} (hg : g = 79 ∨ g = 115) : ∀ k : Nat, (∀ (l_1 : Int32) (l_2 : Int32) (l_3 : Int32) (l_3l : Int64) (l_5 : Int32) (σ : st_S) (lv : vz_L) (p : Int64 × st_S), vz_g lv 0 = some (.ref 66) → vz_g lv 1 = some (.int l_1) → vz_g lv 2 = some (.int l_2) → vz_g lv 3 = some (.int l_3) → vz_nbL (vz_gr P0) lv = true → gR σ 66 9 = g → L_215 N g k 2 l_1 l_2 l_3 l_3l l_5 σ = some p → vz_ev P0 (d + 7) 215 2 lv [] (hp σ) (.inl (some (.long p.1)), hp p.2)) ∧ (∀ (l_1 : Int32) (l_2 : Int32) (l_3 : Int32) (l_3l : Int64) (l_5 : Int32) (σ : st_S) (lv : vz_L) (p : Int64 × st_S), vz_g lv 0 = some (.ref 66) → vz_g lv 1 = some (.int l_1) → vz_g lv 2 = some (.int l_2) → vz_g lv 3 = some (.long l_3l) → vz_g lv 5 = some (.int l_5) → vz_nbL (vz_gr P0) lv = true → gR σ 66 9 = g → L_215 N g k 129 l_1 l_2 l_3 l_3l l_5 σ = some p → vz_ev P0 (d + 7) 215 129 lv [] (hp σ) (.inl (some (.long p.1)), hp p.2)) := by
  rcases hg with rfl | rfl
  · intro k
    induction k with
    | zero => exact ⟨(by intro l_1 l_2 l_3 l_3l l_5 σ lv p g_0 g_1 g_2 g_3 hnb hr_66_9 H; unfold L_215 at H; cases H), (by intro l_1 l_2 l_3 l_3l l_5 σ lv p g_0 g_1 g_2 g_3 g_5 hnb hr_66_9 H; unfold L_215 at H; cases H)⟩
    | succ k ih =>
      refine ⟨?_, ?_⟩
      · intro l_1 l_2 l_3 l_3l l_5 σ lv p g_0 g_1 g_2 g_3 hnb hr_66_9 H
        unfold L_215 at H
        rw [if_pos rfl] at H
        refine ev_x (i := .iload_n 3) (len := 1) (p' := 3) (s' := [.int l_3]) rfl rfl (ld_i g_3) ?_
        refine ev_x (i := .aload_n 0) (len := 1) (p' := 4) (s' := [.ref 66, .int l_3]) rfl rfl (ld_a g_0) ?_
        refine ev_gr (p' := 7) (v := 79) rfl rfl rfl ly_66 rfl rfl hr_66_9 ?_
        refine ev_gc (p' := 10) (v := 104) rfl rfl rfl ly_79 rfl rfl ?_
        refine ev_x (i := .iload_n 1) (len := 1) (p' := 11) (s' := [.int l_1, .ref 104, .int l_3]) rfl rfl (ld_i g_1) ?_
        obtain ⟨b_1, H⟩ := F_gd H
        refine ev_ga (p' := 12) (v := (gE (σ) 104 (l_1 : Int32).toNatClampNeg)) rfl rfl ly_104 rfl (gd_in b_1) rfl ?_
        refine F_if H (fun c_2 H => ?_) (fun c_2 H => ?_)
        · refine ev_b2 (t := 124) (p' := 124) rfl rfl rfl (if_pos c_2) ?_
          refine ev_x (i := .lconst 1) (len := 1) (p' := 125) (s' := [.long 1]) rfl rfl rfl ?_
          refine ev_x (i := .lstore_n 3) (len := 1) (p' := 126) (s' := []) (l' := vz_s2 (lv) 3 (.long 1)) rfl rfl rfl ?_
          refine ev_x (i := .iconst 0) (len := 1) (p' := 127) (s' := [.int 0]) rfl rfl rfl ?_
          refine ev_x (i := .istore 5) (len := 2) (p' := 129) (s' := []) (l' := vz_s1 (vz_s2 (lv) 3 (.long 1)) 5 (.int 0)) rfl rfl rfl ?_
          exact ih.2 _ _ _ _ _ _ _ _ (vg_o (i := 5) (v := .int 0) (vg_o2 (i := 3) (v := .long 1) g_0 (by decide) (by decide) (Or.inl rfl)) (by decide) (Or.inl rfl)) (vg_o (i := 5) (v := .int 0) (vg_o2 (i := 3) (v := .long 1) g_1 (by decide) (by decide) (Or.inl rfl)) (by decide) (Or.inl rfl)) (vg_o (i := 5) (v := .int 0) (vg_o2 (i := 3) (v := .long 1) g_2 (by decide) (by decide) (Or.inl rfl)) (by decide) (Or.inl rfl)) (vg_o (i := 5) (v := .int 0) (vg_s2 (lv) 3 (.long 1)) (by decide) (Or.inr (by decide))) (vg_s (vz_s2 (lv) 3 (.long 1)) 5 (.int 0)) (nb_s1 (nb_s2 hnb rfl) rfl) hr_66_9 H
        · refine ev_b2 (t := 124) (p' := 15) rfl rfl rfl (if_neg c_2) ?_
          refine ev_x (i := .aload_n 0) (len := 1) (p' := 16) (s' := [.ref 66]) rfl rfl (ld_a g_0) ?_
          refine ev_gi (p' := 19) (v := (gI σ 66 16)) rfl rfl rfl ly_66 rfl rfl rfl ?_
          refine F_if H (fun c_3 H => ?_) (fun c_3 H => ?_)
          · refine ev_b0 (t := 124) (p' := 22) rfl rfl rfl (if_neg (fun q => q c_3)) ?_
            refine ev_x (i := .aload_n 0) (len := 1) (p' := 23) (s' := [.ref 66]) rfl rfl (ld_a g_0) ?_
            refine ev_x (i := .aload_n 0) (len := 1) (p' := 24) (s' := [.ref 66, .ref 66]) rfl rfl (ld_a g_0) ?_
            refine ev_gr (p' := 27) (v := 79) rfl rfl rfl ly_66 rfl rfl hr_66_9 ?_
            refine ev_gc (p' := 30) (v := 105) rfl rfl rfl ly_79 rfl rfl ?_
            refine ev_x (i := .bipush 8) (len := 2) (p' := 32) (s' := [.int 8, .ref 105, .ref 66]) rfl rfl rfl ?_
            refine ev_x (i := .iload_n 1) (len := 1) (p' := 33) (s' := [.int l_1, .int 8, .ref 105, .ref 66]) rfl rfl (ld_i g_1) ?_
            refine ev_x (i := .imul) (len := 1) (p' := 34) (s' := [.int (8 * l_1), .ref 105, .ref 66]) rfl rfl rfl ?_
            refine ev_x (i := .iload_n 3) (len := 1) (p' := 35) (s' := [.int l_3, .int (8 * l_1), .ref 105, .ref 66]) rfl rfl (ld_i g_3) ?_
            refine ev_x (i := .iadd) (len := 1) (p' := 36) (s' := [.int ((8 * l_1) + l_3), .ref 105, .ref 66]) rfl rfl rfl ?_
            obtain ⟨b_4, H⟩ := F_gd H
            refine ev_ga (p' := 37) (v := (gE (σ) 105 (((8 * l_1) + l_3) : Int32).toNatClampNeg)) rfl rfl ly_105 rfl (gd_in b_4) rfl ?_
            obtain ⟨p_5, G_5, H⟩ := F_bd H
            refine ev_cv (d := d + 6) (As := [.int (gE (σ) 105 (((8 * l_1) + l_3) : Int32).toNatClampNeg)]) (a := 66) (p' := 40) rfl rfl rfl ly_66 rfl rfl rfl rfl rfl hnb rfl (F_213_ok (d := d + 0) (hg := (Or.inl rfl)) (hr_66_9 := hr_66_9) G_5) ?_
            refine ev_st (st' := []) rfl ?_
            have e_5 := F_213_R G_5
            refine ev_x (i := .aload_n 0) (len := 1) (p' := 41) (s' := [.ref 66]) rfl rfl (ld_a g_0) ?_
            refine ev_gc (p' := 44) (v := 185) rfl rfl rfl ly_66 rfl rfl ?_
            refine ev_x (i := .iload_n 3) (len := 1) (p' := 45) (s' := [.int l_3, .ref 185]) rfl rfl (ld_i g_3) ?_
            refine ev_x (i := .aload_n 0) (len := 1) (p' := 46) (s' := [.ref 66, .int l_3, .ref 185]) rfl rfl (ld_a g_0) ?_
            refine ev_gc (p' := 49) (v := 163) rfl rfl rfl ly_66 rfl rfl ?_
            refine ev_x (i := .iconst 0) (len := 1) (p' := 50) (s' := [.int 0, .ref 163, .int l_3, .ref 185]) rfl rfl rfl ?_
            obtain ⟨b_6, H⟩ := F_gd H
            refine ev_gL (p' := 51) (v := (gL (p_5) 163 (0 : Int32).toNatClampNeg)) rfl rfl ly_163 rfl (gd_in b_6) rfl ?_
            obtain ⟨b_7, H⟩ := F_gd H
            refine ev_pL (j := (l_3 : Int32).toNatClampNeg) (p' := 52) rfl rfl ly_185 rfl (gd_in b_7) rfl ?_
            refine ev_x (i := .aload_n 0) (len := 1) (p' := 53) (s' := [.ref 66]) rfl rfl (ld_a g_0) ?_
            refine ev_gc (p' := 56) (v := 186) rfl rfl rfl ly_66 rfl rfl ?_
            refine ev_x (i := .iload_n 3) (len := 1) (p' := 57) (s' := [.int l_3, .ref 186]) rfl rfl (ld_i g_3) ?_
            refine ev_x (i := .aload_n 0) (len := 1) (p' := 58) (s' := [.ref 66, .int l_3, .ref 186]) rfl rfl (ld_a g_0) ?_
            refine ev_gc (p' := 61) (v := 164) rfl rfl rfl ly_66 rfl rfl ?_
            refine ev_x (i := .iconst 0) (len := 1) (p' := 62) (s' := [.int 0, .ref 164, .int l_3, .ref 186]) rfl rfl rfl ?_
            obtain ⟨b_8, H⟩ := F_gd H
            refine ev_gL (p' := 63) (v := (gL (p_5) 164 (0 : Int32).toNatClampNeg)) rfl rfl ly_164 rfl (gd_in b_8) rfl ?_
            obtain ⟨b_9, H⟩ := F_gd H
            refine ev_pL (j := (l_3 : Int32).toNatClampNeg) (p' := 64) rfl rfl ly_186 rfl (gd_in b_9) rfl ?_
            refine ev_x (i := .aload_n 0) (len := 1) (p' := 65) (s' := [.ref 66]) rfl rfl (ld_a g_0) ?_
            refine ev_gi (p' := 68) (v := (gI p_5 66 16)) rfl rfl rfl ly_66 rfl rfl rfl ?_
            refine F_if H (fun c_10 H => ?_) (fun c_10 H => ?_)
            · refine ev_b0 (t := 118) (p' := 71) rfl rfl rfl (if_neg (fun q => q c_10)) ?_
              refine ev_x (i := .aload_n 0) (len := 1) (p' := 72) (s' := [.ref 66]) rfl rfl (ld_a g_0) ?_
              refine ev_gc (p' := 75) (v := 163) rfl rfl rfl ly_66 rfl rfl ?_
              refine ev_x (i := .iconst 0) (len := 1) (p' := 76) (s' := [.int 0, .ref 163]) rfl rfl rfl ?_
              refine ev_gL (p' := 77) (v := (gL (p_5) 163 (0 : Int32).toNatClampNeg)) rfl rfl ly_163 rfl (gd_in b_6) rfl ?_
              refine ev_x (i := .lconst 0) (len := 1) (p' := 78) (s' := [.long 0, .long (gL (p_5) 163 (0 : Int32).toNatClampNeg)]) rfl rfl rfl ?_
              refine ev_x (i := .lcmp) (len := 1) (p' := 79) (s' := [.int (lg_cmp (gL (p_5) 163 (0 : Int32).toNatClampNeg) 0)]) rfl rfl rfl ?_
              refine F_if H (fun c_11 H => ?_) (fun c_11 H => ?_)
              · refine ev_b0 (t := 98) (p' := 98) rfl rfl rfl (if_pos c_11) ?_
                refine ev_x (i := .aload_n 0) (len := 1) (p' := 99) (s' := [.ref 66]) rfl rfl (ld_a g_0) ?_
                refine ev_x (i := .bipush 11) (len := 2) (p' := 101) (s' := [.int 11, .ref 66]) rfl rfl rfl ?_
                refine ev_x (i := .aload_n 0) (len := 1) (p' := 102) (s' := [.ref 66, .int 11, .ref 66]) rfl rfl (ld_a g_0) ?_
                refine ev_gr (p' := 105) (v := 79) rfl rfl rfl ly_66 rfl rfl ((congrFun (congrFun e_5 66) 9).trans hr_66_9) ?_
                refine ev_gc (p' := 108) (v := 106) rfl rfl rfl ly_79 rfl rfl ?_
                refine ev_x (i := .bipush 8) (len := 2) (p' := 110) (s' := [.int 8, .ref 106, .int 11, .ref 66]) rfl rfl rfl ?_
                refine ev_x (i := .iload_n 1) (len := 1) (p' := 111) (s' := [.int l_1, .int 8, .ref 106, .int 11, .ref 66]) rfl rfl (ld_i g_1) ?_
                refine ev_x (i := .imul) (len := 1) (p' := 112) (s' := [.int (8 * l_1), .ref 106, .int 11, .ref 66]) rfl rfl rfl ?_
                refine ev_x (i := .iload_n 3) (len := 1) (p' := 113) (s' := [.int l_3, .int (8 * l_1), .ref 106, .int 11, .ref 66]) rfl rfl (ld_i g_3) ?_
                refine ev_x (i := .iadd) (len := 1) (p' := 114) (s' := [.int ((8 * l_1) + l_3), .ref 106, .int 11, .ref 66]) rfl rfl rfl ?_
                obtain ⟨b_12, H⟩ := F_gd H
                refine ev_ga (p' := 115) (v := (gE (p_5) 106 (((8 * l_1) + l_3) : Int32).toNatClampNeg)) rfl rfl ly_106 rfl (gd_in b_12) rfl ?_
                obtain ⟨p_13, G_13, H⟩ := F_bd H
                refine ev_cv (d := d + 6) (As := [.int 11, .int (gE (p_5) 106 (((8 * l_1) + l_3) : Int32).toNatClampNeg)]) (a := 66) (p' := 118) rfl rfl rfl ly_66 rfl rfl rfl rfl rfl hnb rfl (F_165_ok (d := d + 5)   G_13) ?_
                refine ev_st (st' := []) rfl ?_
                have e_13 := F_165_R G_13
                refine ev_x (i := .iinc 3 1) (len := 3) (p' := 121) (s' := []) (l' := vz_s1 (lv) 3 (.int (l_3 + 1))) rfl rfl (ld_inc g_3 rfl) ?_
                refine ev_x (i := .goto (-119)) (len := 3) (p' := 2) (s' := []) rfl rfl rfl ?_
                exact ih.1 _ _ _ _ _ _ _ _ (vg_o (i := 3) (v := .int (l_3 + 1)) g_0 (by decide) (Or.inl rfl)) (vg_o (i := 3) (v := .int (l_3 + 1)) g_1 (by decide) (Or.inl rfl)) (vg_o (i := 3) (v := .int (l_3 + 1)) g_2 (by decide) (Or.inl rfl)) (vg_s (lv) 3 (.int (l_3 + 1))) (nb_s1 hnb rfl) ((congrFun (congrFun e_13 66) 9).trans ((congrFun (congrFun e_5 66) 9).trans hr_66_9)) H
              · refine ev_b0 (t := 98) (p' := 82) rfl rfl rfl (if_neg c_11) ?_
                refine ev_x (i := .aload_n 0) (len := 1) (p' := 83) (s' := [.ref 66]) rfl rfl (ld_a g_0) ?_
                refine ev_gc (p' := 86) (v := 163) rfl rfl rfl ly_66 rfl rfl ?_
                refine ev_x (i := .iconst 0) (len := 1) (p' := 87) (s' := [.int 0, .ref 163]) rfl rfl rfl ?_
                refine ev_gL (p' := 88) (v := (gL (p_5) 163 (0 : Int32).toNatClampNeg)) rfl rfl ly_163 rfl (gd_in b_6) rfl ?_
                refine ev_x (i := .aload_n 0) (len := 1) (p' := 89) (s' := [.ref 66, .long (gL (p_5) 163 (0 : Int32).toNatClampNeg)]) rfl rfl (ld_a g_0) ?_
                refine ev_gc (p' := 92) (v := 164) rfl rfl rfl ly_66 rfl rfl ?_
                refine ev_x (i := .iconst 0) (len := 1) (p' := 93) (s' := [.int 0, .ref 164, .long (gL (p_5) 163 (0 : Int32).toNatClampNeg)]) rfl rfl rfl ?_
                refine ev_gL (p' := 94) (v := (gL (p_5) 164 (0 : Int32).toNatClampNeg)) rfl rfl ly_164 rfl (gd_in b_8) rfl ?_
                refine ev_x (i := .lcmp) (len := 1) (p' := 95) (s' := [.int (lg_cmp (gL (p_5) 163 (0 : Int32).toNatClampNeg) (gL (p_5) 164 (0 : Int32).toNatClampNeg))]) rfl rfl rfl ?_
                refine F_if H (fun c_14 H => ?_) (fun c_14 H => ?_)
                · refine ev_b0 (t := 118) (p' := 118) rfl rfl rfl (if_pos c_14) ?_
                  refine ev_x (i := .iinc 3 1) (len := 3) (p' := 121) (s' := []) (l' := vz_s1 (lv) 3 (.int (l_3 + 1))) rfl rfl (ld_inc g_3 rfl) ?_
                  refine ev_x (i := .goto (-119)) (len := 3) (p' := 2) (s' := []) rfl rfl rfl ?_
                  exact ih.1 _ _ _ _ _ _ _ _ (vg_o (i := 3) (v := .int (l_3 + 1)) g_0 (by decide) (Or.inl rfl)) (vg_o (i := 3) (v := .int (l_3 + 1)) g_1 (by decide) (Or.inl rfl)) (vg_o (i := 3) (v := .int (l_3 + 1)) g_2 (by decide) (Or.inl rfl)) (vg_s (lv) 3 (.int (l_3 + 1))) (nb_s1 hnb rfl) ((congrFun (congrFun e_5 66) 9).trans hr_66_9) H
                · refine ev_b0 (t := 118) (p' := 98) rfl rfl rfl (if_neg c_14) ?_
                  refine ev_x (i := .aload_n 0) (len := 1) (p' := 99) (s' := [.ref 66]) rfl rfl (ld_a g_0) ?_
                  refine ev_x (i := .bipush 11) (len := 2) (p' := 101) (s' := [.int 11, .ref 66]) rfl rfl rfl ?_
                  refine ev_x (i := .aload_n 0) (len := 1) (p' := 102) (s' := [.ref 66, .int 11, .ref 66]) rfl rfl (ld_a g_0) ?_
                  refine ev_gr (p' := 105) (v := 79) rfl rfl rfl ly_66 rfl rfl ((congrFun (congrFun e_5 66) 9).trans hr_66_9) ?_
                  refine ev_gc (p' := 108) (v := 106) rfl rfl rfl ly_79 rfl rfl ?_
                  refine ev_x (i := .bipush 8) (len := 2) (p' := 110) (s' := [.int 8, .ref 106, .int 11, .ref 66]) rfl rfl rfl ?_
                  refine ev_x (i := .iload_n 1) (len := 1) (p' := 111) (s' := [.int l_1, .int 8, .ref 106, .int 11, .ref 66]) rfl rfl (ld_i g_1) ?_
                  refine ev_x (i := .imul) (len := 1) (p' := 112) (s' := [.int (8 * l_1), .ref 106, .int 11, .ref 66]) rfl rfl rfl ?_
                  refine ev_x (i := .iload_n 3) (len := 1) (p' := 113) (s' := [.int l_3, .int (8 * l_1), .ref 106, .int 11, .ref 66]) rfl rfl (ld_i g_3) ?_
                  refine ev_x (i := .iadd) (len := 1) (p' := 114) (s' := [.int ((8 * l_1) + l_3), .ref 106, .int 11, .ref 66]) rfl rfl rfl ?_
                  obtain ⟨b_15, H⟩ := F_gd H
                  refine ev_ga (p' := 115) (v := (gE (p_5) 106 (((8 * l_1) + l_3) : Int32).toNatClampNeg)) rfl rfl ly_106 rfl (gd_in b_15) rfl ?_
                  obtain ⟨p_16, G_16, H⟩ := F_bd H
                  refine ev_cv (d := d + 6) (As := [.int 11, .int (gE (p_5) 106 (((8 * l_1) + l_3) : Int32).toNatClampNeg)]) (a := 66) (p' := 118) rfl rfl rfl ly_66 rfl rfl rfl rfl rfl hnb rfl (F_165_ok (d := d + 5)   G_16) ?_
                  refine ev_st (st' := []) rfl ?_
                  have e_16 := F_165_R G_16
                  refine ev_x (i := .iinc 3 1) (len := 3) (p' := 121) (s' := []) (l' := vz_s1 (lv) 3 (.int (l_3 + 1))) rfl rfl (ld_inc g_3 rfl) ?_
                  refine ev_x (i := .goto (-119)) (len := 3) (p' := 2) (s' := []) rfl rfl rfl ?_
                  exact ih.1 _ _ _ _ _ _ _ _ (vg_o (i := 3) (v := .int (l_3 + 1)) g_0 (by decide) (Or.inl rfl)) (vg_o (i := 3) (v := .int (l_3 + 1)) g_1 (by decide) (Or.inl rfl)) (vg_o (i := 3) (v := .int (l_3 + 1)) g_2 (by decide) (Or.inl rfl)) (vg_s (lv) 3 (.int (l_3 + 1))) (nb_s1 hnb rfl) ((congrFun (congrFun e_16 66) 9).trans ((congrFun (congrFun e_5 66) 9).trans hr_66_9)) H
            · refine ev_b0 (t := 118) (p' := 118) rfl rfl rfl (if_pos c_10) ?_
              refine ev_x (i := .iinc 3 1) (len := 3) (p' := 121) (s' := []) (l' := vz_s1 (lv) 3 (.int (l_3 + 1))) rfl rfl (ld_inc g_3 rfl) ?_
              refine ev_x (i := .goto (-119)) (len := 3) (p' := 2) (s' := []) rfl rfl rfl ?_
              exact ih.1 _ _ _ _ _ _ _ _ (vg_o (i := 3) (v := .int (l_3 + 1)) g_0 (by decide) (Or.inl rfl)) (vg_o (i := 3) (v := .int (l_3 + 1)) g_1 (by decide) (Or.inl rfl)) (vg_o (i := 3) (v := .int (l_3 + 1)) g_2 (by decide) (Or.inl rfl)) (vg_s (lv) 3 (.int (l_3 + 1))) (nb_s1 hnb rfl) ((congrFun (congrFun e_5 66) 9).trans hr_66_9) H
          · refine ev_b0 (t := 124) (p' := 124) rfl rfl rfl (if_pos c_3) ?_
            refine ev_x (i := .lconst 1) (len := 1) (p' := 125) (s' := [.long 1]) rfl rfl rfl ?_
            refine ev_x (i := .lstore_n 3) (len := 1) (p' := 126) (s' := []) (l' := vz_s2 (lv) 3 (.long 1)) rfl rfl rfl ?_
            refine ev_x (i := .iconst 0) (len := 1) (p' := 127) (s' := [.int 0]) rfl rfl rfl ?_
            refine ev_x (i := .istore 5) (len := 2) (p' := 129) (s' := []) (l' := vz_s1 (vz_s2 (lv) 3 (.long 1)) 5 (.int 0)) rfl rfl rfl ?_
            exact ih.2 _ _ _ _ _ _ _ _ (vg_o (i := 5) (v := .int 0) (vg_o2 (i := 3) (v := .long 1) g_0 (by decide) (by decide) (Or.inl rfl)) (by decide) (Or.inl rfl)) (vg_o (i := 5) (v := .int 0) (vg_o2 (i := 3) (v := .long 1) g_1 (by decide) (by decide) (Or.inl rfl)) (by decide) (Or.inl rfl)) (vg_o (i := 5) (v := .int 0) (vg_o2 (i := 3) (v := .long 1) g_2 (by decide) (by decide) (Or.inl rfl)) (by decide) (Or.inl rfl)) (vg_o (i := 5) (v := .int 0) (vg_s2 (lv) 3 (.long 1)) (by decide) (Or.inr (by decide))) (vg_s (vz_s2 (lv) 3 (.long 1)) 5 (.int 0)) (nb_s1 (nb_s2 hnb rfl) rfl) hr_66_9 H
      · intro l_1 l_2 l_3 l_3l l_5 σ lv p g_0 g_1 g_2 g_3 g_5 hnb hr_66_9 H
        unfold L_215 at H
        rw [if_neg (by decide)] at H
        refine ev_x (i := .iload 5) (len := 2) (p' := 131) (s' := [.int l_5]) rfl rfl (ld_i g_5) ?_
        refine ev_x (i := .aload_n 0) (len := 1) (p' := 132) (s' := [.ref 66, .int l_5]) rfl rfl (ld_a g_0) ?_
        refine ev_gr (p' := 135) (v := 79) rfl rfl rfl ly_66 rfl rfl hr_66_9 ?_
        refine ev_gc (p' := 138) (v := 104) rfl rfl rfl ly_79 rfl rfl ?_
        refine ev_x (i := .iload_n 1) (len := 1) (p' := 139) (s' := [.int l_1, .ref 104, .int l_5]) rfl rfl (ld_i g_1) ?_
        obtain ⟨b_17, H⟩ := F_gd H
        refine ev_ga (p' := 140) (v := (gE (σ) 104 (l_1 : Int32).toNatClampNeg)) rfl rfl ly_104 rfl (gd_in b_17) rfl ?_
        refine F_if H (fun c_18 H => ?_) (fun c_18 H => ?_)
        · refine ev_b2 (t := 193) (p' := 193) rfl rfl rfl (if_pos c_18) ?_
          refine ev_x (i := .lload_n 3) (len := 1) (p' := 194) (s' := [.long l_3l]) rfl rfl (ld_l g_3) ?_
          obtain rfl := Option.some.inj H
          exact ev_lret rfl rfl rfl rfl
        · refine ev_b2 (t := 193) (p' := 143) rfl rfl rfl (if_neg c_18) ?_
          refine ev_x (i := .aload_n 0) (len := 1) (p' := 144) (s' := [.ref 66]) rfl rfl (ld_a g_0) ?_
          refine ev_gi (p' := 147) (v := (gI σ 66 16)) rfl rfl rfl ly_66 rfl rfl rfl ?_
          refine F_if H (fun c_19 H => ?_) (fun c_19 H => ?_)
          · refine ev_b0 (t := 193) (p' := 150) rfl rfl rfl (if_neg (fun q => q c_19)) ?_
            refine ev_x (i := .lload_n 3) (len := 1) (p' := 151) (s' := [.long l_3l]) rfl rfl (ld_l g_3) ?_
            refine ev_x (i := .lload_n 3) (len := 1) (p' := 152) (s' := [.long l_3l, .long l_3l]) rfl rfl (ld_l g_3) ?_
            refine ev_x (i := .aload_n 0) (len := 1) (p' := 153) (s' := [.ref 66, .long l_3l, .long l_3l]) rfl rfl (ld_a g_0) ?_
            refine ev_gc (p' := 156) (v := 186) rfl rfl rfl ly_66 rfl rfl ?_
            refine ev_x (i := .iload 5) (len := 2) (p' := 158) (s' := [.int l_5, .ref 186, .long l_3l, .long l_3l]) rfl rfl (ld_i g_5) ?_
            obtain ⟨b_20, H⟩ := F_gd H
            refine ev_gL (p' := 159) (v := (gL (σ) 186 (l_5 : Int32).toNatClampNeg)) rfl rfl ly_186 rfl (gd_in b_20) rfl ?_
            obtain ⟨p_21, G_21, H⟩ := F_bd H
            refine ev_callS (d := d + 6) (As := [.long l_3l, .long (gL (σ) 186 (l_5 : Int32).toNatClampNeg)]) rfl rfl rfl (by decide) rfl rfl rfl rfl hnb (F_196_ok (d := d + 5)   G_21) ?_
            refine ev_st (st' := [.long p_21.1, .long l_3l]) rfl ?_
            refine ev_pc (pc' := 162) rfl ?_
            have e_21 := F_196_R G_21
            obtain ⟨b_22, H⟩ := F_gd H
            refine ev_ldiv (p' := 163) rfl rfl b_22 rfl ?_
            refine ev_x (i := .aload_n 0) (len := 1) (p' := 164) (s' := [.ref 66, .long (l_3l / p_21.1)]) rfl rfl (ld_a g_0) ?_
            refine ev_gc (p' := 167) (v := 186) rfl rfl rfl ly_66 rfl rfl ?_
            refine ev_x (i := .iload 5) (len := 2) (p' := 169) (s' := [.int l_5, .ref 186, .long (l_3l / p_21.1)]) rfl rfl (ld_i g_5) ?_
            obtain ⟨b_23, H⟩ := F_gd H
            refine ev_gL (p' := 170) (v := (gL (p_21.2) 186 (l_5 : Int32).toNatClampNeg)) rfl rfl ly_186 rfl (gd_in b_23) rfl ?_
            refine ev_x (i := .lmul) (len := 1) (p' := 171) (s' := [.long ((l_3l / p_21.1) * (gL (p_21.2) 186 (l_5 : Int32).toNatClampNeg))]) rfl rfl rfl ?_
            refine ev_x (i := .lstore_n 3) (len := 1) (p' := 172) (s' := []) (l' := vz_s2 (lv) 3 (.long ((l_3l / p_21.1) * (gL (p_21.2) 186 (l_5 : Int32).toNatClampNeg)))) rfl rfl rfl ?_
            refine ev_x (i := .lload_n 3) (len := 1) (p' := 173) (s' := [.long ((l_3l / p_21.1) * (gL (p_21.2) 186 (l_5 : Int32).toNatClampNeg))]) rfl rfl (ld_l (vg_s2 (lv) 3 (.long ((l_3l / p_21.1) * (gL (p_21.2) 186 (l_5 : Int32).toNatClampNeg))))) ?_
            refine ev_x (i := .ldc2_w 368) (len := 3) (p' := 176) (s' := [.long 1000000000, .long ((l_3l / p_21.1) * (gL (p_21.2) 186 (l_5 : Int32).toNatClampNeg))]) rfl rfl rfl ?_
            refine ev_x (i := .lcmp) (len := 1) (p' := 177) (s' := [.int (lg_cmp ((l_3l / p_21.1) * (gL (p_21.2) 186 (l_5 : Int32).toNatClampNeg)) 1000000000)]) rfl rfl rfl ?_
            refine F_if H (fun c_24 H => ?_) (fun c_24 H => ?_)
            · refine ev_b0 (t := 187) (p' := 187) rfl rfl rfl (if_pos c_24) ?_
              refine ev_x (i := .iinc 5 1) (len := 3) (p' := 190) (s' := []) (l' := vz_s1 (vz_s2 (lv) 3 (.long ((l_3l / p_21.1) * (gL (p_21.2) 186 (l_5 : Int32).toNatClampNeg)))) 5 (.int (l_5 + 1))) rfl rfl (ld_inc (vg_o2 (i := 3) (v := .long ((l_3l / p_21.1) * (gL (p_21.2) 186 (l_5 : Int32).toNatClampNeg))) g_5 (by decide) (by decide) (Or.inl rfl)) rfl) ?_
              refine ev_x (i := .goto (-61)) (len := 3) (p' := 129) (s' := []) rfl rfl rfl ?_
              exact ih.2 _ _ _ _ _ _ _ _ (vg_o (i := 5) (v := .int (l_5 + 1)) (vg_o2 (i := 3) (v := .long ((l_3l / p_21.1) * (gL (p_21.2) 186 (l_5 : Int32).toNatClampNeg))) g_0 (by decide) (by decide) (Or.inl rfl)) (by decide) (Or.inl rfl)) (vg_o (i := 5) (v := .int (l_5 + 1)) (vg_o2 (i := 3) (v := .long ((l_3l / p_21.1) * (gL (p_21.2) 186 (l_5 : Int32).toNatClampNeg))) g_1 (by decide) (by decide) (Or.inl rfl)) (by decide) (Or.inl rfl)) (vg_o (i := 5) (v := .int (l_5 + 1)) (vg_o2 (i := 3) (v := .long ((l_3l / p_21.1) * (gL (p_21.2) 186 (l_5 : Int32).toNatClampNeg))) g_2 (by decide) (by decide) (Or.inl rfl)) (by decide) (Or.inl rfl)) (vg_o (i := 5) (v := .int (l_5 + 1)) (vg_s2 (lv) 3 (.long ((l_3l / p_21.1) * (gL (p_21.2) 186 (l_5 : Int32).toNatClampNeg)))) (by decide) (Or.inr (by decide))) (vg_s (vz_s2 (lv) 3 (.long ((l_3l / p_21.1) * (gL (p_21.2) 186 (l_5 : Int32).toNatClampNeg)))) 5 (.int (l_5 + 1))) (nb_s1 (nb_s2 hnb rfl) rfl) ((congrFun (congrFun e_21 66) 9).trans hr_66_9) H
            · refine ev_b0 (t := 187) (p' := 180) rfl rfl rfl (if_neg c_24) ?_
              refine ev_x (i := .aload_n 0) (len := 1) (p' := 181) (s' := [.ref 66]) rfl rfl (ld_a (vg_o2 (i := 3) (v := .long ((l_3l / p_21.1) * (gL (p_21.2) 186 (l_5 : Int32).toNatClampNeg))) g_0 (by decide) (by decide) (Or.inl rfl))) ?_
              refine ev_x (i := .bipush 6) (len := 2) (p' := 183) (s' := [.int 6, .ref 66]) rfl rfl rfl ?_
              refine ev_x (i := .iload_n 2) (len := 1) (p' := 184) (s' := [.int l_2, .int 6, .ref 66]) rfl rfl (ld_i (vg_o2 (i := 3) (v := .long ((l_3l / p_21.1) * (gL (p_21.2) 186 (l_5 : Int32).toNatClampNeg))) g_2 (by decide) (by decide) (Or.inl rfl))) ?_
              obtain ⟨p_25, G_25, H⟩ := F_bd H
              refine ev_cv (d := d + 6) (As := [.int 6, .int l_2]) (a := 66) (p' := 187) rfl rfl rfl ly_66 rfl rfl rfl rfl rfl (nb_s2 hnb rfl) rfl (F_165_ok (d := d + 5)   G_25) ?_
              refine ev_st (st' := []) rfl ?_
              have e_25 := F_165_R G_25
              refine ev_x (i := .iinc 5 1) (len := 3) (p' := 190) (s' := []) (l' := vz_s1 (vz_s2 (lv) 3 (.long ((l_3l / p_21.1) * (gL (p_21.2) 186 (l_5 : Int32).toNatClampNeg)))) 5 (.int (l_5 + 1))) rfl rfl (ld_inc (vg_o2 (i := 3) (v := .long ((l_3l / p_21.1) * (gL (p_21.2) 186 (l_5 : Int32).toNatClampNeg))) g_5 (by decide) (by decide) (Or.inl rfl)) rfl) ?_
              refine ev_x (i := .goto (-61)) (len := 3) (p' := 129) (s' := []) rfl rfl rfl ?_
              exact ih.2 _ _ _ _ _ _ _ _ (vg_o (i := 5) (v := .int (l_5 + 1)) (vg_o2 (i := 3) (v := .long ((l_3l / p_21.1) * (gL (p_21.2) 186 (l_5 : Int32).toNatClampNeg))) g_0 (by decide) (by decide) (Or.inl rfl)) (by decide) (Or.inl rfl)) (vg_o (i := 5) (v := .int (l_5 + 1)) (vg_o2 (i := 3) (v := .long ((l_3l / p_21.1) * (gL (p_21.2) 186 (l_5 : Int32).toNatClampNeg))) g_1 (by decide) (by decide) (Or.inl rfl)) (by decide) (Or.inl rfl)) (vg_o (i := 5) (v := .int (l_5 + 1)) (vg_o2 (i := 3) (v := .long ((l_3l / p_21.1) * (gL (p_21.2) 186 (l_5 : Int32).toNatClampNeg))) g_2 (by decide) (by decide) (Or.inl rfl)) (by decide) (Or.inl rfl)) (vg_o (i := 5) (v := .int (l_5 + 1)) (vg_s2 (lv) 3 (.long ((l_3l / p_21.1) * (gL (p_21.2) 186 (l_5 : Int32).toNatClampNeg)))) (by decide) (Or.inr (by decide))) (vg_s (vz_s2 (lv) 3 (.long ((l_3l / p_21.1) * (gL (p_21.2) 186 (l_5 : Int32).toNatClampNeg)))) 5 (.int (l_5 + 1))) (nb_s1 (nb_s2 hnb rfl) rfl) ((congrFun (congrFun e_25 66) 9).trans ((congrFun (congrFun e_21 66) 9).trans hr_66_9)) H
          · refine ev_b0 (t := 193) (p' := 193) rfl rfl rfl (if_pos c_19) ?_
            refine ev_x (i := .lload_n 3) (len := 1) (p' := 194) (s' := [.long l_3l]) rfl rfl (ld_l g_3) ?_
            obtain rfl := Option.some.inj H
            exact ev_lret rfl rfl rfl rfl
  · intro k
    induction k with
    | zero => exact ⟨(by intro l_1 l_2 l_3 l_3l l_5 σ lv p g_0 g_1 g_2 g_3 hnb hr_66_9 H; unfold L_215 at H; cases H), (by intro l_1 l_2 l_3 l_3l l_5 σ lv p g_0 g_1 g_2 g_3 g_5 hnb hr_66_9 H; unfold L_215 at H; cases H)⟩
    | succ k ih =>
      refine ⟨?_, ?_⟩
      · intro l_1 l_2 l_3 l_3l l_5 σ lv p g_0 g_1 g_2 g_3 hnb hr_66_9 H
        unfold L_215 at H
        rw [if_pos rfl] at H
        refine ev_x (i := .iload_n 3) (len := 1) (p' := 3) (s' := [.int l_3]) rfl rfl (ld_i g_3) ?_
        refine ev_x (i := .aload_n 0) (len := 1) (p' := 4) (s' := [.ref 66, .int l_3]) rfl rfl (ld_a g_0) ?_
        refine ev_gr (p' := 7) (v := 115) rfl rfl rfl ly_66 rfl rfl hr_66_9 ?_
        refine ev_gc (p' := 10) (v := 140) rfl rfl rfl ly_115 rfl rfl ?_
        refine ev_x (i := .iload_n 1) (len := 1) (p' := 11) (s' := [.int l_1, .ref 140, .int l_3]) rfl rfl (ld_i g_1) ?_
        obtain ⟨b_1, H⟩ := F_gd H
        refine ev_ga (p' := 12) (v := (gE (σ) 140 (l_1 : Int32).toNatClampNeg)) rfl rfl ly_140 rfl (gd_in b_1) rfl ?_
        refine F_if H (fun c_2 H => ?_) (fun c_2 H => ?_)
        · refine ev_b2 (t := 124) (p' := 124) rfl rfl rfl (if_pos c_2) ?_
          refine ev_x (i := .lconst 1) (len := 1) (p' := 125) (s' := [.long 1]) rfl rfl rfl ?_
          refine ev_x (i := .lstore_n 3) (len := 1) (p' := 126) (s' := []) (l' := vz_s2 (lv) 3 (.long 1)) rfl rfl rfl ?_
          refine ev_x (i := .iconst 0) (len := 1) (p' := 127) (s' := [.int 0]) rfl rfl rfl ?_
          refine ev_x (i := .istore 5) (len := 2) (p' := 129) (s' := []) (l' := vz_s1 (vz_s2 (lv) 3 (.long 1)) 5 (.int 0)) rfl rfl rfl ?_
          exact ih.2 _ _ _ _ _ _ _ _ (vg_o (i := 5) (v := .int 0) (vg_o2 (i := 3) (v := .long 1) g_0 (by decide) (by decide) (Or.inl rfl)) (by decide) (Or.inl rfl)) (vg_o (i := 5) (v := .int 0) (vg_o2 (i := 3) (v := .long 1) g_1 (by decide) (by decide) (Or.inl rfl)) (by decide) (Or.inl rfl)) (vg_o (i := 5) (v := .int 0) (vg_o2 (i := 3) (v := .long 1) g_2 (by decide) (by decide) (Or.inl rfl)) (by decide) (Or.inl rfl)) (vg_o (i := 5) (v := .int 0) (vg_s2 (lv) 3 (.long 1)) (by decide) (Or.inr (by decide))) (vg_s (vz_s2 (lv) 3 (.long 1)) 5 (.int 0)) (nb_s1 (nb_s2 hnb rfl) rfl) hr_66_9 H
        · refine ev_b2 (t := 124) (p' := 15) rfl rfl rfl (if_neg c_2) ?_
          refine ev_x (i := .aload_n 0) (len := 1) (p' := 16) (s' := [.ref 66]) rfl rfl (ld_a g_0) ?_
          refine ev_gi (p' := 19) (v := (gI σ 66 16)) rfl rfl rfl ly_66 rfl rfl rfl ?_
          refine F_if H (fun c_3 H => ?_) (fun c_3 H => ?_)
          · refine ev_b0 (t := 124) (p' := 22) rfl rfl rfl (if_neg (fun q => q c_3)) ?_
            refine ev_x (i := .aload_n 0) (len := 1) (p' := 23) (s' := [.ref 66]) rfl rfl (ld_a g_0) ?_
            refine ev_x (i := .aload_n 0) (len := 1) (p' := 24) (s' := [.ref 66, .ref 66]) rfl rfl (ld_a g_0) ?_
            refine ev_gr (p' := 27) (v := 115) rfl rfl rfl ly_66 rfl rfl hr_66_9 ?_
            refine ev_gc (p' := 30) (v := 141) rfl rfl rfl ly_115 rfl rfl ?_
            refine ev_x (i := .bipush 8) (len := 2) (p' := 32) (s' := [.int 8, .ref 141, .ref 66]) rfl rfl rfl ?_
            refine ev_x (i := .iload_n 1) (len := 1) (p' := 33) (s' := [.int l_1, .int 8, .ref 141, .ref 66]) rfl rfl (ld_i g_1) ?_
            refine ev_x (i := .imul) (len := 1) (p' := 34) (s' := [.int (8 * l_1), .ref 141, .ref 66]) rfl rfl rfl ?_
            refine ev_x (i := .iload_n 3) (len := 1) (p' := 35) (s' := [.int l_3, .int (8 * l_1), .ref 141, .ref 66]) rfl rfl (ld_i g_3) ?_
            refine ev_x (i := .iadd) (len := 1) (p' := 36) (s' := [.int ((8 * l_1) + l_3), .ref 141, .ref 66]) rfl rfl rfl ?_
            obtain ⟨b_4, H⟩ := F_gd H
            refine ev_ga (p' := 37) (v := (gE (σ) 141 (((8 * l_1) + l_3) : Int32).toNatClampNeg)) rfl rfl ly_141 rfl (gd_in b_4) rfl ?_
            obtain ⟨p_5, G_5, H⟩ := F_bd H
            refine ev_cv (d := d + 6) (As := [.int (gE (σ) 141 (((8 * l_1) + l_3) : Int32).toNatClampNeg)]) (a := 66) (p' := 40) rfl rfl rfl ly_66 rfl rfl rfl rfl rfl hnb rfl (F_213_ok (d := d + 0) (hg := (Or.inr rfl)) (hr_66_9 := hr_66_9) G_5) ?_
            refine ev_st (st' := []) rfl ?_
            have e_5 := F_213_R G_5
            refine ev_x (i := .aload_n 0) (len := 1) (p' := 41) (s' := [.ref 66]) rfl rfl (ld_a g_0) ?_
            refine ev_gc (p' := 44) (v := 185) rfl rfl rfl ly_66 rfl rfl ?_
            refine ev_x (i := .iload_n 3) (len := 1) (p' := 45) (s' := [.int l_3, .ref 185]) rfl rfl (ld_i g_3) ?_
            refine ev_x (i := .aload_n 0) (len := 1) (p' := 46) (s' := [.ref 66, .int l_3, .ref 185]) rfl rfl (ld_a g_0) ?_
            refine ev_gc (p' := 49) (v := 163) rfl rfl rfl ly_66 rfl rfl ?_
            refine ev_x (i := .iconst 0) (len := 1) (p' := 50) (s' := [.int 0, .ref 163, .int l_3, .ref 185]) rfl rfl rfl ?_
            obtain ⟨b_6, H⟩ := F_gd H
            refine ev_gL (p' := 51) (v := (gL (p_5) 163 (0 : Int32).toNatClampNeg)) rfl rfl ly_163 rfl (gd_in b_6) rfl ?_
            obtain ⟨b_7, H⟩ := F_gd H
            refine ev_pL (j := (l_3 : Int32).toNatClampNeg) (p' := 52) rfl rfl ly_185 rfl (gd_in b_7) rfl ?_
            refine ev_x (i := .aload_n 0) (len := 1) (p' := 53) (s' := [.ref 66]) rfl rfl (ld_a g_0) ?_
            refine ev_gc (p' := 56) (v := 186) rfl rfl rfl ly_66 rfl rfl ?_
            refine ev_x (i := .iload_n 3) (len := 1) (p' := 57) (s' := [.int l_3, .ref 186]) rfl rfl (ld_i g_3) ?_
            refine ev_x (i := .aload_n 0) (len := 1) (p' := 58) (s' := [.ref 66, .int l_3, .ref 186]) rfl rfl (ld_a g_0) ?_
            refine ev_gc (p' := 61) (v := 164) rfl rfl rfl ly_66 rfl rfl ?_
            refine ev_x (i := .iconst 0) (len := 1) (p' := 62) (s' := [.int 0, .ref 164, .int l_3, .ref 186]) rfl rfl rfl ?_
            obtain ⟨b_8, H⟩ := F_gd H
            refine ev_gL (p' := 63) (v := (gL (p_5) 164 (0 : Int32).toNatClampNeg)) rfl rfl ly_164 rfl (gd_in b_8) rfl ?_
            obtain ⟨b_9, H⟩ := F_gd H
            refine ev_pL (j := (l_3 : Int32).toNatClampNeg) (p' := 64) rfl rfl ly_186 rfl (gd_in b_9) rfl ?_
            refine ev_x (i := .aload_n 0) (len := 1) (p' := 65) (s' := [.ref 66]) rfl rfl (ld_a g_0) ?_
            refine ev_gi (p' := 68) (v := (gI p_5 66 16)) rfl rfl rfl ly_66 rfl rfl rfl ?_
            refine F_if H (fun c_10 H => ?_) (fun c_10 H => ?_)
            · refine ev_b0 (t := 118) (p' := 71) rfl rfl rfl (if_neg (fun q => q c_10)) ?_
              refine ev_x (i := .aload_n 0) (len := 1) (p' := 72) (s' := [.ref 66]) rfl rfl (ld_a g_0) ?_
              refine ev_gc (p' := 75) (v := 163) rfl rfl rfl ly_66 rfl rfl ?_
              refine ev_x (i := .iconst 0) (len := 1) (p' := 76) (s' := [.int 0, .ref 163]) rfl rfl rfl ?_
              refine ev_gL (p' := 77) (v := (gL (p_5) 163 (0 : Int32).toNatClampNeg)) rfl rfl ly_163 rfl (gd_in b_6) rfl ?_
              refine ev_x (i := .lconst 0) (len := 1) (p' := 78) (s' := [.long 0, .long (gL (p_5) 163 (0 : Int32).toNatClampNeg)]) rfl rfl rfl ?_
              refine ev_x (i := .lcmp) (len := 1) (p' := 79) (s' := [.int (lg_cmp (gL (p_5) 163 (0 : Int32).toNatClampNeg) 0)]) rfl rfl rfl ?_
              refine F_if H (fun c_11 H => ?_) (fun c_11 H => ?_)
              · refine ev_b0 (t := 98) (p' := 98) rfl rfl rfl (if_pos c_11) ?_
                refine ev_x (i := .aload_n 0) (len := 1) (p' := 99) (s' := [.ref 66]) rfl rfl (ld_a g_0) ?_
                refine ev_x (i := .bipush 11) (len := 2) (p' := 101) (s' := [.int 11, .ref 66]) rfl rfl rfl ?_
                refine ev_x (i := .aload_n 0) (len := 1) (p' := 102) (s' := [.ref 66, .int 11, .ref 66]) rfl rfl (ld_a g_0) ?_
                refine ev_gr (p' := 105) (v := 115) rfl rfl rfl ly_66 rfl rfl ((congrFun (congrFun e_5 66) 9).trans hr_66_9) ?_
                refine ev_gc (p' := 108) (v := 142) rfl rfl rfl ly_115 rfl rfl ?_
                refine ev_x (i := .bipush 8) (len := 2) (p' := 110) (s' := [.int 8, .ref 142, .int 11, .ref 66]) rfl rfl rfl ?_
                refine ev_x (i := .iload_n 1) (len := 1) (p' := 111) (s' := [.int l_1, .int 8, .ref 142, .int 11, .ref 66]) rfl rfl (ld_i g_1) ?_
                refine ev_x (i := .imul) (len := 1) (p' := 112) (s' := [.int (8 * l_1), .ref 142, .int 11, .ref 66]) rfl rfl rfl ?_
                refine ev_x (i := .iload_n 3) (len := 1) (p' := 113) (s' := [.int l_3, .int (8 * l_1), .ref 142, .int 11, .ref 66]) rfl rfl (ld_i g_3) ?_
                refine ev_x (i := .iadd) (len := 1) (p' := 114) (s' := [.int ((8 * l_1) + l_3), .ref 142, .int 11, .ref 66]) rfl rfl rfl ?_
                obtain ⟨b_12, H⟩ := F_gd H
                refine ev_ga (p' := 115) (v := (gE (p_5) 142 (((8 * l_1) + l_3) : Int32).toNatClampNeg)) rfl rfl ly_142 rfl (gd_in b_12) rfl ?_
                obtain ⟨p_13, G_13, H⟩ := F_bd H
                refine ev_cv (d := d + 6) (As := [.int 11, .int (gE (p_5) 142 (((8 * l_1) + l_3) : Int32).toNatClampNeg)]) (a := 66) (p' := 118) rfl rfl rfl ly_66 rfl rfl rfl rfl rfl hnb rfl (F_165_ok (d := d + 5)   G_13) ?_
                refine ev_st (st' := []) rfl ?_
                have e_13 := F_165_R G_13
                refine ev_x (i := .iinc 3 1) (len := 3) (p' := 121) (s' := []) (l' := vz_s1 (lv) 3 (.int (l_3 + 1))) rfl rfl (ld_inc g_3 rfl) ?_
                refine ev_x (i := .goto (-119)) (len := 3) (p' := 2) (s' := []) rfl rfl rfl ?_
                exact ih.1 _ _ _ _ _ _ _ _ (vg_o (i := 3) (v := .int (l_3 + 1)) g_0 (by decide) (Or.inl rfl)) (vg_o (i := 3) (v := .int (l_3 + 1)) g_1 (by decide) (Or.inl rfl)) (vg_o (i := 3) (v := .int (l_3 + 1)) g_2 (by decide) (Or.inl rfl)) (vg_s (lv) 3 (.int (l_3 + 1))) (nb_s1 hnb rfl) ((congrFun (congrFun e_13 66) 9).trans ((congrFun (congrFun e_5 66) 9).trans hr_66_9)) H
              · refine ev_b0 (t := 98) (p' := 82) rfl rfl rfl (if_neg c_11) ?_
                refine ev_x (i := .aload_n 0) (len := 1) (p' := 83) (s' := [.ref 66]) rfl rfl (ld_a g_0) ?_
                refine ev_gc (p' := 86) (v := 163) rfl rfl rfl ly_66 rfl rfl ?_
                refine ev_x (i := .iconst 0) (len := 1) (p' := 87) (s' := [.int 0, .ref 163]) rfl rfl rfl ?_
                refine ev_gL (p' := 88) (v := (gL (p_5) 163 (0 : Int32).toNatClampNeg)) rfl rfl ly_163 rfl (gd_in b_6) rfl ?_
                refine ev_x (i := .aload_n 0) (len := 1) (p' := 89) (s' := [.ref 66, .long (gL (p_5) 163 (0 : Int32).toNatClampNeg)]) rfl rfl (ld_a g_0) ?_
                refine ev_gc (p' := 92) (v := 164) rfl rfl rfl ly_66 rfl rfl ?_
                refine ev_x (i := .iconst 0) (len := 1) (p' := 93) (s' := [.int 0, .ref 164, .long (gL (p_5) 163 (0 : Int32).toNatClampNeg)]) rfl rfl rfl ?_
                refine ev_gL (p' := 94) (v := (gL (p_5) 164 (0 : Int32).toNatClampNeg)) rfl rfl ly_164 rfl (gd_in b_8) rfl ?_
                refine ev_x (i := .lcmp) (len := 1) (p' := 95) (s' := [.int (lg_cmp (gL (p_5) 163 (0 : Int32).toNatClampNeg) (gL (p_5) 164 (0 : Int32).toNatClampNeg))]) rfl rfl rfl ?_
                refine F_if H (fun c_14 H => ?_) (fun c_14 H => ?_)
                · refine ev_b0 (t := 118) (p' := 118) rfl rfl rfl (if_pos c_14) ?_
                  refine ev_x (i := .iinc 3 1) (len := 3) (p' := 121) (s' := []) (l' := vz_s1 (lv) 3 (.int (l_3 + 1))) rfl rfl (ld_inc g_3 rfl) ?_
                  refine ev_x (i := .goto (-119)) (len := 3) (p' := 2) (s' := []) rfl rfl rfl ?_
                  exact ih.1 _ _ _ _ _ _ _ _ (vg_o (i := 3) (v := .int (l_3 + 1)) g_0 (by decide) (Or.inl rfl)) (vg_o (i := 3) (v := .int (l_3 + 1)) g_1 (by decide) (Or.inl rfl)) (vg_o (i := 3) (v := .int (l_3 + 1)) g_2 (by decide) (Or.inl rfl)) (vg_s (lv) 3 (.int (l_3 + 1))) (nb_s1 hnb rfl) ((congrFun (congrFun e_5 66) 9).trans hr_66_9) H
                · refine ev_b0 (t := 118) (p' := 98) rfl rfl rfl (if_neg c_14) ?_
                  refine ev_x (i := .aload_n 0) (len := 1) (p' := 99) (s' := [.ref 66]) rfl rfl (ld_a g_0) ?_
                  refine ev_x (i := .bipush 11) (len := 2) (p' := 101) (s' := [.int 11, .ref 66]) rfl rfl rfl ?_
                  refine ev_x (i := .aload_n 0) (len := 1) (p' := 102) (s' := [.ref 66, .int 11, .ref 66]) rfl rfl (ld_a g_0) ?_
                  refine ev_gr (p' := 105) (v := 115) rfl rfl rfl ly_66 rfl rfl ((congrFun (congrFun e_5 66) 9).trans hr_66_9) ?_
                  refine ev_gc (p' := 108) (v := 142) rfl rfl rfl ly_115 rfl rfl ?_
                  refine ev_x (i := .bipush 8) (len := 2) (p' := 110) (s' := [.int 8, .ref 142, .int 11, .ref 66]) rfl rfl rfl ?_
                  refine ev_x (i := .iload_n 1) (len := 1) (p' := 111) (s' := [.int l_1, .int 8, .ref 142, .int 11, .ref 66]) rfl rfl (ld_i g_1) ?_
                  refine ev_x (i := .imul) (len := 1) (p' := 112) (s' := [.int (8 * l_1), .ref 142, .int 11, .ref 66]) rfl rfl rfl ?_
                  refine ev_x (i := .iload_n 3) (len := 1) (p' := 113) (s' := [.int l_3, .int (8 * l_1), .ref 142, .int 11, .ref 66]) rfl rfl (ld_i g_3) ?_
                  refine ev_x (i := .iadd) (len := 1) (p' := 114) (s' := [.int ((8 * l_1) + l_3), .ref 142, .int 11, .ref 66]) rfl rfl rfl ?_
                  obtain ⟨b_15, H⟩ := F_gd H
                  refine ev_ga (p' := 115) (v := (gE (p_5) 142 (((8 * l_1) + l_3) : Int32).toNatClampNeg)) rfl rfl ly_142 rfl (gd_in b_15) rfl ?_
                  obtain ⟨p_16, G_16, H⟩ := F_bd H
                  refine ev_cv (d := d + 6) (As := [.int 11, .int (gE (p_5) 142 (((8 * l_1) + l_3) : Int32).toNatClampNeg)]) (a := 66) (p' := 118) rfl rfl rfl ly_66 rfl rfl rfl rfl rfl hnb rfl (F_165_ok (d := d + 5)   G_16) ?_
                  refine ev_st (st' := []) rfl ?_
                  have e_16 := F_165_R G_16
                  refine ev_x (i := .iinc 3 1) (len := 3) (p' := 121) (s' := []) (l' := vz_s1 (lv) 3 (.int (l_3 + 1))) rfl rfl (ld_inc g_3 rfl) ?_
                  refine ev_x (i := .goto (-119)) (len := 3) (p' := 2) (s' := []) rfl rfl rfl ?_
                  exact ih.1 _ _ _ _ _ _ _ _ (vg_o (i := 3) (v := .int (l_3 + 1)) g_0 (by decide) (Or.inl rfl)) (vg_o (i := 3) (v := .int (l_3 + 1)) g_1 (by decide) (Or.inl rfl)) (vg_o (i := 3) (v := .int (l_3 + 1)) g_2 (by decide) (Or.inl rfl)) (vg_s (lv) 3 (.int (l_3 + 1))) (nb_s1 hnb rfl) ((congrFun (congrFun e_16 66) 9).trans ((congrFun (congrFun e_5 66) 9).trans hr_66_9)) H
            · refine ev_b0 (t := 118) (p' := 118) rfl rfl rfl (if_pos c_10) ?_
              refine ev_x (i := .iinc 3 1) (len := 3) (p' := 121) (s' := []) (l' := vz_s1 (lv) 3 (.int (l_3 + 1))) rfl rfl (ld_inc g_3 rfl) ?_
              refine ev_x (i := .goto (-119)) (len := 3) (p' := 2) (s' := []) rfl rfl rfl ?_
              exact ih.1 _ _ _ _ _ _ _ _ (vg_o (i := 3) (v := .int (l_3 + 1)) g_0 (by decide) (Or.inl rfl)) (vg_o (i := 3) (v := .int (l_3 + 1)) g_1 (by decide) (Or.inl rfl)) (vg_o (i := 3) (v := .int (l_3 + 1)) g_2 (by decide) (Or.inl rfl)) (vg_s (lv) 3 (.int (l_3 + 1))) (nb_s1 hnb rfl) ((congrFun (congrFun e_5 66) 9).trans hr_66_9) H
          · refine ev_b0 (t := 124) (p' := 124) rfl rfl rfl (if_pos c_3) ?_
            refine ev_x (i := .lconst 1) (len := 1) (p' := 125) (s' := [.long 1]) rfl rfl rfl ?_
            refine ev_x (i := .lstore_n 3) (len := 1) (p' := 126) (s' := []) (l' := vz_s2 (lv) 3 (.long 1)) rfl rfl rfl ?_
            refine ev_x (i := .iconst 0) (len := 1) (p' := 127) (s' := [.int 0]) rfl rfl rfl ?_
            refine ev_x (i := .istore 5) (len := 2) (p' := 129) (s' := []) (l' := vz_s1 (vz_s2 (lv) 3 (.long 1)) 5 (.int 0)) rfl rfl rfl ?_
            exact ih.2 _ _ _ _ _ _ _ _ (vg_o (i := 5) (v := .int 0) (vg_o2 (i := 3) (v := .long 1) g_0 (by decide) (by decide) (Or.inl rfl)) (by decide) (Or.inl rfl)) (vg_o (i := 5) (v := .int 0) (vg_o2 (i := 3) (v := .long 1) g_1 (by decide) (by decide) (Or.inl rfl)) (by decide) (Or.inl rfl)) (vg_o (i := 5) (v := .int 0) (vg_o2 (i := 3) (v := .long 1) g_2 (by decide) (by decide) (Or.inl rfl)) (by decide) (Or.inl rfl)) (vg_o (i := 5) (v := .int 0) (vg_s2 (lv) 3 (.long 1)) (by decide) (Or.inr (by decide))) (vg_s (vz_s2 (lv) 3 (.long 1)) 5 (.int 0)) (nb_s1 (nb_s2 hnb rfl) rfl) hr_66_9 H
      · intro l_1 l_2 l_3 l_3l l_5 σ lv p g_0 g_1 g_2 g_3 g_5 hnb hr_66_9 H
        unfold L_215 at H
        rw [if_neg (by decide)] at H
        refine ev_x (i := .iload 5) (len := 2) (p' := 131) (s' := [.int l_5]) rfl rfl (ld_i g_5) ?_
        refine ev_x (i := .aload_n 0) (len := 1) (p' := 132) (s' := [.ref 66, .int l_5]) rfl rfl (ld_a g_0) ?_
        refine ev_gr (p' := 135) (v := 115) rfl rfl rfl ly_66 rfl rfl hr_66_9 ?_
        refine ev_gc (p' := 138) (v := 140) rfl rfl rfl ly_115 rfl rfl ?_
        refine ev_x (i := .iload_n 1) (len := 1) (p' := 139) (s' := [.int l_1, .ref 140, .int l_5]) rfl rfl (ld_i g_1) ?_
        obtain ⟨b_17, H⟩ := F_gd H
        refine ev_ga (p' := 140) (v := (gE (σ) 140 (l_1 : Int32).toNatClampNeg)) rfl rfl ly_140 rfl (gd_in b_17) rfl ?_
        refine F_if H (fun c_18 H => ?_) (fun c_18 H => ?_)
        · refine ev_b2 (t := 193) (p' := 193) rfl rfl rfl (if_pos c_18) ?_
          refine ev_x (i := .lload_n 3) (len := 1) (p' := 194) (s' := [.long l_3l]) rfl rfl (ld_l g_3) ?_
          obtain rfl := Option.some.inj H
          exact ev_lret rfl rfl rfl rfl
        · refine ev_b2 (t := 193) (p' := 143) rfl rfl rfl (if_neg c_18) ?_
          refine ev_x (i := .aload_n 0) (len := 1) (p' := 144) (s' := [.ref 66]) rfl rfl (ld_a g_0) ?_
          refine ev_gi (p' := 147) (v := (gI σ 66 16)) rfl rfl rfl ly_66 rfl rfl rfl ?_
          refine F_if H (fun c_19 H => ?_) (fun c_19 H => ?_)
          · refine ev_b0 (t := 193) (p' := 150) rfl rfl rfl (if_neg (fun q => q c_19)) ?_
            refine ev_x (i := .lload_n 3) (len := 1) (p' := 151) (s' := [.long l_3l]) rfl rfl (ld_l g_3) ?_
            refine ev_x (i := .lload_n 3) (len := 1) (p' := 152) (s' := [.long l_3l, .long l_3l]) rfl rfl (ld_l g_3) ?_
            refine ev_x (i := .aload_n 0) (len := 1) (p' := 153) (s' := [.ref 66, .long l_3l, .long l_3l]) rfl rfl (ld_a g_0) ?_
            refine ev_gc (p' := 156) (v := 186) rfl rfl rfl ly_66 rfl rfl ?_
            refine ev_x (i := .iload 5) (len := 2) (p' := 158) (s' := [.int l_5, .ref 186, .long l_3l, .long l_3l]) rfl rfl (ld_i g_5) ?_
            obtain ⟨b_20, H⟩ := F_gd H
            refine ev_gL (p' := 159) (v := (gL (σ) 186 (l_5 : Int32).toNatClampNeg)) rfl rfl ly_186 rfl (gd_in b_20) rfl ?_
            obtain ⟨p_21, G_21, H⟩ := F_bd H
            refine ev_callS (d := d + 6) (As := [.long l_3l, .long (gL (σ) 186 (l_5 : Int32).toNatClampNeg)]) rfl rfl rfl (by decide) rfl rfl rfl rfl hnb (F_196_ok (d := d + 5)   G_21) ?_
            refine ev_st (st' := [.long p_21.1, .long l_3l]) rfl ?_
            refine ev_pc (pc' := 162) rfl ?_
            have e_21 := F_196_R G_21
            obtain ⟨b_22, H⟩ := F_gd H
            refine ev_ldiv (p' := 163) rfl rfl b_22 rfl ?_
            refine ev_x (i := .aload_n 0) (len := 1) (p' := 164) (s' := [.ref 66, .long (l_3l / p_21.1)]) rfl rfl (ld_a g_0) ?_
            refine ev_gc (p' := 167) (v := 186) rfl rfl rfl ly_66 rfl rfl ?_
            refine ev_x (i := .iload 5) (len := 2) (p' := 169) (s' := [.int l_5, .ref 186, .long (l_3l / p_21.1)]) rfl rfl (ld_i g_5) ?_
            obtain ⟨b_23, H⟩ := F_gd H
            refine ev_gL (p' := 170) (v := (gL (p_21.2) 186 (l_5 : Int32).toNatClampNeg)) rfl rfl ly_186 rfl (gd_in b_23) rfl ?_
            refine ev_x (i := .lmul) (len := 1) (p' := 171) (s' := [.long ((l_3l / p_21.1) * (gL (p_21.2) 186 (l_5 : Int32).toNatClampNeg))]) rfl rfl rfl ?_
            refine ev_x (i := .lstore_n 3) (len := 1) (p' := 172) (s' := []) (l' := vz_s2 (lv) 3 (.long ((l_3l / p_21.1) * (gL (p_21.2) 186 (l_5 : Int32).toNatClampNeg)))) rfl rfl rfl ?_
            refine ev_x (i := .lload_n 3) (len := 1) (p' := 173) (s' := [.long ((l_3l / p_21.1) * (gL (p_21.2) 186 (l_5 : Int32).toNatClampNeg))]) rfl rfl (ld_l (vg_s2 (lv) 3 (.long ((l_3l / p_21.1) * (gL (p_21.2) 186 (l_5 : Int32).toNatClampNeg))))) ?_
            refine ev_x (i := .ldc2_w 368) (len := 3) (p' := 176) (s' := [.long 1000000000, .long ((l_3l / p_21.1) * (gL (p_21.2) 186 (l_5 : Int32).toNatClampNeg))]) rfl rfl rfl ?_
            refine ev_x (i := .lcmp) (len := 1) (p' := 177) (s' := [.int (lg_cmp ((l_3l / p_21.1) * (gL (p_21.2) 186 (l_5 : Int32).toNatClampNeg)) 1000000000)]) rfl rfl rfl ?_
            refine F_if H (fun c_24 H => ?_) (fun c_24 H => ?_)
            · refine ev_b0 (t := 187) (p' := 187) rfl rfl rfl (if_pos c_24) ?_
              refine ev_x (i := .iinc 5 1) (len := 3) (p' := 190) (s' := []) (l' := vz_s1 (vz_s2 (lv) 3 (.long ((l_3l / p_21.1) * (gL (p_21.2) 186 (l_5 : Int32).toNatClampNeg)))) 5 (.int (l_5 + 1))) rfl rfl (ld_inc (vg_o2 (i := 3) (v := .long ((l_3l / p_21.1) * (gL (p_21.2) 186 (l_5 : Int32).toNatClampNeg))) g_5 (by decide) (by decide) (Or.inl rfl)) rfl) ?_
              refine ev_x (i := .goto (-61)) (len := 3) (p' := 129) (s' := []) rfl rfl rfl ?_
              exact ih.2 _ _ _ _ _ _ _ _ (vg_o (i := 5) (v := .int (l_5 + 1)) (vg_o2 (i := 3) (v := .long ((l_3l / p_21.1) * (gL (p_21.2) 186 (l_5 : Int32).toNatClampNeg))) g_0 (by decide) (by decide) (Or.inl rfl)) (by decide) (Or.inl rfl)) (vg_o (i := 5) (v := .int (l_5 + 1)) (vg_o2 (i := 3) (v := .long ((l_3l / p_21.1) * (gL (p_21.2) 186 (l_5 : Int32).toNatClampNeg))) g_1 (by decide) (by decide) (Or.inl rfl)) (by decide) (Or.inl rfl)) (vg_o (i := 5) (v := .int (l_5 + 1)) (vg_o2 (i := 3) (v := .long ((l_3l / p_21.1) * (gL (p_21.2) 186 (l_5 : Int32).toNatClampNeg))) g_2 (by decide) (by decide) (Or.inl rfl)) (by decide) (Or.inl rfl)) (vg_o (i := 5) (v := .int (l_5 + 1)) (vg_s2 (lv) 3 (.long ((l_3l / p_21.1) * (gL (p_21.2) 186 (l_5 : Int32).toNatClampNeg)))) (by decide) (Or.inr (by decide))) (vg_s (vz_s2 (lv) 3 (.long ((l_3l / p_21.1) * (gL (p_21.2) 186 (l_5 : Int32).toNatClampNeg)))) 5 (.int (l_5 + 1))) (nb_s1 (nb_s2 hnb rfl) rfl) ((congrFun (congrFun e_21 66) 9).trans hr_66_9) H
            · refine ev_b0 (t := 187) (p' := 180) rfl rfl rfl (if_neg c_24) ?_
              refine ev_x (i := .aload_n 0) (len := 1) (p' := 181) (s' := [.ref 66]) rfl rfl (ld_a (vg_o2 (i := 3) (v := .long ((l_3l / p_21.1) * (gL (p_21.2) 186 (l_5 : Int32).toNatClampNeg))) g_0 (by decide) (by decide) (Or.inl rfl))) ?_
              refine ev_x (i := .bipush 6) (len := 2) (p' := 183) (s' := [.int 6, .ref 66]) rfl rfl rfl ?_
              refine ev_x (i := .iload_n 2) (len := 1) (p' := 184) (s' := [.int l_2, .int 6, .ref 66]) rfl rfl (ld_i (vg_o2 (i := 3) (v := .long ((l_3l / p_21.1) * (gL (p_21.2) 186 (l_5 : Int32).toNatClampNeg))) g_2 (by decide) (by decide) (Or.inl rfl))) ?_
              obtain ⟨p_25, G_25, H⟩ := F_bd H
              refine ev_cv (d := d + 6) (As := [.int 6, .int l_2]) (a := 66) (p' := 187) rfl rfl rfl ly_66 rfl rfl rfl rfl rfl (nb_s2 hnb rfl) rfl (F_165_ok (d := d + 5)   G_25) ?_
              refine ev_st (st' := []) rfl ?_
              have e_25 := F_165_R G_25
              refine ev_x (i := .iinc 5 1) (len := 3) (p' := 190) (s' := []) (l' := vz_s1 (vz_s2 (lv) 3 (.long ((l_3l / p_21.1) * (gL (p_21.2) 186 (l_5 : Int32).toNatClampNeg)))) 5 (.int (l_5 + 1))) rfl rfl (ld_inc (vg_o2 (i := 3) (v := .long ((l_3l / p_21.1) * (gL (p_21.2) 186 (l_5 : Int32).toNatClampNeg))) g_5 (by decide) (by decide) (Or.inl rfl)) rfl) ?_
              refine ev_x (i := .goto (-61)) (len := 3) (p' := 129) (s' := []) rfl rfl rfl ?_
              exact ih.2 _ _ _ _ _ _ _ _ (vg_o (i := 5) (v := .int (l_5 + 1)) (vg_o2 (i := 3) (v := .long ((l_3l / p_21.1) * (gL (p_21.2) 186 (l_5 : Int32).toNatClampNeg))) g_0 (by decide) (by decide) (Or.inl rfl)) (by decide) (Or.inl rfl)) (vg_o (i := 5) (v := .int (l_5 + 1)) (vg_o2 (i := 3) (v := .long ((l_3l / p_21.1) * (gL (p_21.2) 186 (l_5 : Int32).toNatClampNeg))) g_1 (by decide) (by decide) (Or.inl rfl)) (by decide) (Or.inl rfl)) (vg_o (i := 5) (v := .int (l_5 + 1)) (vg_o2 (i := 3) (v := .long ((l_3l / p_21.1) * (gL (p_21.2) 186 (l_5 : Int32).toNatClampNeg))) g_2 (by decide) (by decide) (Or.inl rfl)) (by decide) (Or.inl rfl)) (vg_o (i := 5) (v := .int (l_5 + 1)) (vg_s2 (lv) 3 (.long ((l_3l / p_21.1) * (gL (p_21.2) 186 (l_5 : Int32).toNatClampNeg)))) (by decide) (Or.inr (by decide))) (vg_s (vz_s2 (lv) 3 (.long ((l_3l / p_21.1) * (gL (p_21.2) 186 (l_5 : Int32).toNatClampNeg)))) 5 (.int (l_5 + 1))) (nb_s1 (nb_s2 hnb rfl) rfl) ((congrFun (congrFun e_25 66) 9).trans ((congrFun (congrFun e_21 66) 9).trans hr_66_9)) H
          · refine ev_b0 (t := 193) (p' := 193) rfl rfl rfl (if_pos c_19) ?_
            refine ev_x (i := .lload_n 3) (len := 1) (p' := 194) (s' := [.long l_3l]) rfl rfl (ld_l g_3) ?_
            obtain rfl := Option.some.inj H
            exact ev_lret rfl rfl rfl rfl
/-- GameTextModel.chances(II)J -/
def F_215 (N : Nat) (g : Nat) (x_1 : Int32) (x_2 : Int32) (σ : st_S) : Option (Int64 × st_S) :=
  L_215 N g N 2 x_1 x_2 0 0 0 (σ)
set_option maxRecDepth 100000 in
theorem F_215_R {N : Nat} {g : Nat} {x_1 : Int32} {x_2 : Int32} {σ : st_S} {p : Int64 × st_S} (H : F_215 N g x_1 x_2 σ = some p) : gR p.2 = gR σ := by
  unfold F_215 at H
  exact (((L_215_R _ _ _ _ _ _ _ _ _ H)).trans rfl)
set_option maxHeartbeats 4000000 in
set_option maxRecDepth 100000 in
theorem F_215_ok {N d : Nat} {g : Nat} (hg : g = 79 ∨ g = 115) {x_1 : Int32} {x_2 : Int32} {σ : st_S} {p : Int64 × st_S} (hr_66_9 : gR σ 66 9 = g) (H : F_215 N g x_1 x_2 σ = some p) : vz_ev P0 (d + 7) 215 0 (lv_args 0 [.ref 66, .int x_1, .int x_2]) [] (hp σ) (.inl (some (.long p.1)), hp p.2) := by
  unfold F_215 at H
  refine ev_x (i := .iconst 0) (len := 1) (p' := 1) (s' := [.int 0]) rfl rfl rfl ?_
  refine ev_x (i := .istore_n 3) (len := 1) (p' := 2) (s' := []) (l' := [(3, .int 0), (0, .ref 66), (1, .int x_1), (2, .int x_2)]) rfl rfl rfl ?_
  exact (L_215_ok (d := d) hg N).1 _ _ _ _ _ _ _ _ rfl rfl rfl rfl rfl hr_66_9 H
/-- GameTextModel.set(III)V, from 46 -/
def J_217_46 (N : Nat) (g : Nat) (l_1 : Int32) (l_3 : Int32) (σ : st_S) : Option (st_S) :=
  if aB 0 (gN σ 163) then
  if aB l_1 (gN σ (g + 19)) then
  if (lg_cmp (gL (σ) 163 (0 : Int32).toNatClampNeg) ((gE (σ) (g + 19) (l_1 : Int32).toNatClampNeg) : Int32).toInt64) < 0 then
    (F_165 N 12 l_3 (σ)).bind fun p_11 =>
    some (p_11)
  else
    if aB l_1 (gN σ (g + 20)) then
    if (lg_cmp (gL (σ) 163 (0 : Int32).toNatClampNeg) ((gE (σ) (g + 20) (l_1 : Int32).toNatClampNeg) : Int32).toInt64) ≤ 0 then
      if aB l_1 (gN σ 184) then
      some (st_e (σ) 184 ((l_1 : Int32).toNatClampNeg) ((gL (σ) 163 (0 : Int32).toNatClampNeg) : Int64).toInt32)
      else none
    else
      (F_165 N 12 l_3 (σ)).bind fun p_15 =>
      some (p_15)
    else none
  else none
  else none
set_option maxRecDepth 100000 in
theorem J_217_46_R {N : Nat} {g : Nat} {l_1 : Int32} {l_3 : Int32} {σ : st_S} {p : st_S} (H : J_217_46 N g l_1 l_3 σ = some p) : gR p = gR σ := by
  unfold J_217_46 at H
  obtain ⟨_, H⟩ := F_gd H
  obtain ⟨_, H⟩ := F_gd H
  refine F_if H (fun _ H => ?_) (fun _ H => ?_)
  · obtain ⟨p_11, G_11, H⟩ := F_bd H
    obtain rfl := Option.some.inj H
    exact ((F_165_R G_11).trans rfl)
  · obtain ⟨_, H⟩ := F_gd H
    refine F_if H (fun _ H => ?_) (fun _ H => ?_)
    · obtain ⟨_, H⟩ := F_gd H
      obtain rfl := Option.some.inj H
      exact rfl
    · obtain ⟨p_15, G_15, H⟩ := F_bd H
      obtain rfl := Option.some.inj H
      exact ((F_165_R G_15).trans rfl)
set_option maxHeartbeats 4000000 in
set_option maxRecDepth 100000 in
theorem J_217_46_ok {N d : Nat} {g : Nat} (hg : g = 79 ∨ g = 115) {l_1 : Int32} {l_3 : Int32} {σ : st_S} {lv : vz_L} {p : st_S} (g_0 : vz_g lv 0 = some (.ref 66)) (g_1 : vz_g lv 1 = some (.int l_1)) (g_3 : vz_g lv 3 = some (.int l_3)) (hnb : vz_nbL (vz_gr P0) lv = true) (hr_66_9 : gR σ 66 9 = g) (H : J_217_46 N g l_1 l_3 σ = some p) : vz_ev P0 (d + 7) 217 46 lv [] (hp σ) (.inl none, hp p) := by
  unfold J_217_46 at H
  rcases hg with rfl | rfl
  · refine ev_x (i := .aload_n 0) (len := 1) (p' := 47) (s' := [.ref 66]) rfl rfl (ld_a g_0) ?_
    refine ev_gc (p' := 50) (v := 163) rfl rfl rfl ly_66 rfl rfl ?_
    refine ev_x (i := .iconst 0) (len := 1) (p' := 51) (s' := [.int 0, .ref 163]) rfl rfl rfl ?_
    obtain ⟨b_8, H⟩ := F_gd H
    refine ev_gL (p' := 52) (v := (gL (σ) 163 (0 : Int32).toNatClampNeg)) rfl rfl ly_163 rfl (gd_in b_8) rfl ?_
    refine ev_x (i := .aload_n 0) (len := 1) (p' := 53) (s' := [.ref 66, .long (gL (σ) 163 (0 : Int32).toNatClampNeg)]) rfl rfl (ld_a g_0) ?_
    refine ev_gr (p' := 56) (v := 79) rfl rfl rfl ly_66 rfl rfl hr_66_9 ?_
    refine ev_gc (p' := 59) (v := 98) rfl rfl rfl ly_79 rfl rfl ?_
    refine ev_x (i := .iload_n 1) (len := 1) (p' := 60) (s' := [.int l_1, .ref 98, .long (gL (σ) 163 (0 : Int32).toNatClampNeg)]) rfl rfl (ld_i g_1) ?_
    obtain ⟨b_9, H⟩ := F_gd H
    refine ev_ga (p' := 61) (v := (gE (σ) 98 (l_1 : Int32).toNatClampNeg)) rfl rfl ly_98 rfl (gd_in b_9) rfl ?_
    refine ev_x (i := .i2l) (len := 1) (p' := 62) (s' := [.long ((gE (σ) 98 (l_1 : Int32).toNatClampNeg) : Int32).toInt64, .long (gL (σ) 163 (0 : Int32).toNatClampNeg)]) rfl rfl rfl ?_
    refine ev_x (i := .lcmp) (len := 1) (p' := 63) (s' := [.int (lg_cmp (gL (σ) 163 (0 : Int32).toNatClampNeg) ((gE (σ) 98 (l_1 : Int32).toNatClampNeg) : Int32).toInt64)]) rfl rfl rfl ?_
    refine F_if H (fun c_10 H => ?_) (fun c_10 H => ?_)
    · refine ev_b0 (t := 86) (p' := 86) rfl rfl rfl (if_pos c_10) ?_
      refine ev_x (i := .aload_n 0) (len := 1) (p' := 87) (s' := [.ref 66]) rfl rfl (ld_a g_0) ?_
      refine ev_x (i := .bipush 12) (len := 2) (p' := 89) (s' := [.int 12, .ref 66]) rfl rfl rfl ?_
      refine ev_x (i := .iload_n 3) (len := 1) (p' := 90) (s' := [.int l_3, .int 12, .ref 66]) rfl rfl (ld_i g_3) ?_
      obtain ⟨p_11, G_11, H⟩ := F_bd H
      refine ev_cv (d := d + 6) (As := [.int 12, .int l_3]) (a := 66) (p' := 93) rfl rfl rfl ly_66 rfl rfl rfl rfl rfl hnb rfl (F_165_ok (d := d + 5)   G_11) ?_
      refine ev_st (st' := []) rfl ?_
      have e_11 := F_165_R G_11
      refine ev_x (i := .goto 16) (len := 3) (p' := 109) (s' := []) rfl rfl rfl ?_
      obtain rfl := Option.some.inj H
      exact ev_vret rfl rfl rfl
    · refine ev_b0 (t := 86) (p' := 66) rfl rfl rfl (if_neg c_10) ?_
      refine ev_x (i := .aload_n 0) (len := 1) (p' := 67) (s' := [.ref 66]) rfl rfl (ld_a g_0) ?_
      refine ev_gc (p' := 70) (v := 163) rfl rfl rfl ly_66 rfl rfl ?_
      refine ev_x (i := .iconst 0) (len := 1) (p' := 71) (s' := [.int 0, .ref 163]) rfl rfl rfl ?_
      refine ev_gL (p' := 72) (v := (gL (σ) 163 (0 : Int32).toNatClampNeg)) rfl rfl ly_163 rfl (gd_in b_8) rfl ?_
      refine ev_x (i := .aload_n 0) (len := 1) (p' := 73) (s' := [.ref 66, .long (gL (σ) 163 (0 : Int32).toNatClampNeg)]) rfl rfl (ld_a g_0) ?_
      refine ev_gr (p' := 76) (v := 79) rfl rfl rfl ly_66 rfl rfl hr_66_9 ?_
      refine ev_gc (p' := 79) (v := 99) rfl rfl rfl ly_79 rfl rfl ?_
      refine ev_x (i := .iload_n 1) (len := 1) (p' := 80) (s' := [.int l_1, .ref 99, .long (gL (σ) 163 (0 : Int32).toNatClampNeg)]) rfl rfl (ld_i g_1) ?_
      obtain ⟨b_12, H⟩ := F_gd H
      refine ev_ga (p' := 81) (v := (gE (σ) 99 (l_1 : Int32).toNatClampNeg)) rfl rfl ly_99 rfl (gd_in b_12) rfl ?_
      refine ev_x (i := .i2l) (len := 1) (p' := 82) (s' := [.long ((gE (σ) 99 (l_1 : Int32).toNatClampNeg) : Int32).toInt64, .long (gL (σ) 163 (0 : Int32).toNatClampNeg)]) rfl rfl rfl ?_
      refine ev_x (i := .lcmp) (len := 1) (p' := 83) (s' := [.int (lg_cmp (gL (σ) 163 (0 : Int32).toNatClampNeg) ((gE (σ) 99 (l_1 : Int32).toNatClampNeg) : Int32).toInt64)]) rfl rfl rfl ?_
      refine F_if H (fun c_13 H => ?_) (fun c_13 H => ?_)
      · refine ev_b0 (t := 96) (p' := 96) rfl rfl rfl (if_pos c_13) ?_
        refine ev_x (i := .aload_n 0) (len := 1) (p' := 97) (s' := [.ref 66]) rfl rfl (ld_a g_0) ?_
        refine ev_gc (p' := 100) (v := 184) rfl rfl rfl ly_66 rfl rfl ?_
        refine ev_x (i := .iload_n 1) (len := 1) (p' := 101) (s' := [.int l_1, .ref 184]) rfl rfl (ld_i g_1) ?_
        refine ev_x (i := .aload_n 0) (len := 1) (p' := 102) (s' := [.ref 66, .int l_1, .ref 184]) rfl rfl (ld_a g_0) ?_
        refine ev_gc (p' := 105) (v := 163) rfl rfl rfl ly_66 rfl rfl ?_
        refine ev_x (i := .iconst 0) (len := 1) (p' := 106) (s' := [.int 0, .ref 163, .int l_1, .ref 184]) rfl rfl rfl ?_
        refine ev_gL (p' := 107) (v := (gL (σ) 163 (0 : Int32).toNatClampNeg)) rfl rfl ly_163 rfl (gd_in b_8) rfl ?_
        refine ev_x (i := .l2i) (len := 1) (p' := 108) (s' := [.int ((gL (σ) 163 (0 : Int32).toNatClampNeg) : Int64).toInt32, .int l_1, .ref 184]) rfl rfl rfl ?_
        obtain ⟨b_14, H⟩ := F_gd H
        refine ev_pa (j := (l_1 : Int32).toNatClampNeg) (p' := 109) rfl rfl ly_184 rfl (gd_in b_14) rfl ?_
        obtain rfl := Option.some.inj H
        exact ev_vret rfl rfl rfl
      · refine ev_b0 (t := 96) (p' := 86) rfl rfl rfl (if_neg c_13) ?_
        refine ev_x (i := .aload_n 0) (len := 1) (p' := 87) (s' := [.ref 66]) rfl rfl (ld_a g_0) ?_
        refine ev_x (i := .bipush 12) (len := 2) (p' := 89) (s' := [.int 12, .ref 66]) rfl rfl rfl ?_
        refine ev_x (i := .iload_n 3) (len := 1) (p' := 90) (s' := [.int l_3, .int 12, .ref 66]) rfl rfl (ld_i g_3) ?_
        obtain ⟨p_15, G_15, H⟩ := F_bd H
        refine ev_cv (d := d + 6) (As := [.int 12, .int l_3]) (a := 66) (p' := 93) rfl rfl rfl ly_66 rfl rfl rfl rfl rfl hnb rfl (F_165_ok (d := d + 5)   G_15) ?_
        refine ev_st (st' := []) rfl ?_
        have e_15 := F_165_R G_15
        refine ev_x (i := .goto 16) (len := 3) (p' := 109) (s' := []) rfl rfl rfl ?_
        obtain rfl := Option.some.inj H
        exact ev_vret rfl rfl rfl
  · refine ev_x (i := .aload_n 0) (len := 1) (p' := 47) (s' := [.ref 66]) rfl rfl (ld_a g_0) ?_
    refine ev_gc (p' := 50) (v := 163) rfl rfl rfl ly_66 rfl rfl ?_
    refine ev_x (i := .iconst 0) (len := 1) (p' := 51) (s' := [.int 0, .ref 163]) rfl rfl rfl ?_
    obtain ⟨b_8, H⟩ := F_gd H
    refine ev_gL (p' := 52) (v := (gL (σ) 163 (0 : Int32).toNatClampNeg)) rfl rfl ly_163 rfl (gd_in b_8) rfl ?_
    refine ev_x (i := .aload_n 0) (len := 1) (p' := 53) (s' := [.ref 66, .long (gL (σ) 163 (0 : Int32).toNatClampNeg)]) rfl rfl (ld_a g_0) ?_
    refine ev_gr (p' := 56) (v := 115) rfl rfl rfl ly_66 rfl rfl hr_66_9 ?_
    refine ev_gc (p' := 59) (v := 134) rfl rfl rfl ly_115 rfl rfl ?_
    refine ev_x (i := .iload_n 1) (len := 1) (p' := 60) (s' := [.int l_1, .ref 134, .long (gL (σ) 163 (0 : Int32).toNatClampNeg)]) rfl rfl (ld_i g_1) ?_
    obtain ⟨b_9, H⟩ := F_gd H
    refine ev_ga (p' := 61) (v := (gE (σ) 134 (l_1 : Int32).toNatClampNeg)) rfl rfl ly_134 rfl (gd_in b_9) rfl ?_
    refine ev_x (i := .i2l) (len := 1) (p' := 62) (s' := [.long ((gE (σ) 134 (l_1 : Int32).toNatClampNeg) : Int32).toInt64, .long (gL (σ) 163 (0 : Int32).toNatClampNeg)]) rfl rfl rfl ?_
    refine ev_x (i := .lcmp) (len := 1) (p' := 63) (s' := [.int (lg_cmp (gL (σ) 163 (0 : Int32).toNatClampNeg) ((gE (σ) 134 (l_1 : Int32).toNatClampNeg) : Int32).toInt64)]) rfl rfl rfl ?_
    refine F_if H (fun c_10 H => ?_) (fun c_10 H => ?_)
    · refine ev_b0 (t := 86) (p' := 86) rfl rfl rfl (if_pos c_10) ?_
      refine ev_x (i := .aload_n 0) (len := 1) (p' := 87) (s' := [.ref 66]) rfl rfl (ld_a g_0) ?_
      refine ev_x (i := .bipush 12) (len := 2) (p' := 89) (s' := [.int 12, .ref 66]) rfl rfl rfl ?_
      refine ev_x (i := .iload_n 3) (len := 1) (p' := 90) (s' := [.int l_3, .int 12, .ref 66]) rfl rfl (ld_i g_3) ?_
      obtain ⟨p_11, G_11, H⟩ := F_bd H
      refine ev_cv (d := d + 6) (As := [.int 12, .int l_3]) (a := 66) (p' := 93) rfl rfl rfl ly_66 rfl rfl rfl rfl rfl hnb rfl (F_165_ok (d := d + 5)   G_11) ?_
      refine ev_st (st' := []) rfl ?_
      have e_11 := F_165_R G_11
      refine ev_x (i := .goto 16) (len := 3) (p' := 109) (s' := []) rfl rfl rfl ?_
      obtain rfl := Option.some.inj H
      exact ev_vret rfl rfl rfl
    · refine ev_b0 (t := 86) (p' := 66) rfl rfl rfl (if_neg c_10) ?_
      refine ev_x (i := .aload_n 0) (len := 1) (p' := 67) (s' := [.ref 66]) rfl rfl (ld_a g_0) ?_
      refine ev_gc (p' := 70) (v := 163) rfl rfl rfl ly_66 rfl rfl ?_
      refine ev_x (i := .iconst 0) (len := 1) (p' := 71) (s' := [.int 0, .ref 163]) rfl rfl rfl ?_
      refine ev_gL (p' := 72) (v := (gL (σ) 163 (0 : Int32).toNatClampNeg)) rfl rfl ly_163 rfl (gd_in b_8) rfl ?_
      refine ev_x (i := .aload_n 0) (len := 1) (p' := 73) (s' := [.ref 66, .long (gL (σ) 163 (0 : Int32).toNatClampNeg)]) rfl rfl (ld_a g_0) ?_
      refine ev_gr (p' := 76) (v := 115) rfl rfl rfl ly_66 rfl rfl hr_66_9 ?_
      refine ev_gc (p' := 79) (v := 135) rfl rfl rfl ly_115 rfl rfl ?_
      refine ev_x (i := .iload_n 1) (len := 1) (p' := 80) (s' := [.int l_1, .ref 135, .long (gL (σ) 163 (0 : Int32).toNatClampNeg)]) rfl rfl (ld_i g_1) ?_
      obtain ⟨b_12, H⟩ := F_gd H
      refine ev_ga (p' := 81) (v := (gE (σ) 135 (l_1 : Int32).toNatClampNeg)) rfl rfl ly_135 rfl (gd_in b_12) rfl ?_
      refine ev_x (i := .i2l) (len := 1) (p' := 82) (s' := [.long ((gE (σ) 135 (l_1 : Int32).toNatClampNeg) : Int32).toInt64, .long (gL (σ) 163 (0 : Int32).toNatClampNeg)]) rfl rfl rfl ?_
      refine ev_x (i := .lcmp) (len := 1) (p' := 83) (s' := [.int (lg_cmp (gL (σ) 163 (0 : Int32).toNatClampNeg) ((gE (σ) 135 (l_1 : Int32).toNatClampNeg) : Int32).toInt64)]) rfl rfl rfl ?_
      refine F_if H (fun c_13 H => ?_) (fun c_13 H => ?_)
      · refine ev_b0 (t := 96) (p' := 96) rfl rfl rfl (if_pos c_13) ?_
        refine ev_x (i := .aload_n 0) (len := 1) (p' := 97) (s' := [.ref 66]) rfl rfl (ld_a g_0) ?_
        refine ev_gc (p' := 100) (v := 184) rfl rfl rfl ly_66 rfl rfl ?_
        refine ev_x (i := .iload_n 1) (len := 1) (p' := 101) (s' := [.int l_1, .ref 184]) rfl rfl (ld_i g_1) ?_
        refine ev_x (i := .aload_n 0) (len := 1) (p' := 102) (s' := [.ref 66, .int l_1, .ref 184]) rfl rfl (ld_a g_0) ?_
        refine ev_gc (p' := 105) (v := 163) rfl rfl rfl ly_66 rfl rfl ?_
        refine ev_x (i := .iconst 0) (len := 1) (p' := 106) (s' := [.int 0, .ref 163, .int l_1, .ref 184]) rfl rfl rfl ?_
        refine ev_gL (p' := 107) (v := (gL (σ) 163 (0 : Int32).toNatClampNeg)) rfl rfl ly_163 rfl (gd_in b_8) rfl ?_
        refine ev_x (i := .l2i) (len := 1) (p' := 108) (s' := [.int ((gL (σ) 163 (0 : Int32).toNatClampNeg) : Int64).toInt32, .int l_1, .ref 184]) rfl rfl rfl ?_
        obtain ⟨b_14, H⟩ := F_gd H
        refine ev_pa (j := (l_1 : Int32).toNatClampNeg) (p' := 109) rfl rfl ly_184 rfl (gd_in b_14) rfl ?_
        obtain rfl := Option.some.inj H
        exact ev_vret rfl rfl rfl
      · refine ev_b0 (t := 96) (p' := 86) rfl rfl rfl (if_neg c_13) ?_
        refine ev_x (i := .aload_n 0) (len := 1) (p' := 87) (s' := [.ref 66]) rfl rfl (ld_a g_0) ?_
        refine ev_x (i := .bipush 12) (len := 2) (p' := 89) (s' := [.int 12, .ref 66]) rfl rfl rfl ?_
        refine ev_x (i := .iload_n 3) (len := 1) (p' := 90) (s' := [.int l_3, .int 12, .ref 66]) rfl rfl (ld_i g_3) ?_
        obtain ⟨p_15, G_15, H⟩ := F_bd H
        refine ev_cv (d := d + 6) (As := [.int 12, .int l_3]) (a := 66) (p' := 93) rfl rfl rfl ly_66 rfl rfl rfl rfl rfl hnb rfl (F_165_ok (d := d + 5)   G_15) ?_
        refine ev_st (st' := []) rfl ?_
        have e_15 := F_165_R G_15
        refine ev_x (i := .goto 16) (len := 3) (p' := 109) (s' := []) rfl rfl rfl ?_
        obtain rfl := Option.some.inj H
        exact ev_vret rfl rfl rfl
/-- GameTextModel.set(III)V -/
def F_217 (N : Nat) (g : Nat) (x_1 : Int32) (x_2 : Int32) (x_3 : Int32) (σ : st_S) : Option (st_S) :=
  (F_213 N g x_2 (σ)).bind fun p_1 =>
  if (gI p_1 66 16) = 0 then
    if aB x_1 (gN p_1 (g + 18)) then
    if (gE (p_1) (g + 18) (x_1 : Int32).toNatClampNeg) = 0 then
      if aB 0 (gN p_1 164) then
      if (lg_cmp (gL (p_1) 164 (0 : Int32).toNatClampNeg) 1) = 0 then
        J_217_46 N g x_1 x_3 (p_1)
      else
        (F_165 N 8 x_3 (p_1)).bind fun p_7 =>
        some (p_7)
      else none
    else
      J_217_46 N g x_1 x_3 (p_1)
    else none
  else
    some (p_1)
set_option maxRecDepth 100000 in
theorem F_217_R {N : Nat} {g : Nat} {x_1 : Int32} {x_2 : Int32} {x_3 : Int32} {σ : st_S} {p : st_S} (H : F_217 N g x_1 x_2 x_3 σ = some p) : gR p = gR σ := by
  unfold F_217 at H
  obtain ⟨p_1, G_1, H⟩ := F_bd H
  refine F_if H (fun _ H => ?_) (fun _ H => ?_)
  · obtain ⟨_, H⟩ := F_gd H
    refine F_if H (fun _ H => ?_) (fun _ H => ?_)
    · obtain ⟨_, H⟩ := F_gd H
      refine F_if H (fun _ H => ?_) (fun _ H => ?_)
      · exact (((J_217_46_R H)).trans ((F_213_R G_1).trans rfl))
      · obtain ⟨p_7, G_7, H⟩ := F_bd H
        obtain rfl := Option.some.inj H
        exact ((F_165_R G_7).trans ((F_213_R G_1).trans rfl))
    · exact (((J_217_46_R H)).trans ((F_213_R G_1).trans rfl))
  · obtain rfl := Option.some.inj H
    exact ((F_213_R G_1).trans rfl)
set_option maxHeartbeats 4000000 in
set_option maxRecDepth 100000 in
theorem F_217_ok {N d : Nat} {g : Nat} (hg : g = 79 ∨ g = 115) {x_1 : Int32} {x_2 : Int32} {x_3 : Int32} {σ : st_S} {p : st_S} (hr_66_9 : gR σ 66 9 = g) (H : F_217 N g x_1 x_2 x_3 σ = some p) : vz_ev P0 (d + 7) 217 0 (lv_args 0 [.ref 66, .int x_1, .int x_2, .int x_3]) [] (hp σ) (.inl none, hp p) := by
  unfold F_217 at H
  rcases hg with rfl | rfl
  · refine ev_x (i := .aload_n 0) (len := 1) (p' := 1) (s' := [.ref 66]) rfl rfl rfl ?_
    refine ev_x (i := .iload_n 2) (len := 1) (p' := 2) (s' := [.int x_2, .ref 66]) rfl rfl rfl ?_
    obtain ⟨p_1, G_1, H⟩ := F_bd H
    refine ev_cv (d := d + 6) (As := [.int x_2]) (a := 66) (p' := 5) rfl rfl rfl ly_66 rfl rfl rfl rfl rfl rfl rfl (F_213_ok (d := d + 0) (hg := (Or.inl rfl)) (hr_66_9 := hr_66_9) G_1) ?_
    refine ev_st (st' := []) rfl ?_
    have e_1 := F_213_R G_1
    refine ev_x (i := .aload_n 0) (len := 1) (p' := 6) (s' := [.ref 66]) rfl rfl rfl ?_
    refine ev_gi (p' := 9) (v := (gI p_1 66 16)) rfl rfl rfl ly_66 rfl rfl rfl ?_
    refine F_if H (fun c_2 H => ?_) (fun c_2 H => ?_)
    · refine ev_b0 (t := 13) (p' := 13) rfl rfl rfl (if_pos c_2) ?_
      refine ev_x (i := .aload_n 0) (len := 1) (p' := 14) (s' := [.ref 66]) rfl rfl rfl ?_
      refine ev_gr (p' := 17) (v := 79) rfl rfl rfl ly_66 rfl rfl ((congrFun (congrFun e_1 66) 9).trans hr_66_9) ?_
      refine ev_gc (p' := 20) (v := 97) rfl rfl rfl ly_79 rfl rfl ?_
      refine ev_x (i := .iload_n 1) (len := 1) (p' := 21) (s' := [.int x_1, .ref 97]) rfl rfl rfl ?_
      obtain ⟨b_3, H⟩ := F_gd H
      refine ev_gb (p' := 22) (v := (gE (p_1) 97 (x_1 : Int32).toNatClampNeg)) rfl rfl ly_97 rfl (gd_in b_3) rfl ?_
      refine F_if H (fun c_4 H => ?_) (fun c_4 H => ?_)
      · refine ev_b0 (t := 46) (p' := 25) rfl rfl rfl (if_neg (fun q => q c_4)) ?_
        refine ev_x (i := .aload_n 0) (len := 1) (p' := 26) (s' := [.ref 66]) rfl rfl rfl ?_
        refine ev_gc (p' := 29) (v := 164) rfl rfl rfl ly_66 rfl rfl ?_
        refine ev_x (i := .iconst 0) (len := 1) (p' := 30) (s' := [.int 0, .ref 164]) rfl rfl rfl ?_
        obtain ⟨b_5, H⟩ := F_gd H
        refine ev_gL (p' := 31) (v := (gL (p_1) 164 (0 : Int32).toNatClampNeg)) rfl rfl ly_164 rfl (gd_in b_5) rfl ?_
        refine ev_x (i := .lconst 1) (len := 1) (p' := 32) (s' := [.long 1, .long (gL (p_1) 164 (0 : Int32).toNatClampNeg)]) rfl rfl rfl ?_
        refine ev_x (i := .lcmp) (len := 1) (p' := 33) (s' := [.int (lg_cmp (gL (p_1) 164 (0 : Int32).toNatClampNeg) 1)]) rfl rfl rfl ?_
        refine F_if H (fun c_6 H => ?_) (fun c_6 H => ?_)
        · refine ev_b0 (t := 46) (p' := 46) rfl rfl rfl (if_pos c_6) ?_
          exact J_217_46_ok (d := d) (Or.inl rfl) rfl rfl rfl rfl ((congrFun (congrFun e_1 66) 9).trans hr_66_9) H
        · refine ev_b0 (t := 46) (p' := 36) rfl rfl rfl (if_neg c_6) ?_
          refine ev_x (i := .aload_n 0) (len := 1) (p' := 37) (s' := [.ref 66]) rfl rfl rfl ?_
          refine ev_x (i := .bipush 8) (len := 2) (p' := 39) (s' := [.int 8, .ref 66]) rfl rfl rfl ?_
          refine ev_x (i := .iload_n 3) (len := 1) (p' := 40) (s' := [.int x_3, .int 8, .ref 66]) rfl rfl rfl ?_
          obtain ⟨p_7, G_7, H⟩ := F_bd H
          refine ev_cv (d := d + 6) (As := [.int 8, .int x_3]) (a := 66) (p' := 43) rfl rfl rfl ly_66 rfl rfl rfl rfl rfl rfl rfl (F_165_ok (d := d + 5)   G_7) ?_
          refine ev_st (st' := []) rfl ?_
          have e_7 := F_165_R G_7
          refine ev_x (i := .goto 66) (len := 3) (p' := 109) (s' := []) rfl rfl rfl ?_
          obtain rfl := Option.some.inj H
          exact ev_vret rfl rfl rfl
      · refine ev_b0 (t := 46) (p' := 46) rfl rfl rfl (if_pos c_4) ?_
        exact J_217_46_ok (d := d) (Or.inl rfl) rfl rfl rfl rfl ((congrFun (congrFun e_1 66) 9).trans hr_66_9) H
    · refine ev_b0 (t := 13) (p' := 12) rfl rfl rfl (if_neg c_2) ?_
      obtain rfl := Option.some.inj H
      exact ev_vret rfl rfl rfl
  · refine ev_x (i := .aload_n 0) (len := 1) (p' := 1) (s' := [.ref 66]) rfl rfl rfl ?_
    refine ev_x (i := .iload_n 2) (len := 1) (p' := 2) (s' := [.int x_2, .ref 66]) rfl rfl rfl ?_
    obtain ⟨p_1, G_1, H⟩ := F_bd H
    refine ev_cv (d := d + 6) (As := [.int x_2]) (a := 66) (p' := 5) rfl rfl rfl ly_66 rfl rfl rfl rfl rfl rfl rfl (F_213_ok (d := d + 0) (hg := (Or.inr rfl)) (hr_66_9 := hr_66_9) G_1) ?_
    refine ev_st (st' := []) rfl ?_
    have e_1 := F_213_R G_1
    refine ev_x (i := .aload_n 0) (len := 1) (p' := 6) (s' := [.ref 66]) rfl rfl rfl ?_
    refine ev_gi (p' := 9) (v := (gI p_1 66 16)) rfl rfl rfl ly_66 rfl rfl rfl ?_
    refine F_if H (fun c_2 H => ?_) (fun c_2 H => ?_)
    · refine ev_b0 (t := 13) (p' := 13) rfl rfl rfl (if_pos c_2) ?_
      refine ev_x (i := .aload_n 0) (len := 1) (p' := 14) (s' := [.ref 66]) rfl rfl rfl ?_
      refine ev_gr (p' := 17) (v := 115) rfl rfl rfl ly_66 rfl rfl ((congrFun (congrFun e_1 66) 9).trans hr_66_9) ?_
      refine ev_gc (p' := 20) (v := 133) rfl rfl rfl ly_115 rfl rfl ?_
      refine ev_x (i := .iload_n 1) (len := 1) (p' := 21) (s' := [.int x_1, .ref 133]) rfl rfl rfl ?_
      obtain ⟨b_3, H⟩ := F_gd H
      refine ev_gb (p' := 22) (v := (gE (p_1) 133 (x_1 : Int32).toNatClampNeg)) rfl rfl ly_133 rfl (gd_in b_3) rfl ?_
      refine F_if H (fun c_4 H => ?_) (fun c_4 H => ?_)
      · refine ev_b0 (t := 46) (p' := 25) rfl rfl rfl (if_neg (fun q => q c_4)) ?_
        refine ev_x (i := .aload_n 0) (len := 1) (p' := 26) (s' := [.ref 66]) rfl rfl rfl ?_
        refine ev_gc (p' := 29) (v := 164) rfl rfl rfl ly_66 rfl rfl ?_
        refine ev_x (i := .iconst 0) (len := 1) (p' := 30) (s' := [.int 0, .ref 164]) rfl rfl rfl ?_
        obtain ⟨b_5, H⟩ := F_gd H
        refine ev_gL (p' := 31) (v := (gL (p_1) 164 (0 : Int32).toNatClampNeg)) rfl rfl ly_164 rfl (gd_in b_5) rfl ?_
        refine ev_x (i := .lconst 1) (len := 1) (p' := 32) (s' := [.long 1, .long (gL (p_1) 164 (0 : Int32).toNatClampNeg)]) rfl rfl rfl ?_
        refine ev_x (i := .lcmp) (len := 1) (p' := 33) (s' := [.int (lg_cmp (gL (p_1) 164 (0 : Int32).toNatClampNeg) 1)]) rfl rfl rfl ?_
        refine F_if H (fun c_6 H => ?_) (fun c_6 H => ?_)
        · refine ev_b0 (t := 46) (p' := 46) rfl rfl rfl (if_pos c_6) ?_
          exact J_217_46_ok (d := d) (Or.inr rfl) rfl rfl rfl rfl ((congrFun (congrFun e_1 66) 9).trans hr_66_9) H
        · refine ev_b0 (t := 46) (p' := 36) rfl rfl rfl (if_neg c_6) ?_
          refine ev_x (i := .aload_n 0) (len := 1) (p' := 37) (s' := [.ref 66]) rfl rfl rfl ?_
          refine ev_x (i := .bipush 8) (len := 2) (p' := 39) (s' := [.int 8, .ref 66]) rfl rfl rfl ?_
          refine ev_x (i := .iload_n 3) (len := 1) (p' := 40) (s' := [.int x_3, .int 8, .ref 66]) rfl rfl rfl ?_
          obtain ⟨p_7, G_7, H⟩ := F_bd H
          refine ev_cv (d := d + 6) (As := [.int 8, .int x_3]) (a := 66) (p' := 43) rfl rfl rfl ly_66 rfl rfl rfl rfl rfl rfl rfl (F_165_ok (d := d + 5)   G_7) ?_
          refine ev_st (st' := []) rfl ?_
          have e_7 := F_165_R G_7
          refine ev_x (i := .goto 66) (len := 3) (p' := 109) (s' := []) rfl rfl rfl ?_
          obtain rfl := Option.some.inj H
          exact ev_vret rfl rfl rfl
      · refine ev_b0 (t := 46) (p' := 46) rfl rfl rfl (if_pos c_4) ?_
        exact J_217_46_ok (d := d) (Or.inr rfl) rfl rfl rfl rfl ((congrFun (congrFun e_1 66) 9).trans hr_66_9) H
    · refine ev_b0 (t := 13) (p' := 12) rfl rfl rfl (if_neg c_2) ?_
      obtain rfl := Option.some.inj H
      exact ev_vret rfl rfl rfl
/-- GameTextModel.stateOf()I, its loops -/
def L_218 (N : Nat) (g : Nat) : Nat → Nat → Int32 → Int32 → Int32 → st_S → Option (Int32 × st_S)
  | 0, _, _, _, _, _ => none
  | k + 1, w, l_1, l_2, l_3, σ =>
    if w = 2 then
      if (gI σ 66 29) ≤ l_1 then
        if (gI σ 66 29) = 512 then
          some ((-1), σ)
        else
          L_218 N g k 87 0 0 0 (σ)
      else
        L_218 N g k 14 l_1 1 0 (σ)
    else
    if w = 14 then
      if (gI σ g 12) ≤ l_3 then
        if l_2 = 0 then
          L_218 N g k 2 (l_1 + 1) 0 0 (σ)
        else
          some (l_1, σ)
      else
        if l_2 = 0 then
            L_218 N g k 2 (l_1 + 1) 0 0 (σ)
        else
          if aB ((12 * l_1) + l_3) (gN σ 171) then
          if aB l_3 (gN σ 184) then
          L_218 N g k 14 l_1 (if (gE (σ) 171 (((12 * l_1) + l_3) : Int32).toNatClampNeg) = (gE (σ) 184 (l_3 : Int32).toNatClampNeg) then 1 else 0 : Int32) (l_3 + 1) (σ)
          else none
          else none
    else
      if (gI σ g 12) ≤ l_1 then
        some ((((gI σ 66 29) + 1) - 1), st_i (σ) 66 29 ((gI σ 66 29) + 1))
      else
        if aB l_1 (gN σ 184) then
        if aB ((12 * (gI σ 66 29)) + l_1) (gN σ 171) then
        L_218 N g k 87 (l_1 + 1) 0 0 (st_e (σ) 171 ((((12 * (gI σ 66 29)) + l_1) : Int32).toNatClampNeg) (gE (σ) 184 (l_1 : Int32).toNatClampNeg))
        else none
        else none
set_option maxRecDepth 100000 in
theorem L_218_R {N : Nat} {g : Nat} : ∀ (k : Nat) (w : Nat) (l_1 : Int32) (l_2 : Int32) (l_3 : Int32) (σ : st_S) (p : Int32 × st_S), L_218 N g k w l_1 l_2 l_3 σ = some p → gR p.2 = gR σ := by
  intro k
  induction k with
  | zero => intro w l_1 l_2 l_3 σ p H; unfold L_218 at H; cases H
  | succ k ih =>
    intro w l_1 l_2 l_3 σ p H
    unfold L_218 at H
    refine F_if H (fun _ H => ?_) (fun _ H => ?_)
    · refine F_if H (fun _ H => ?_) (fun _ H => ?_)
      · refine F_if H (fun _ H => ?_) (fun _ H => ?_)
        · obtain rfl := Option.some.inj H
          exact rfl
        · exact (((ih _ _ _ _ _ _ H)).trans rfl)
      · exact (((ih _ _ _ _ _ _ H)).trans rfl)
    · skip
      refine F_if H (fun _ H => ?_) (fun _ H => ?_)
      · refine F_if H (fun _ H => ?_) (fun _ H => ?_)
        · refine F_if H (fun _ H => ?_) (fun _ H => ?_)
          · exact (((ih _ _ _ _ _ _ H)).trans rfl)
          · obtain rfl := Option.some.inj H
            exact rfl
        · refine F_if H (fun _ H => ?_) (fun _ H => ?_)
          · exact (((ih _ _ _ _ _ _ H)).trans rfl)
          · obtain ⟨_, H⟩ := F_gd H
            obtain ⟨_, H⟩ := F_gd H
            exact (((ih _ _ _ _ _ _ H)).trans rfl)
      · skip
        refine F_if H (fun _ H => ?_) (fun _ H => ?_)
        · obtain rfl := Option.some.inj H
          exact rfl
        · obtain ⟨_, H⟩ := F_gd H
          obtain ⟨_, H⟩ := F_gd H
          exact (((ih _ _ _ _ _ _ H)).trans rfl)
set_option maxHeartbeats 4000000 in
set_option maxRecDepth 100000 in
theorem L_218_ok {N d : Nat} {g : Nat} (hg : g = 79 ∨ g = 115) : ∀ k : Nat, (∀ (l_1 : Int32) (l_2 : Int32) (l_3 : Int32) (σ : st_S) (lv : vz_L) (p : Int32 × st_S), vz_g lv 0 = some (.ref 66) → vz_g lv 1 = some (.int l_1) → vz_nbL (vz_gr P0) lv = true → gR σ 66 9 = g → L_218 N g k 2 l_1 l_2 l_3 σ = some p → vz_ev P0 (d + 1) 218 2 lv [] (hp σ) (.inl (some (.int p.1)), hp p.2)) ∧ (∀ (l_1 : Int32) (l_2 : Int32) (l_3 : Int32) (σ : st_S) (lv : vz_L) (p : Int32 × st_S), vz_g lv 0 = some (.ref 66) → vz_g lv 1 = some (.int l_1) → vz_g lv 2 = some (.int l_2) → vz_g lv 3 = some (.int l_3) → vz_nbL (vz_gr P0) lv = true → gR σ 66 9 = g → L_218 N g k 14 l_1 l_2 l_3 σ = some p → vz_ev P0 (d + 1) 218 14 lv [] (hp σ) (.inl (some (.int p.1)), hp p.2)) ∧ (∀ (l_1 : Int32) (l_2 : Int32) (l_3 : Int32) (σ : st_S) (lv : vz_L) (p : Int32 × st_S), vz_g lv 0 = some (.ref 66) → vz_g lv 1 = some (.int l_1) → vz_nbL (vz_gr P0) lv = true → gR σ 66 9 = g → L_218 N g k 87 l_1 l_2 l_3 σ = some p → vz_ev P0 (d + 1) 218 87 lv [] (hp σ) (.inl (some (.int p.1)), hp p.2)) := by
  rcases hg with rfl | rfl
  · intro k
    induction k with
    | zero => exact ⟨(by intro l_1 l_2 l_3 σ lv p g_0 g_1 hnb hr_66_9 H; unfold L_218 at H; cases H), (by intro l_1 l_2 l_3 σ lv p g_0 g_1 g_2 g_3 hnb hr_66_9 H; unfold L_218 at H; cases H), (by intro l_1 l_2 l_3 σ lv p g_0 g_1 hnb hr_66_9 H; unfold L_218 at H; cases H)⟩
    | succ k ih =>
      refine ⟨?_, ?_, ?_⟩
      · intro l_1 l_2 l_3 σ lv p g_0 g_1 hnb hr_66_9 H
        unfold L_218 at H
        rw [if_pos rfl] at H
        refine ev_x (i := .iload_n 1) (len := 1) (p' := 3) (s' := [.int l_1]) rfl rfl (ld_i g_1) ?_
        refine ev_x (i := .aload_n 0) (len := 1) (p' := 4) (s' := [.ref 66, .int l_1]) rfl rfl (ld_a g_0) ?_
        refine ev_gi (p' := 7) (v := (gI σ 66 29)) rfl rfl rfl ly_66 rfl rfl rfl ?_
        refine F_if H (fun c_1 H => ?_) (fun c_1 H => ?_)
        · refine ev_b2 (t := 73) (p' := 73) rfl rfl rfl (if_pos c_1) ?_
          refine ev_x (i := .aload_n 0) (len := 1) (p' := 74) (s' := [.ref 66]) rfl rfl (ld_a g_0) ?_
          refine ev_gi (p' := 77) (v := (gI σ 66 29)) rfl rfl rfl ly_66 rfl rfl rfl ?_
          refine ev_x (i := .sipush 512) (len := 3) (p' := 80) (s' := [.int 512, .int (gI σ 66 29)]) rfl rfl rfl ?_
          refine F_if H (fun c_2 H => ?_) (fun c_2 H => ?_)
          · refine ev_b2 (t := 85) (p' := 83) rfl rfl rfl (if_neg (fun q => q c_2)) ?_
            refine ev_x (i := .iconst (-1)) (len := 1) (p' := 84) (s' := [.int (-1)]) rfl rfl rfl ?_
            obtain rfl := Option.some.inj H
            exact ev_iret rfl rfl rfl rfl
          · refine ev_b2 (t := 85) (p' := 85) rfl rfl rfl (if_pos c_2) ?_
            refine ev_x (i := .iconst 0) (len := 1) (p' := 86) (s' := [.int 0]) rfl rfl rfl ?_
            refine ev_x (i := .istore_n 1) (len := 1) (p' := 87) (s' := []) (l' := vz_s1 (lv) 1 (.int 0)) rfl rfl rfl ?_
            exact ih.2.2 _ _ _ _ _ _ (vg_o (i := 1) (v := .int 0) g_0 (by decide) (Or.inl rfl)) (vg_s (lv) 1 (.int 0)) (nb_s1 hnb rfl) hr_66_9 H
        · refine ev_b2 (t := 73) (p' := 10) rfl rfl rfl (if_neg c_1) ?_
          refine ev_x (i := .iconst 1) (len := 1) (p' := 11) (s' := [.int 1]) rfl rfl rfl ?_
          refine ev_x (i := .istore_n 2) (len := 1) (p' := 12) (s' := []) (l' := vz_s1 (lv) 2 (.int 1)) rfl rfl rfl ?_
          refine ev_x (i := .iconst 0) (len := 1) (p' := 13) (s' := [.int 0]) rfl rfl rfl ?_
          refine ev_x (i := .istore_n 3) (len := 1) (p' := 14) (s' := []) (l' := vz_s1 (vz_s1 (lv) 2 (.int 1)) 3 (.int 0)) rfl rfl rfl ?_
          exact ih.2.1 _ _ _ _ _ _ (vg_o (i := 3) (v := .int 0) (vg_o (i := 2) (v := .int 1) g_0 (by decide) (Or.inl rfl)) (by decide) (Or.inl rfl)) (vg_o (i := 3) (v := .int 0) (vg_o (i := 2) (v := .int 1) g_1 (by decide) (Or.inl rfl)) (by decide) (Or.inl rfl)) (vg_o (i := 3) (v := .int 0) (vg_s (lv) 2 (.int 1)) (by decide) (Or.inl rfl)) (vg_s (vz_s1 (lv) 2 (.int 1)) 3 (.int 0)) (nb_s1 (nb_s1 hnb rfl) rfl) hr_66_9 H
      · intro l_1 l_2 l_3 σ lv p g_0 g_1 g_2 g_3 hnb hr_66_9 H
        unfold L_218 at H
        rw [if_neg (by decide)] at H
        rw [if_pos rfl] at H
        refine ev_x (i := .iload_n 3) (len := 1) (p' := 15) (s' := [.int l_3]) rfl rfl (ld_i g_3) ?_
        refine ev_x (i := .aload_n 0) (len := 1) (p' := 16) (s' := [.ref 66, .int l_3]) rfl rfl (ld_a g_0) ?_
        refine ev_gr (p' := 19) (v := 79) rfl rfl rfl ly_66 rfl rfl hr_66_9 ?_
        refine ev_gi (p' := 22) (v := (gI σ 79 12)) rfl rfl rfl ly_79 rfl rfl rfl ?_
        refine F_if H (fun c_3 H => ?_) (fun c_3 H => ?_)
        · refine ev_b2 (t := 61) (p' := 61) rfl rfl rfl (if_pos c_3) ?_
          refine ev_x (i := .iload_n 2) (len := 1) (p' := 62) (s' := [.int l_2]) rfl rfl (ld_i g_2) ?_
          refine F_if H (fun c_4 H => ?_) (fun c_4 H => ?_)
          · refine ev_b0 (t := 67) (p' := 67) rfl rfl rfl (if_pos c_4) ?_
            refine ev_x (i := .iinc 1 1) (len := 3) (p' := 70) (s' := []) (l' := vz_s1 (lv) 1 (.int (l_1 + 1))) rfl rfl (ld_inc g_1 rfl) ?_
            refine ev_x (i := .goto (-68)) (len := 3) (p' := 2) (s' := []) rfl rfl rfl ?_
            exact ih.1 _ _ _ _ _ _ (vg_o (i := 1) (v := .int (l_1 + 1)) g_0 (by decide) (Or.inl rfl)) (vg_s (lv) 1 (.int (l_1 + 1))) (nb_s1 hnb rfl) hr_66_9 H
          · refine ev_b0 (t := 67) (p' := 65) rfl rfl rfl (if_neg c_4) ?_
            refine ev_x (i := .iload_n 1) (len := 1) (p' := 66) (s' := [.int l_1]) rfl rfl (ld_i g_1) ?_
            obtain rfl := Option.some.inj H
            exact ev_iret rfl rfl rfl rfl
        · refine ev_b2 (t := 61) (p' := 25) rfl rfl rfl (if_neg c_3) ?_
          refine ev_x (i := .iload_n 2) (len := 1) (p' := 26) (s' := [.int l_2]) rfl rfl (ld_i g_2) ?_
          refine F_if H (fun c_5 H => ?_) (fun c_5 H => ?_)
          · refine ev_b0 (t := 61) (p' := 61) rfl rfl rfl (if_pos c_5) ?_
            refine ev_x (i := .iload_n 2) (len := 1) (p' := 62) (s' := [.int l_2]) rfl rfl (ld_i g_2) ?_
            refine ev_b0 (t := 67) (p' := 67) rfl rfl rfl (if_pos c_5) ?_
            refine ev_x (i := .iinc 1 1) (len := 3) (p' := 70) (s' := []) (l' := vz_s1 (lv) 1 (.int (l_1 + 1))) rfl rfl (ld_inc g_1 rfl) ?_
            refine ev_x (i := .goto (-68)) (len := 3) (p' := 2) (s' := []) rfl rfl rfl ?_
            exact ih.1 _ _ _ _ _ _ (vg_o (i := 1) (v := .int (l_1 + 1)) g_0 (by decide) (Or.inl rfl)) (vg_s (lv) 1 (.int (l_1 + 1))) (nb_s1 hnb rfl) hr_66_9 H
          · refine ev_b0 (t := 61) (p' := 29) rfl rfl rfl (if_neg c_5) ?_
            refine ev_x (i := .aload_n 0) (len := 1) (p' := 30) (s' := [.ref 66]) rfl rfl (ld_a g_0) ?_
            refine ev_gc (p' := 33) (v := 171) rfl rfl rfl ly_66 rfl rfl ?_
            refine ev_x (i := .bipush 12) (len := 2) (p' := 35) (s' := [.int 12, .ref 171]) rfl rfl rfl ?_
            refine ev_x (i := .iload_n 1) (len := 1) (p' := 36) (s' := [.int l_1, .int 12, .ref 171]) rfl rfl (ld_i g_1) ?_
            refine ev_x (i := .imul) (len := 1) (p' := 37) (s' := [.int (12 * l_1), .ref 171]) rfl rfl rfl ?_
            refine ev_x (i := .iload_n 3) (len := 1) (p' := 38) (s' := [.int l_3, .int (12 * l_1), .ref 171]) rfl rfl (ld_i g_3) ?_
            refine ev_x (i := .iadd) (len := 1) (p' := 39) (s' := [.int ((12 * l_1) + l_3), .ref 171]) rfl rfl rfl ?_
            obtain ⟨b_6, H⟩ := F_gd H
            refine ev_ga (p' := 40) (v := (gE (σ) 171 (((12 * l_1) + l_3) : Int32).toNatClampNeg)) rfl rfl ly_171 rfl (gd_in b_6) rfl ?_
            refine ev_x (i := .aload_n 0) (len := 1) (p' := 41) (s' := [.ref 66, .int (gE (σ) 171 (((12 * l_1) + l_3) : Int32).toNatClampNeg)]) rfl rfl (ld_a g_0) ?_
            refine ev_gc (p' := 44) (v := 184) rfl rfl rfl ly_66 rfl rfl ?_
            refine ev_x (i := .iload_n 3) (len := 1) (p' := 45) (s' := [.int l_3, .ref 184, .int (gE (σ) 171 (((12 * l_1) + l_3) : Int32).toNatClampNeg)]) rfl rfl (ld_i g_3) ?_
            obtain ⟨b_7, H⟩ := F_gd H
            refine ev_ga (p' := 46) (v := (gE (σ) 184 (l_3 : Int32).toNatClampNeg)) rfl rfl ly_184 rfl (gd_in b_7) rfl ?_
            refine F_jn (A := vz_ev P0 (d + 1) 218 54 (lv) [.int (if (gE (σ) 171 (((12 * l_1) + l_3) : Int32).toNatClampNeg) = (gE (σ) 184 (l_3 : Int32).toNatClampNeg) then 1 else 0 : Int32)] (hp (σ)) (.inl (some (.int p.1)), hp p.2)) ?_ (fun J => ?_)
            · refine ev_x (i := .istore_n 2) (len := 1) (p' := 55) (s' := []) (l' := vz_s1 (lv) 2 (.int (if (gE (σ) 171 (((12 * l_1) + l_3) : Int32).toNatClampNeg) = (gE (σ) 184 (l_3 : Int32).toNatClampNeg) then 1 else 0 : Int32))) rfl rfl rfl ?_
              refine ev_x (i := .iinc 3 1) (len := 3) (p' := 58) (s' := []) (l' := vz_s1 (vz_s1 (lv) 2 (.int (if (gE (σ) 171 (((12 * l_1) + l_3) : Int32).toNatClampNeg) = (gE (σ) 184 (l_3 : Int32).toNatClampNeg) then 1 else 0 : Int32))) 3 (.int (l_3 + 1))) rfl rfl (ld_inc (vg_o (i := 2) (v := .int (if (gE (σ) 171 (((12 * l_1) + l_3) : Int32).toNatClampNeg) = (gE (σ) 184 (l_3 : Int32).toNatClampNeg) then 1 else 0 : Int32)) g_3 (by decide) (Or.inl rfl)) rfl) ?_
              refine ev_x (i := .goto (-44)) (len := 3) (p' := 14) (s' := []) rfl rfl rfl ?_
              exact ih.2.1 _ _ _ _ _ _ (vg_o (i := 3) (v := .int (l_3 + 1)) (vg_o (i := 2) (v := .int (if (gE (σ) 171 (((12 * l_1) + l_3) : Int32).toNatClampNeg) = (gE (σ) 184 (l_3 : Int32).toNatClampNeg) then 1 else 0 : Int32)) g_0 (by decide) (Or.inl rfl)) (by decide) (Or.inl rfl)) (vg_o (i := 3) (v := .int (l_3 + 1)) (vg_o (i := 2) (v := .int (if (gE (σ) 171 (((12 * l_1) + l_3) : Int32).toNatClampNeg) = (gE (σ) 184 (l_3 : Int32).toNatClampNeg) then 1 else 0 : Int32)) g_1 (by decide) (Or.inl rfl)) (by decide) (Or.inl rfl)) (vg_o (i := 3) (v := .int (l_3 + 1)) (vg_s (lv) 2 (.int (if (gE (σ) 171 (((12 * l_1) + l_3) : Int32).toNatClampNeg) = (gE (σ) 184 (l_3 : Int32).toNatClampNeg) then 1 else 0 : Int32))) (by decide) (Or.inl rfl)) (vg_s (vz_s1 (lv) 2 (.int (if (gE (σ) 171 (((12 * l_1) + l_3) : Int32).toNatClampNeg) = (gE (σ) 184 (l_3 : Int32).toNatClampNeg) then 1 else 0 : Int32))) 3 (.int (l_3 + 1))) (nb_s1 (nb_s1 hnb rfl) rfl) hr_66_9 H
            · by_cases c_8 : (gE (σ) 171 (((12 * l_1) + l_3) : Int32).toNatClampNeg) = (gE (σ) 184 (l_3 : Int32).toNatClampNeg)
              · refine ev_b2 (t := 53) (p' := 49) rfl rfl rfl (if_neg (fun q => q c_8)) ?_
                refine ev_x (i := .iconst 1) (len := 1) (p' := 50) (s' := [.int 1]) rfl rfl rfl ?_
                refine ev_x (i := .goto 4) (len := 3) (p' := 54) (s' := [.int 1]) rfl rfl rfl ?_
                exact ev_st (congrArg (fun z => Value.int z :: []) (by rw [if_pos c_8])) J
              · refine ev_b2 (t := 53) (p' := 53) rfl rfl rfl (if_pos c_8) ?_
                refine ev_x (i := .iconst 0) (len := 1) (p' := 54) (s' := [.int 0]) rfl rfl rfl ?_
                exact ev_st (congrArg (fun z => Value.int z :: []) (by rw [if_neg c_8])) J
      · intro l_1 l_2 l_3 σ lv p g_0 g_1 hnb hr_66_9 H
        unfold L_218 at H
        rw [if_neg (by decide)] at H
        rw [if_neg (by decide)] at H
        refine ev_x (i := .iload_n 1) (len := 1) (p' := 88) (s' := [.int l_1]) rfl rfl (ld_i g_1) ?_
        refine ev_x (i := .aload_n 0) (len := 1) (p' := 89) (s' := [.ref 66, .int l_1]) rfl rfl (ld_a g_0) ?_
        refine ev_gr (p' := 92) (v := 79) rfl rfl rfl ly_66 rfl rfl hr_66_9 ?_
        refine ev_gi (p' := 95) (v := (gI σ 79 12)) rfl rfl rfl ly_79 rfl rfl rfl ?_
        refine F_if H (fun c_9 H => ?_) (fun c_9 H => ?_)
        · refine ev_b2 (t := 124) (p' := 124) rfl rfl rfl (if_pos c_9) ?_
          refine ev_x (i := .aload_n 0) (len := 1) (p' := 125) (s' := [.ref 66]) rfl rfl (ld_a g_0) ?_
          refine ev_x (i := .aload_n 0) (len := 1) (p' := 126) (s' := [.ref 66, .ref 66]) rfl rfl (ld_a g_0) ?_
          refine ev_gi (p' := 129) (v := (gI σ 66 29)) rfl rfl rfl ly_66 rfl rfl rfl ?_
          refine ev_x (i := .iconst 1) (len := 1) (p' := 130) (s' := [.int 1, .int (gI σ 66 29), .ref 66]) rfl rfl rfl ?_
          refine ev_x (i := .iadd) (len := 1) (p' := 131) (s' := [.int ((gI σ 66 29) + 1), .ref 66]) rfl rfl rfl ?_
          refine ev_pi (p' := 134) rfl rfl rfl ly_66 rfl rfl rfl rfl ?_
          refine ev_x (i := .aload_n 0) (len := 1) (p' := 135) (s' := [.ref 66]) rfl rfl (ld_a g_0) ?_
          refine ev_gi (p' := 138) (v := ((gI σ 66 29) + 1)) rfl rfl rfl ly_66 rfl rfl rfl ?_
          refine ev_x (i := .iconst 1) (len := 1) (p' := 139) (s' := [.int 1, .int ((gI σ 66 29) + 1)]) rfl rfl rfl ?_
          refine ev_x (i := .isub) (len := 1) (p' := 140) (s' := [.int (((gI σ 66 29) + 1) - 1)]) rfl rfl rfl ?_
          obtain rfl := Option.some.inj H
          exact ev_iret rfl rfl rfl rfl
        · refine ev_b2 (t := 124) (p' := 98) rfl rfl rfl (if_neg c_9) ?_
          refine ev_x (i := .aload_n 0) (len := 1) (p' := 99) (s' := [.ref 66]) rfl rfl (ld_a g_0) ?_
          refine ev_gc (p' := 102) (v := 171) rfl rfl rfl ly_66 rfl rfl ?_
          refine ev_x (i := .bipush 12) (len := 2) (p' := 104) (s' := [.int 12, .ref 171]) rfl rfl rfl ?_
          refine ev_x (i := .aload_n 0) (len := 1) (p' := 105) (s' := [.ref 66, .int 12, .ref 171]) rfl rfl (ld_a g_0) ?_
          refine ev_gi (p' := 108) (v := (gI σ 66 29)) rfl rfl rfl ly_66 rfl rfl rfl ?_
          refine ev_x (i := .imul) (len := 1) (p' := 109) (s' := [.int (12 * (gI σ 66 29)), .ref 171]) rfl rfl rfl ?_
          refine ev_x (i := .iload_n 1) (len := 1) (p' := 110) (s' := [.int l_1, .int (12 * (gI σ 66 29)), .ref 171]) rfl rfl (ld_i g_1) ?_
          refine ev_x (i := .iadd) (len := 1) (p' := 111) (s' := [.int ((12 * (gI σ 66 29)) + l_1), .ref 171]) rfl rfl rfl ?_
          refine ev_x (i := .aload_n 0) (len := 1) (p' := 112) (s' := [.ref 66, .int ((12 * (gI σ 66 29)) + l_1), .ref 171]) rfl rfl (ld_a g_0) ?_
          refine ev_gc (p' := 115) (v := 184) rfl rfl rfl ly_66 rfl rfl ?_
          refine ev_x (i := .iload_n 1) (len := 1) (p' := 116) (s' := [.int l_1, .ref 184, .int ((12 * (gI σ 66 29)) + l_1), .ref 171]) rfl rfl (ld_i g_1) ?_
          obtain ⟨b_10, H⟩ := F_gd H
          refine ev_ga (p' := 117) (v := (gE (σ) 184 (l_1 : Int32).toNatClampNeg)) rfl rfl ly_184 rfl (gd_in b_10) rfl ?_
          obtain ⟨b_11, H⟩ := F_gd H
          refine ev_pa (j := (((12 * (gI σ 66 29)) + l_1) : Int32).toNatClampNeg) (p' := 118) rfl rfl ly_171 rfl (gd_in b_11) rfl ?_
          refine ev_x (i := .iinc 1 1) (len := 3) (p' := 121) (s' := []) (l' := vz_s1 (lv) 1 (.int (l_1 + 1))) rfl rfl (ld_inc g_1 rfl) ?_
          refine ev_x (i := .goto (-34)) (len := 3) (p' := 87) (s' := []) rfl rfl rfl ?_
          exact ih.2.2 _ _ _ _ _ _ (vg_o (i := 1) (v := .int (l_1 + 1)) g_0 (by decide) (Or.inl rfl)) (vg_s (lv) 1 (.int (l_1 + 1))) (nb_s1 hnb rfl) hr_66_9 H
  · intro k
    induction k with
    | zero => exact ⟨(by intro l_1 l_2 l_3 σ lv p g_0 g_1 hnb hr_66_9 H; unfold L_218 at H; cases H), (by intro l_1 l_2 l_3 σ lv p g_0 g_1 g_2 g_3 hnb hr_66_9 H; unfold L_218 at H; cases H), (by intro l_1 l_2 l_3 σ lv p g_0 g_1 hnb hr_66_9 H; unfold L_218 at H; cases H)⟩
    | succ k ih =>
      refine ⟨?_, ?_, ?_⟩
      · intro l_1 l_2 l_3 σ lv p g_0 g_1 hnb hr_66_9 H
        unfold L_218 at H
        rw [if_pos rfl] at H
        refine ev_x (i := .iload_n 1) (len := 1) (p' := 3) (s' := [.int l_1]) rfl rfl (ld_i g_1) ?_
        refine ev_x (i := .aload_n 0) (len := 1) (p' := 4) (s' := [.ref 66, .int l_1]) rfl rfl (ld_a g_0) ?_
        refine ev_gi (p' := 7) (v := (gI σ 66 29)) rfl rfl rfl ly_66 rfl rfl rfl ?_
        refine F_if H (fun c_1 H => ?_) (fun c_1 H => ?_)
        · refine ev_b2 (t := 73) (p' := 73) rfl rfl rfl (if_pos c_1) ?_
          refine ev_x (i := .aload_n 0) (len := 1) (p' := 74) (s' := [.ref 66]) rfl rfl (ld_a g_0) ?_
          refine ev_gi (p' := 77) (v := (gI σ 66 29)) rfl rfl rfl ly_66 rfl rfl rfl ?_
          refine ev_x (i := .sipush 512) (len := 3) (p' := 80) (s' := [.int 512, .int (gI σ 66 29)]) rfl rfl rfl ?_
          refine F_if H (fun c_2 H => ?_) (fun c_2 H => ?_)
          · refine ev_b2 (t := 85) (p' := 83) rfl rfl rfl (if_neg (fun q => q c_2)) ?_
            refine ev_x (i := .iconst (-1)) (len := 1) (p' := 84) (s' := [.int (-1)]) rfl rfl rfl ?_
            obtain rfl := Option.some.inj H
            exact ev_iret rfl rfl rfl rfl
          · refine ev_b2 (t := 85) (p' := 85) rfl rfl rfl (if_pos c_2) ?_
            refine ev_x (i := .iconst 0) (len := 1) (p' := 86) (s' := [.int 0]) rfl rfl rfl ?_
            refine ev_x (i := .istore_n 1) (len := 1) (p' := 87) (s' := []) (l' := vz_s1 (lv) 1 (.int 0)) rfl rfl rfl ?_
            exact ih.2.2 _ _ _ _ _ _ (vg_o (i := 1) (v := .int 0) g_0 (by decide) (Or.inl rfl)) (vg_s (lv) 1 (.int 0)) (nb_s1 hnb rfl) hr_66_9 H
        · refine ev_b2 (t := 73) (p' := 10) rfl rfl rfl (if_neg c_1) ?_
          refine ev_x (i := .iconst 1) (len := 1) (p' := 11) (s' := [.int 1]) rfl rfl rfl ?_
          refine ev_x (i := .istore_n 2) (len := 1) (p' := 12) (s' := []) (l' := vz_s1 (lv) 2 (.int 1)) rfl rfl rfl ?_
          refine ev_x (i := .iconst 0) (len := 1) (p' := 13) (s' := [.int 0]) rfl rfl rfl ?_
          refine ev_x (i := .istore_n 3) (len := 1) (p' := 14) (s' := []) (l' := vz_s1 (vz_s1 (lv) 2 (.int 1)) 3 (.int 0)) rfl rfl rfl ?_
          exact ih.2.1 _ _ _ _ _ _ (vg_o (i := 3) (v := .int 0) (vg_o (i := 2) (v := .int 1) g_0 (by decide) (Or.inl rfl)) (by decide) (Or.inl rfl)) (vg_o (i := 3) (v := .int 0) (vg_o (i := 2) (v := .int 1) g_1 (by decide) (Or.inl rfl)) (by decide) (Or.inl rfl)) (vg_o (i := 3) (v := .int 0) (vg_s (lv) 2 (.int 1)) (by decide) (Or.inl rfl)) (vg_s (vz_s1 (lv) 2 (.int 1)) 3 (.int 0)) (nb_s1 (nb_s1 hnb rfl) rfl) hr_66_9 H
      · intro l_1 l_2 l_3 σ lv p g_0 g_1 g_2 g_3 hnb hr_66_9 H
        unfold L_218 at H
        rw [if_neg (by decide)] at H
        rw [if_pos rfl] at H
        refine ev_x (i := .iload_n 3) (len := 1) (p' := 15) (s' := [.int l_3]) rfl rfl (ld_i g_3) ?_
        refine ev_x (i := .aload_n 0) (len := 1) (p' := 16) (s' := [.ref 66, .int l_3]) rfl rfl (ld_a g_0) ?_
        refine ev_gr (p' := 19) (v := 115) rfl rfl rfl ly_66 rfl rfl hr_66_9 ?_
        refine ev_gi (p' := 22) (v := (gI σ 115 12)) rfl rfl rfl ly_115 rfl rfl rfl ?_
        refine F_if H (fun c_3 H => ?_) (fun c_3 H => ?_)
        · refine ev_b2 (t := 61) (p' := 61) rfl rfl rfl (if_pos c_3) ?_
          refine ev_x (i := .iload_n 2) (len := 1) (p' := 62) (s' := [.int l_2]) rfl rfl (ld_i g_2) ?_
          refine F_if H (fun c_4 H => ?_) (fun c_4 H => ?_)
          · refine ev_b0 (t := 67) (p' := 67) rfl rfl rfl (if_pos c_4) ?_
            refine ev_x (i := .iinc 1 1) (len := 3) (p' := 70) (s' := []) (l' := vz_s1 (lv) 1 (.int (l_1 + 1))) rfl rfl (ld_inc g_1 rfl) ?_
            refine ev_x (i := .goto (-68)) (len := 3) (p' := 2) (s' := []) rfl rfl rfl ?_
            exact ih.1 _ _ _ _ _ _ (vg_o (i := 1) (v := .int (l_1 + 1)) g_0 (by decide) (Or.inl rfl)) (vg_s (lv) 1 (.int (l_1 + 1))) (nb_s1 hnb rfl) hr_66_9 H
          · refine ev_b0 (t := 67) (p' := 65) rfl rfl rfl (if_neg c_4) ?_
            refine ev_x (i := .iload_n 1) (len := 1) (p' := 66) (s' := [.int l_1]) rfl rfl (ld_i g_1) ?_
            obtain rfl := Option.some.inj H
            exact ev_iret rfl rfl rfl rfl
        · refine ev_b2 (t := 61) (p' := 25) rfl rfl rfl (if_neg c_3) ?_
          refine ev_x (i := .iload_n 2) (len := 1) (p' := 26) (s' := [.int l_2]) rfl rfl (ld_i g_2) ?_
          refine F_if H (fun c_5 H => ?_) (fun c_5 H => ?_)
          · refine ev_b0 (t := 61) (p' := 61) rfl rfl rfl (if_pos c_5) ?_
            refine ev_x (i := .iload_n 2) (len := 1) (p' := 62) (s' := [.int l_2]) rfl rfl (ld_i g_2) ?_
            refine ev_b0 (t := 67) (p' := 67) rfl rfl rfl (if_pos c_5) ?_
            refine ev_x (i := .iinc 1 1) (len := 3) (p' := 70) (s' := []) (l' := vz_s1 (lv) 1 (.int (l_1 + 1))) rfl rfl (ld_inc g_1 rfl) ?_
            refine ev_x (i := .goto (-68)) (len := 3) (p' := 2) (s' := []) rfl rfl rfl ?_
            exact ih.1 _ _ _ _ _ _ (vg_o (i := 1) (v := .int (l_1 + 1)) g_0 (by decide) (Or.inl rfl)) (vg_s (lv) 1 (.int (l_1 + 1))) (nb_s1 hnb rfl) hr_66_9 H
          · refine ev_b0 (t := 61) (p' := 29) rfl rfl rfl (if_neg c_5) ?_
            refine ev_x (i := .aload_n 0) (len := 1) (p' := 30) (s' := [.ref 66]) rfl rfl (ld_a g_0) ?_
            refine ev_gc (p' := 33) (v := 171) rfl rfl rfl ly_66 rfl rfl ?_
            refine ev_x (i := .bipush 12) (len := 2) (p' := 35) (s' := [.int 12, .ref 171]) rfl rfl rfl ?_
            refine ev_x (i := .iload_n 1) (len := 1) (p' := 36) (s' := [.int l_1, .int 12, .ref 171]) rfl rfl (ld_i g_1) ?_
            refine ev_x (i := .imul) (len := 1) (p' := 37) (s' := [.int (12 * l_1), .ref 171]) rfl rfl rfl ?_
            refine ev_x (i := .iload_n 3) (len := 1) (p' := 38) (s' := [.int l_3, .int (12 * l_1), .ref 171]) rfl rfl (ld_i g_3) ?_
            refine ev_x (i := .iadd) (len := 1) (p' := 39) (s' := [.int ((12 * l_1) + l_3), .ref 171]) rfl rfl rfl ?_
            obtain ⟨b_6, H⟩ := F_gd H
            refine ev_ga (p' := 40) (v := (gE (σ) 171 (((12 * l_1) + l_3) : Int32).toNatClampNeg)) rfl rfl ly_171 rfl (gd_in b_6) rfl ?_
            refine ev_x (i := .aload_n 0) (len := 1) (p' := 41) (s' := [.ref 66, .int (gE (σ) 171 (((12 * l_1) + l_3) : Int32).toNatClampNeg)]) rfl rfl (ld_a g_0) ?_
            refine ev_gc (p' := 44) (v := 184) rfl rfl rfl ly_66 rfl rfl ?_
            refine ev_x (i := .iload_n 3) (len := 1) (p' := 45) (s' := [.int l_3, .ref 184, .int (gE (σ) 171 (((12 * l_1) + l_3) : Int32).toNatClampNeg)]) rfl rfl (ld_i g_3) ?_
            obtain ⟨b_7, H⟩ := F_gd H
            refine ev_ga (p' := 46) (v := (gE (σ) 184 (l_3 : Int32).toNatClampNeg)) rfl rfl ly_184 rfl (gd_in b_7) rfl ?_
            refine F_jn (A := vz_ev P0 (d + 1) 218 54 (lv) [.int (if (gE (σ) 171 (((12 * l_1) + l_3) : Int32).toNatClampNeg) = (gE (σ) 184 (l_3 : Int32).toNatClampNeg) then 1 else 0 : Int32)] (hp (σ)) (.inl (some (.int p.1)), hp p.2)) ?_ (fun J => ?_)
            · refine ev_x (i := .istore_n 2) (len := 1) (p' := 55) (s' := []) (l' := vz_s1 (lv) 2 (.int (if (gE (σ) 171 (((12 * l_1) + l_3) : Int32).toNatClampNeg) = (gE (σ) 184 (l_3 : Int32).toNatClampNeg) then 1 else 0 : Int32))) rfl rfl rfl ?_
              refine ev_x (i := .iinc 3 1) (len := 3) (p' := 58) (s' := []) (l' := vz_s1 (vz_s1 (lv) 2 (.int (if (gE (σ) 171 (((12 * l_1) + l_3) : Int32).toNatClampNeg) = (gE (σ) 184 (l_3 : Int32).toNatClampNeg) then 1 else 0 : Int32))) 3 (.int (l_3 + 1))) rfl rfl (ld_inc (vg_o (i := 2) (v := .int (if (gE (σ) 171 (((12 * l_1) + l_3) : Int32).toNatClampNeg) = (gE (σ) 184 (l_3 : Int32).toNatClampNeg) then 1 else 0 : Int32)) g_3 (by decide) (Or.inl rfl)) rfl) ?_
              refine ev_x (i := .goto (-44)) (len := 3) (p' := 14) (s' := []) rfl rfl rfl ?_
              exact ih.2.1 _ _ _ _ _ _ (vg_o (i := 3) (v := .int (l_3 + 1)) (vg_o (i := 2) (v := .int (if (gE (σ) 171 (((12 * l_1) + l_3) : Int32).toNatClampNeg) = (gE (σ) 184 (l_3 : Int32).toNatClampNeg) then 1 else 0 : Int32)) g_0 (by decide) (Or.inl rfl)) (by decide) (Or.inl rfl)) (vg_o (i := 3) (v := .int (l_3 + 1)) (vg_o (i := 2) (v := .int (if (gE (σ) 171 (((12 * l_1) + l_3) : Int32).toNatClampNeg) = (gE (σ) 184 (l_3 : Int32).toNatClampNeg) then 1 else 0 : Int32)) g_1 (by decide) (Or.inl rfl)) (by decide) (Or.inl rfl)) (vg_o (i := 3) (v := .int (l_3 + 1)) (vg_s (lv) 2 (.int (if (gE (σ) 171 (((12 * l_1) + l_3) : Int32).toNatClampNeg) = (gE (σ) 184 (l_3 : Int32).toNatClampNeg) then 1 else 0 : Int32))) (by decide) (Or.inl rfl)) (vg_s (vz_s1 (lv) 2 (.int (if (gE (σ) 171 (((12 * l_1) + l_3) : Int32).toNatClampNeg) = (gE (σ) 184 (l_3 : Int32).toNatClampNeg) then 1 else 0 : Int32))) 3 (.int (l_3 + 1))) (nb_s1 (nb_s1 hnb rfl) rfl) hr_66_9 H
            · by_cases c_8 : (gE (σ) 171 (((12 * l_1) + l_3) : Int32).toNatClampNeg) = (gE (σ) 184 (l_3 : Int32).toNatClampNeg)
              · refine ev_b2 (t := 53) (p' := 49) rfl rfl rfl (if_neg (fun q => q c_8)) ?_
                refine ev_x (i := .iconst 1) (len := 1) (p' := 50) (s' := [.int 1]) rfl rfl rfl ?_
                refine ev_x (i := .goto 4) (len := 3) (p' := 54) (s' := [.int 1]) rfl rfl rfl ?_
                exact ev_st (congrArg (fun z => Value.int z :: []) (by rw [if_pos c_8])) J
              · refine ev_b2 (t := 53) (p' := 53) rfl rfl rfl (if_pos c_8) ?_
                refine ev_x (i := .iconst 0) (len := 1) (p' := 54) (s' := [.int 0]) rfl rfl rfl ?_
                exact ev_st (congrArg (fun z => Value.int z :: []) (by rw [if_neg c_8])) J
      · intro l_1 l_2 l_3 σ lv p g_0 g_1 hnb hr_66_9 H
        unfold L_218 at H
        rw [if_neg (by decide)] at H
        rw [if_neg (by decide)] at H
        refine ev_x (i := .iload_n 1) (len := 1) (p' := 88) (s' := [.int l_1]) rfl rfl (ld_i g_1) ?_
        refine ev_x (i := .aload_n 0) (len := 1) (p' := 89) (s' := [.ref 66, .int l_1]) rfl rfl (ld_a g_0) ?_
        refine ev_gr (p' := 92) (v := 115) rfl rfl rfl ly_66 rfl rfl hr_66_9 ?_
        refine ev_gi (p' := 95) (v := (gI σ 115 12)) rfl rfl rfl ly_115 rfl rfl rfl ?_
        refine F_if H (fun c_9 H => ?_) (fun c_9 H => ?_)
        · refine ev_b2 (t := 124) (p' := 124) rfl rfl rfl (if_pos c_9) ?_
          refine ev_x (i := .aload_n 0) (len := 1) (p' := 125) (s' := [.ref 66]) rfl rfl (ld_a g_0) ?_
          refine ev_x (i := .aload_n 0) (len := 1) (p' := 126) (s' := [.ref 66, .ref 66]) rfl rfl (ld_a g_0) ?_
          refine ev_gi (p' := 129) (v := (gI σ 66 29)) rfl rfl rfl ly_66 rfl rfl rfl ?_
          refine ev_x (i := .iconst 1) (len := 1) (p' := 130) (s' := [.int 1, .int (gI σ 66 29), .ref 66]) rfl rfl rfl ?_
          refine ev_x (i := .iadd) (len := 1) (p' := 131) (s' := [.int ((gI σ 66 29) + 1), .ref 66]) rfl rfl rfl ?_
          refine ev_pi (p' := 134) rfl rfl rfl ly_66 rfl rfl rfl rfl ?_
          refine ev_x (i := .aload_n 0) (len := 1) (p' := 135) (s' := [.ref 66]) rfl rfl (ld_a g_0) ?_
          refine ev_gi (p' := 138) (v := ((gI σ 66 29) + 1)) rfl rfl rfl ly_66 rfl rfl rfl ?_
          refine ev_x (i := .iconst 1) (len := 1) (p' := 139) (s' := [.int 1, .int ((gI σ 66 29) + 1)]) rfl rfl rfl ?_
          refine ev_x (i := .isub) (len := 1) (p' := 140) (s' := [.int (((gI σ 66 29) + 1) - 1)]) rfl rfl rfl ?_
          obtain rfl := Option.some.inj H
          exact ev_iret rfl rfl rfl rfl
        · refine ev_b2 (t := 124) (p' := 98) rfl rfl rfl (if_neg c_9) ?_
          refine ev_x (i := .aload_n 0) (len := 1) (p' := 99) (s' := [.ref 66]) rfl rfl (ld_a g_0) ?_
          refine ev_gc (p' := 102) (v := 171) rfl rfl rfl ly_66 rfl rfl ?_
          refine ev_x (i := .bipush 12) (len := 2) (p' := 104) (s' := [.int 12, .ref 171]) rfl rfl rfl ?_
          refine ev_x (i := .aload_n 0) (len := 1) (p' := 105) (s' := [.ref 66, .int 12, .ref 171]) rfl rfl (ld_a g_0) ?_
          refine ev_gi (p' := 108) (v := (gI σ 66 29)) rfl rfl rfl ly_66 rfl rfl rfl ?_
          refine ev_x (i := .imul) (len := 1) (p' := 109) (s' := [.int (12 * (gI σ 66 29)), .ref 171]) rfl rfl rfl ?_
          refine ev_x (i := .iload_n 1) (len := 1) (p' := 110) (s' := [.int l_1, .int (12 * (gI σ 66 29)), .ref 171]) rfl rfl (ld_i g_1) ?_
          refine ev_x (i := .iadd) (len := 1) (p' := 111) (s' := [.int ((12 * (gI σ 66 29)) + l_1), .ref 171]) rfl rfl rfl ?_
          refine ev_x (i := .aload_n 0) (len := 1) (p' := 112) (s' := [.ref 66, .int ((12 * (gI σ 66 29)) + l_1), .ref 171]) rfl rfl (ld_a g_0) ?_
          refine ev_gc (p' := 115) (v := 184) rfl rfl rfl ly_66 rfl rfl ?_
          refine ev_x (i := .iload_n 1) (len := 1) (p' := 116) (s' := [.int l_1, .ref 184, .int ((12 * (gI σ 66 29)) + l_1), .ref 171]) rfl rfl (ld_i g_1) ?_
          obtain ⟨b_10, H⟩ := F_gd H
          refine ev_ga (p' := 117) (v := (gE (σ) 184 (l_1 : Int32).toNatClampNeg)) rfl rfl ly_184 rfl (gd_in b_10) rfl ?_
          obtain ⟨b_11, H⟩ := F_gd H
          refine ev_pa (j := (((12 * (gI σ 66 29)) + l_1) : Int32).toNatClampNeg) (p' := 118) rfl rfl ly_171 rfl (gd_in b_11) rfl ?_
          refine ev_x (i := .iinc 1 1) (len := 3) (p' := 121) (s' := []) (l' := vz_s1 (lv) 1 (.int (l_1 + 1))) rfl rfl (ld_inc g_1 rfl) ?_
          refine ev_x (i := .goto (-34)) (len := 3) (p' := 87) (s' := []) rfl rfl rfl ?_
          exact ih.2.2 _ _ _ _ _ _ (vg_o (i := 1) (v := .int (l_1 + 1)) g_0 (by decide) (Or.inl rfl)) (vg_s (lv) 1 (.int (l_1 + 1))) (nb_s1 hnb rfl) hr_66_9 H
/-- GameTextModel.stateOf()I -/
def F_218 (N : Nat) (g : Nat) (σ : st_S) : Option (Int32 × st_S) :=
  L_218 N g N 2 0 0 0 (σ)
set_option maxRecDepth 100000 in
theorem F_218_R {N : Nat} {g : Nat} {σ : st_S} {p : Int32 × st_S} (H : F_218 N g σ = some p) : gR p.2 = gR σ := by
  unfold F_218 at H
  exact (((L_218_R _ _ _ _ _ _ _ H)).trans rfl)
set_option maxHeartbeats 4000000 in
set_option maxRecDepth 100000 in
theorem F_218_ok {N d : Nat} {g : Nat} (hg : g = 79 ∨ g = 115) {σ : st_S} {p : Int32 × st_S} (hr_66_9 : gR σ 66 9 = g) (H : F_218 N g σ = some p) : vz_ev P0 (d + 1) 218 0 (lv_args 0 [.ref 66]) [] (hp σ) (.inl (some (.int p.1)), hp p.2) := by
  unfold F_218 at H
  refine ev_x (i := .iconst 0) (len := 1) (p' := 1) (s' := [.int 0]) rfl rfl rfl ?_
  refine ev_x (i := .istore_n 1) (len := 1) (p' := 2) (s' := []) (l' := [(1, .int 0), (0, .ref 66)]) rfl rfl rfl ?_
  exact (L_218_ok (d := d) hg N).1 _ _ _ _ _ _ rfl rfl rfl hr_66_9 H
/-- GameTextModel.add(IJJ)V -/
def F_219 (N : Nat) (x_1 : Int32) (x_2 : Int64) (x_4 : Int64) (σ : st_S) : Option (st_S) :=
  if aB x_1 (gN σ 182) then
  if aB x_1 (gN σ 183) then
  (F_196 N (((gL (σ) 182 (x_1 : Int32).toNatClampNeg) * x_4) + (x_2 * (gL (σ) 183 (x_1 : Int32).toNatClampNeg))) ((gL (σ) 183 (x_1 : Int32).toNatClampNeg) * x_4) (σ)).bind fun p_3 =>
  if ¬ (p_3.1 : Int64) = 0 then
  if aB x_1 (gN p_3.2 182) then
  if aB x_1 (gN p_3.2 183) then
  some (st_E (st_E (p_3.2) 182 ((x_1 : Int32).toNatClampNeg) ((((gL (σ) 182 (x_1 : Int32).toNatClampNeg) * x_4) + (x_2 * (gL (σ) 183 (x_1 : Int32).toNatClampNeg))) / p_3.1)) 183 ((x_1 : Int32).toNatClampNeg) (((gL (σ) 183 (x_1 : Int32).toNatClampNeg) * x_4) / p_3.1))
  else none
  else none
  else none
  else none
  else none
set_option maxRecDepth 100000 in
theorem F_219_R {N : Nat} {x_1 : Int32} {x_2 : Int64} {x_4 : Int64} {σ : st_S} {p : st_S} (H : F_219 N x_1 x_2 x_4 σ = some p) : gR p = gR σ := by
  unfold F_219 at H
  obtain ⟨_, H⟩ := F_gd H
  obtain ⟨_, H⟩ := F_gd H
  obtain ⟨p_3, G_3, H⟩ := F_bd H
  obtain ⟨_, H⟩ := F_gd H
  obtain ⟨_, H⟩ := F_gd H
  obtain ⟨_, H⟩ := F_gd H
  obtain rfl := Option.some.inj H
  exact ((F_196_R G_3).trans rfl)
set_option maxHeartbeats 4000000 in
set_option maxRecDepth 100000 in
theorem F_219_ok {N d : Nat} {x_1 : Int32} {x_2 : Int64} {x_4 : Int64} {σ : st_S} {p : st_S}  (H : F_219 N x_1 x_2 x_4 σ = some p) : vz_ev P0 (d + 2) 219 0 (lv_args 0 [.ref 66, .int x_1, .long x_2, .long x_4]) [] (hp σ) (.inl none, hp p) := by
  unfold F_219 at H
  refine ev_x (i := .aload_n 0) (len := 1) (p' := 1) (s' := [.ref 66]) rfl rfl rfl ?_
  refine ev_gc (p' := 4) (v := 182) rfl rfl rfl ly_66 rfl rfl ?_
  refine ev_x (i := .iload_n 1) (len := 1) (p' := 5) (s' := [.int x_1, .ref 182]) rfl rfl rfl ?_
  obtain ⟨b_1, H⟩ := F_gd H
  refine ev_gL (p' := 6) (v := (gL (σ) 182 (x_1 : Int32).toNatClampNeg)) rfl rfl ly_182 rfl (gd_in b_1) rfl ?_
  refine ev_x (i := .lload 4) (len := 2) (p' := 8) (s' := [.long x_4, .long (gL (σ) 182 (x_1 : Int32).toNatClampNeg)]) rfl rfl rfl ?_
  refine ev_x (i := .lmul) (len := 1) (p' := 9) (s' := [.long ((gL (σ) 182 (x_1 : Int32).toNatClampNeg) * x_4)]) rfl rfl rfl ?_
  refine ev_x (i := .lload_n 2) (len := 1) (p' := 10) (s' := [.long x_2, .long ((gL (σ) 182 (x_1 : Int32).toNatClampNeg) * x_4)]) rfl rfl rfl ?_
  refine ev_x (i := .aload_n 0) (len := 1) (p' := 11) (s' := [.ref 66, .long x_2, .long ((gL (σ) 182 (x_1 : Int32).toNatClampNeg) * x_4)]) rfl rfl rfl ?_
  refine ev_gc (p' := 14) (v := 183) rfl rfl rfl ly_66 rfl rfl ?_
  refine ev_x (i := .iload_n 1) (len := 1) (p' := 15) (s' := [.int x_1, .ref 183, .long x_2, .long ((gL (σ) 182 (x_1 : Int32).toNatClampNeg) * x_4)]) rfl rfl rfl ?_
  obtain ⟨b_2, H⟩ := F_gd H
  refine ev_gL (p' := 16) (v := (gL (σ) 183 (x_1 : Int32).toNatClampNeg)) rfl rfl ly_183 rfl (gd_in b_2) rfl ?_
  refine ev_x (i := .lmul) (len := 1) (p' := 17) (s' := [.long (x_2 * (gL (σ) 183 (x_1 : Int32).toNatClampNeg)), .long ((gL (σ) 182 (x_1 : Int32).toNatClampNeg) * x_4)]) rfl rfl rfl ?_
  refine ev_x (i := .ladd) (len := 1) (p' := 18) (s' := [.long (((gL (σ) 182 (x_1 : Int32).toNatClampNeg) * x_4) + (x_2 * (gL (σ) 183 (x_1 : Int32).toNatClampNeg)))]) rfl rfl rfl ?_
  refine ev_x (i := .lstore 6) (len := 2) (p' := 20) (s' := []) (l' := [(6, .long (((gL (σ) 182 (x_1 : Int32).toNatClampNeg) * x_4) + (x_2 * (gL (σ) 183 (x_1 : Int32).toNatClampNeg)))), (0, .ref 66), (1, .int x_1), (2, .long x_2), (4, .long x_4)]) rfl rfl rfl ?_
  refine ev_x (i := .aload_n 0) (len := 1) (p' := 21) (s' := [.ref 66]) rfl rfl rfl ?_
  refine ev_gc (p' := 24) (v := 183) rfl rfl rfl ly_66 rfl rfl ?_
  refine ev_x (i := .iload_n 1) (len := 1) (p' := 25) (s' := [.int x_1, .ref 183]) rfl rfl rfl ?_
  refine ev_gL (p' := 26) (v := (gL (σ) 183 (x_1 : Int32).toNatClampNeg)) rfl rfl ly_183 rfl (gd_in b_2) rfl ?_
  refine ev_x (i := .lload 4) (len := 2) (p' := 28) (s' := [.long x_4, .long (gL (σ) 183 (x_1 : Int32).toNatClampNeg)]) rfl rfl rfl ?_
  refine ev_x (i := .lmul) (len := 1) (p' := 29) (s' := [.long ((gL (σ) 183 (x_1 : Int32).toNatClampNeg) * x_4)]) rfl rfl rfl ?_
  refine ev_x (i := .lstore 8) (len := 2) (p' := 31) (s' := []) (l' := [(8, .long ((gL (σ) 183 (x_1 : Int32).toNatClampNeg) * x_4)), (6, .long (((gL (σ) 182 (x_1 : Int32).toNatClampNeg) * x_4) + (x_2 * (gL (σ) 183 (x_1 : Int32).toNatClampNeg)))), (0, .ref 66), (1, .int x_1), (2, .long x_2), (4, .long x_4)]) rfl rfl rfl ?_
  refine ev_x (i := .lload 6) (len := 2) (p' := 33) (s' := [.long (((gL (σ) 182 (x_1 : Int32).toNatClampNeg) * x_4) + (x_2 * (gL (σ) 183 (x_1 : Int32).toNatClampNeg)))]) rfl rfl rfl ?_
  refine ev_x (i := .lload 8) (len := 2) (p' := 35) (s' := [.long ((gL (σ) 183 (x_1 : Int32).toNatClampNeg) * x_4), .long (((gL (σ) 182 (x_1 : Int32).toNatClampNeg) * x_4) + (x_2 * (gL (σ) 183 (x_1 : Int32).toNatClampNeg)))]) rfl rfl rfl ?_
  obtain ⟨p_3, G_3, H⟩ := F_bd H
  refine ev_callS (d := d + 1) (As := [.long (((gL (σ) 182 (x_1 : Int32).toNatClampNeg) * x_4) + (x_2 * (gL (σ) 183 (x_1 : Int32).toNatClampNeg))), .long ((gL (σ) 183 (x_1 : Int32).toNatClampNeg) * x_4)]) rfl rfl rfl (by decide) rfl rfl rfl rfl rfl (F_196_ok (d := d + 0)   G_3) ?_
  refine ev_st (st' := [.long p_3.1]) rfl ?_
  refine ev_pc (pc' := 38) rfl ?_
  have e_3 := F_196_R G_3
  refine ev_x (i := .lstore 10) (len := 2) (p' := 40) (s' := []) (l' := [(10, .long p_3.1), (8, .long ((gL (σ) 183 (x_1 : Int32).toNatClampNeg) * x_4)), (6, .long (((gL (σ) 182 (x_1 : Int32).toNatClampNeg) * x_4) + (x_2 * (gL (σ) 183 (x_1 : Int32).toNatClampNeg)))), (0, .ref 66), (1, .int x_1), (2, .long x_2), (4, .long x_4)]) rfl rfl rfl ?_
  refine ev_x (i := .aload_n 0) (len := 1) (p' := 41) (s' := [.ref 66]) rfl rfl rfl ?_
  refine ev_gc (p' := 44) (v := 182) rfl rfl rfl ly_66 rfl rfl ?_
  refine ev_x (i := .iload_n 1) (len := 1) (p' := 45) (s' := [.int x_1, .ref 182]) rfl rfl rfl ?_
  refine ev_x (i := .lload 6) (len := 2) (p' := 47) (s' := [.long (((gL (σ) 182 (x_1 : Int32).toNatClampNeg) * x_4) + (x_2 * (gL (σ) 183 (x_1 : Int32).toNatClampNeg))), .int x_1, .ref 182]) rfl rfl rfl ?_
  refine ev_x (i := .lload 10) (len := 2) (p' := 49) (s' := [.long p_3.1, .long (((gL (σ) 182 (x_1 : Int32).toNatClampNeg) * x_4) + (x_2 * (gL (σ) 183 (x_1 : Int32).toNatClampNeg))), .int x_1, .ref 182]) rfl rfl rfl ?_
  obtain ⟨b_4, H⟩ := F_gd H
  refine ev_ldiv (p' := 50) rfl rfl b_4 rfl ?_
  obtain ⟨b_5, H⟩ := F_gd H
  refine ev_pL (j := (x_1 : Int32).toNatClampNeg) (p' := 51) rfl rfl ly_182 rfl (gd_in b_5) rfl ?_
  refine ev_x (i := .aload_n 0) (len := 1) (p' := 52) (s' := [.ref 66]) rfl rfl rfl ?_
  refine ev_gc (p' := 55) (v := 183) rfl rfl rfl ly_66 rfl rfl ?_
  refine ev_x (i := .iload_n 1) (len := 1) (p' := 56) (s' := [.int x_1, .ref 183]) rfl rfl rfl ?_
  refine ev_x (i := .lload 8) (len := 2) (p' := 58) (s' := [.long ((gL (σ) 183 (x_1 : Int32).toNatClampNeg) * x_4), .int x_1, .ref 183]) rfl rfl rfl ?_
  refine ev_x (i := .lload 10) (len := 2) (p' := 60) (s' := [.long p_3.1, .long ((gL (σ) 183 (x_1 : Int32).toNatClampNeg) * x_4), .int x_1, .ref 183]) rfl rfl rfl ?_
  refine ev_ldiv (p' := 61) rfl rfl b_4 rfl ?_
  obtain ⟨b_6, H⟩ := F_gd H
  refine ev_pL (j := (x_1 : Int32).toNatClampNeg) (p' := 62) rfl rfl ly_183 rfl (gd_in b_6) rfl ?_
  obtain rfl := Option.some.inj H
  exact ev_vret rfl rfl rfl
/-- GameTextModel.way(III)V, its loops -/
def L_216 (N : Nat) (g : Nat) : Nat → Nat → Int32 → Int32 → Int32 → Int32 → Int32 → Int32 → Int32 → st_S → Option (st_S)
  | 0, _, _, _, _, _, _, _, _, _ => none
  | k + 1, w, l_2, l_3, l_4, l_5, l_6, l_7, l_8, σ =>
    if w = 11 then
      if (gI σ g 12) ≤ l_5 then
        if aB l_4 (gN σ (g + 28)) then
        L_216 N g k 59 l_2 l_3 l_4 (gE (σ) (g + 28) (l_4 : Int32).toNatClampNeg) (gE (σ) (g + 28) (l_4 : Int32).toNatClampNeg) 0 0 (σ)
        else none
      else
        if aB l_5 (gN σ 167) then
        if aB l_5 (gN σ 184) then
        L_216 N g k 11 l_2 l_3 l_4 (l_5 + 1) 0 0 0 (st_e (σ) 184 ((l_5 : Int32).toNatClampNeg) (gE (σ) 167 (l_5 : Int32).toNatClampNeg))
        else none
        else none
    else
    if w = 59 then
      if aB l_4 (gN σ (g + 29)) then
      if (l_5 + (gE (σ) (g + 29) (l_4 : Int32).toNatClampNeg)) ≤ l_6 then
        if (gI σ 66 16) = 0 then
          (F_218 N g (σ)).bind fun p_8 =>
          if 0 ≤ p_8.1 then
            (N_139 N 177 ((gI p_8.2 177 1) - 1) (p_8.2)).bind fun p_10 =>
            L_216 N g k 187 l_2 l_3 0 0 p_8.1 ((gI p_8.2 177 1) - 1) p_10.1 (p_10.2)
          else
            if aB l_4 (gN p_8.2 (g + 27)) then
            (F_165 N 5 (gE (p_8.2) (g + 27) (l_4 : Int32).toNatClampNeg) (p_8.2)).bind fun p_12 =>
            some (p_12)
            else none
        else
          some (σ)
      else
        if (gI σ 66 16) = 0 then
          (N_139 N (g + 30) l_6 (σ)).bind fun p_14 =>
          (N_139 N (g + 34) l_6 (p_14.2)).bind fun p_15 =>
          (N_139 N (g + 32) l_6 (p_15.2)).bind fun p_16 =>
          (F_217 N g p_14.1 p_15.1 p_16.1 (p_16.2)).bind fun p_17 =>
          L_216 N g k 59 l_2 l_3 l_4 l_5 (l_6 + 1) 0 0 (p_17)
        else
            some (σ)
      else none
    else
      if (gI σ 66 38) ≤ l_8 then
        if (gI σ 66 38) = 4096 then
          (F_165 N 5 l_3 (σ)).bind fun p_20 =>
          some (p_20)
        else
          if aB (gI σ 66 38) (gN σ 181) then
          if aB l_2 (gN σ 185) then
          if aB (gI σ 66 38) (gN σ 182) then
          if aB l_2 (gN σ 186) then
          if aB (gI σ 66 38) (gN σ 183) then
          if aB l_7 (gN σ 180) then
          some (st_e (st_i (st_E (st_E (st_e (σ) 181 (((gI σ 66 38) : Int32).toNatClampNeg) l_6) 182 (((gI σ 66 38) : Int32).toNatClampNeg) (gL (σ) 185 (l_2 : Int32).toNatClampNeg)) 183 (((gI σ 66 38) : Int32).toNatClampNeg) (gL (σ) 186 (l_2 : Int32).toNatClampNeg)) 66 38 ((gI σ 66 38) + 1)) 180 ((l_7 : Int32).toNatClampNeg) ((gE (σ) 180 (l_7 : Int32).toNatClampNeg) + 1))
          else none
          else none
          else none
          else none
          else none
          else none
      else
        if aB l_8 (gN σ 181) then
        if (gE (σ) 181 (l_8 : Int32).toNatClampNeg) = l_6 then
          if aB l_2 (gN σ 185) then
          if aB l_2 (gN σ 186) then
          (F_219 N l_8 (gL (σ) 185 (l_2 : Int32).toNatClampNeg) (gL (σ) 186 (l_2 : Int32).toNatClampNeg) (σ)).bind fun p_31 =>
          some (p_31)
          else none
          else none
        else
          L_216 N g k 187 l_2 l_3 0 0 l_6 l_7 (l_8 + 1) (σ)
        else none
set_option maxRecDepth 100000 in
theorem L_216_R {N : Nat} {g : Nat} : ∀ (k : Nat) (w : Nat) (l_2 : Int32) (l_3 : Int32) (l_4 : Int32) (l_5 : Int32) (l_6 : Int32) (l_7 : Int32) (l_8 : Int32) (σ : st_S) (p : st_S), L_216 N g k w l_2 l_3 l_4 l_5 l_6 l_7 l_8 σ = some p → gR p = gR σ := by
  intro k
  induction k with
  | zero => intro w l_2 l_3 l_4 l_5 l_6 l_7 l_8 σ p H; unfold L_216 at H; cases H
  | succ k ih =>
    intro w l_2 l_3 l_4 l_5 l_6 l_7 l_8 σ p H
    unfold L_216 at H
    refine F_if H (fun _ H => ?_) (fun _ H => ?_)
    · refine F_if H (fun _ H => ?_) (fun _ H => ?_)
      · obtain ⟨_, H⟩ := F_gd H
        exact (((ih _ _ _ _ _ _ _ _ _ _ H)).trans rfl)
      · obtain ⟨_, H⟩ := F_gd H
        obtain ⟨_, H⟩ := F_gd H
        exact (((ih _ _ _ _ _ _ _ _ _ _ H)).trans rfl)
    · skip
      refine F_if H (fun _ H => ?_) (fun _ H => ?_)
      · obtain ⟨_, H⟩ := F_gd H
        refine F_if H (fun _ H => ?_) (fun _ H => ?_)
        · refine F_if H (fun _ H => ?_) (fun _ H => ?_)
          · obtain ⟨p_8, G_8, H⟩ := F_bd H
            refine F_if H (fun _ H => ?_) (fun _ H => ?_)
            · obtain ⟨p_10, G_10, H⟩ := F_bd H
              exact (((ih _ _ _ _ _ _ _ _ _ _ H)).trans ((N_139_R G_10).trans ((F_218_R G_8).trans rfl)))
            · obtain ⟨_, H⟩ := F_gd H
              obtain ⟨p_12, G_12, H⟩ := F_bd H
              obtain rfl := Option.some.inj H
              exact ((F_165_R G_12).trans ((F_218_R G_8).trans rfl))
          · obtain rfl := Option.some.inj H
            exact rfl
        · refine F_if H (fun _ H => ?_) (fun _ H => ?_)
          · obtain ⟨p_14, G_14, H⟩ := F_bd H
            obtain ⟨p_15, G_15, H⟩ := F_bd H
            obtain ⟨p_16, G_16, H⟩ := F_bd H
            obtain ⟨p_17, G_17, H⟩ := F_bd H
            exact (((ih _ _ _ _ _ _ _ _ _ _ H)).trans ((F_217_R G_17).trans ((N_139_R G_16).trans ((N_139_R G_15).trans ((N_139_R G_14).trans rfl)))))
          · obtain rfl := Option.some.inj H
            exact rfl
      · skip
        refine F_if H (fun _ H => ?_) (fun _ H => ?_)
        · refine F_if H (fun _ H => ?_) (fun _ H => ?_)
          · obtain ⟨p_20, G_20, H⟩ := F_bd H
            obtain rfl := Option.some.inj H
            exact ((F_165_R G_20).trans rfl)
          · obtain ⟨_, H⟩ := F_gd H
            obtain ⟨_, H⟩ := F_gd H
            obtain ⟨_, H⟩ := F_gd H
            obtain ⟨_, H⟩ := F_gd H
            obtain ⟨_, H⟩ := F_gd H
            obtain ⟨_, H⟩ := F_gd H
            obtain rfl := Option.some.inj H
            exact rfl
        · obtain ⟨_, H⟩ := F_gd H
          refine F_if H (fun _ H => ?_) (fun _ H => ?_)
          · obtain ⟨_, H⟩ := F_gd H
            obtain ⟨_, H⟩ := F_gd H
            obtain ⟨p_31, G_31, H⟩ := F_bd H
            obtain rfl := Option.some.inj H
            exact ((F_219_R G_31).trans rfl)
          · exact (((ih _ _ _ _ _ _ _ _ _ _ H)).trans rfl)
set_option maxHeartbeats 4000000 in
set_option maxRecDepth 100000 in
theorem L_216_ok {N d : Nat} {g : Nat} (hg : g = 79 ∨ g = 115) : ∀ k : Nat, (∀ (l_2 : Int32) (l_3 : Int32) (l_4 : Int32) (l_5 : Int32) (l_6 : Int32) (l_7 : Int32) (l_8 : Int32) (σ : st_S) (lv : vz_L) (p : st_S), vz_g lv 0 = some (.ref 66) → vz_g lv 2 = some (.int l_2) → vz_g lv 3 = some (.int l_3) → vz_g lv 4 = some (.int l_4) → vz_g lv 5 = some (.int l_5) → vz_nbL (vz_gr P0) lv = true → gR σ 66 9 = g → L_216 N g k 11 l_2 l_3 l_4 l_5 l_6 l_7 l_8 σ = some p → vz_ev P0 (d + 8) 216 11 lv [] (hp σ) (.inl none, hp p)) ∧ (∀ (l_2 : Int32) (l_3 : Int32) (l_4 : Int32) (l_5 : Int32) (l_6 : Int32) (l_7 : Int32) (l_8 : Int32) (σ : st_S) (lv : vz_L) (p : st_S), vz_g lv 0 = some (.ref 66) → vz_g lv 2 = some (.int l_2) → vz_g lv 3 = some (.int l_3) → vz_g lv 4 = some (.int l_4) → vz_g lv 5 = some (.int l_5) → vz_g lv 6 = some (.int l_6) → vz_nbL (vz_gr P0) lv = true → gR σ 66 9 = g → L_216 N g k 59 l_2 l_3 l_4 l_5 l_6 l_7 l_8 σ = some p → vz_ev P0 (d + 8) 216 59 lv [] (hp σ) (.inl none, hp p)) ∧ (∀ (l_2 : Int32) (l_3 : Int32) (l_4 : Int32) (l_5 : Int32) (l_6 : Int32) (l_7 : Int32) (l_8 : Int32) (σ : st_S) (lv : vz_L) (p : st_S), vz_g lv 0 = some (.ref 66) → vz_g lv 2 = some (.int l_2) → vz_g lv 3 = some (.int l_3) → vz_g lv 6 = some (.int l_6) → vz_g lv 7 = some (.int l_7) → vz_g lv 8 = some (.int l_8) → vz_nbL (vz_gr P0) lv = true → gR σ 66 9 = g → L_216 N g k 187 l_2 l_3 l_4 l_5 l_6 l_7 l_8 σ = some p → vz_ev P0 (d + 8) 216 187 lv [] (hp σ) (.inl none, hp p)) := by
  rcases hg with rfl | rfl
  · intro k
    induction k with
    | zero => exact ⟨(by intro l_2 l_3 l_4 l_5 l_6 l_7 l_8 σ lv p g_0 g_2 g_3 g_4 g_5 hnb hr_66_9 H; unfold L_216 at H; cases H), (by intro l_2 l_3 l_4 l_5 l_6 l_7 l_8 σ lv p g_0 g_2 g_3 g_4 g_5 g_6 hnb hr_66_9 H; unfold L_216 at H; cases H), (by intro l_2 l_3 l_4 l_5 l_6 l_7 l_8 σ lv p g_0 g_2 g_3 g_6 g_7 g_8 hnb hr_66_9 H; unfold L_216 at H; cases H)⟩
    | succ k ih =>
      refine ⟨?_, ?_, ?_⟩
      · intro l_2 l_3 l_4 l_5 l_6 l_7 l_8 σ lv p g_0 g_2 g_3 g_4 g_5 hnb hr_66_9 H
        unfold L_216 at H
        rw [if_pos rfl] at H
        refine ev_x (i := .iload 5) (len := 2) (p' := 13) (s' := [.int l_5]) rfl rfl (ld_i g_5) ?_
        refine ev_x (i := .aload_n 0) (len := 1) (p' := 14) (s' := [.ref 66, .int l_5]) rfl rfl (ld_a g_0) ?_
        refine ev_gr (p' := 17) (v := 79) rfl rfl rfl ly_66 rfl rfl hr_66_9 ?_
        refine ev_gi (p' := 20) (v := (gI σ 79 12)) rfl rfl rfl ly_79 rfl rfl rfl ?_
        refine F_if H (fun c_1 H => ?_) (fun c_1 H => ?_)
        · refine ev_b2 (t := 43) (p' := 43) rfl rfl rfl (if_pos c_1) ?_
          refine ev_x (i := .aload_n 0) (len := 1) (p' := 44) (s' := [.ref 66]) rfl rfl (ld_a g_0) ?_
          refine ev_gr (p' := 47) (v := 79) rfl rfl rfl ly_66 rfl rfl hr_66_9 ?_
          refine ev_gc (p' := 50) (v := 107) rfl rfl rfl ly_79 rfl rfl ?_
          refine ev_x (i := .iload 4) (len := 2) (p' := 52) (s' := [.int l_4, .ref 107]) rfl rfl (ld_i g_4) ?_
          obtain ⟨b_2, H⟩ := F_gd H
          refine ev_ga (p' := 53) (v := (gE (σ) 107 (l_4 : Int32).toNatClampNeg)) rfl rfl ly_107 rfl (gd_in b_2) rfl ?_
          refine ev_x (i := .istore 5) (len := 2) (p' := 55) (s' := []) (l' := vz_s1 (lv) 5 (.int (gE (σ) 107 (l_4 : Int32).toNatClampNeg))) rfl rfl rfl ?_
          refine ev_x (i := .iload 5) (len := 2) (p' := 57) (s' := [.int (gE (σ) 107 (l_4 : Int32).toNatClampNeg)]) rfl rfl (ld_i (vg_s (lv) 5 (.int (gE (σ) 107 (l_4 : Int32).toNatClampNeg)))) ?_
          refine ev_x (i := .istore 6) (len := 2) (p' := 59) (s' := []) (l' := vz_s1 (vz_s1 (lv) 5 (.int (gE (σ) 107 (l_4 : Int32).toNatClampNeg))) 6 (.int (gE (σ) 107 (l_4 : Int32).toNatClampNeg))) rfl rfl rfl ?_
          exact ih.2.1 _ _ _ _ _ _ _ _ _ _ (vg_o (i := 6) (v := .int (gE (σ) 107 (l_4 : Int32).toNatClampNeg)) (vg_o (i := 5) (v := .int (gE (σ) 107 (l_4 : Int32).toNatClampNeg)) g_0 (by decide) (Or.inl rfl)) (by decide) (Or.inl rfl)) (vg_o (i := 6) (v := .int (gE (σ) 107 (l_4 : Int32).toNatClampNeg)) (vg_o (i := 5) (v := .int (gE (σ) 107 (l_4 : Int32).toNatClampNeg)) g_2 (by decide) (Or.inl rfl)) (by decide) (Or.inl rfl)) (vg_o (i := 6) (v := .int (gE (σ) 107 (l_4 : Int32).toNatClampNeg)) (vg_o (i := 5) (v := .int (gE (σ) 107 (l_4 : Int32).toNatClampNeg)) g_3 (by decide) (Or.inl rfl)) (by decide) (Or.inl rfl)) (vg_o (i := 6) (v := .int (gE (σ) 107 (l_4 : Int32).toNatClampNeg)) (vg_o (i := 5) (v := .int (gE (σ) 107 (l_4 : Int32).toNatClampNeg)) g_4 (by decide) (Or.inl rfl)) (by decide) (Or.inl rfl)) (vg_o (i := 6) (v := .int (gE (σ) 107 (l_4 : Int32).toNatClampNeg)) (vg_s (lv) 5 (.int (gE (σ) 107 (l_4 : Int32).toNatClampNeg))) (by decide) (Or.inl rfl)) (vg_s (vz_s1 (lv) 5 (.int (gE (σ) 107 (l_4 : Int32).toNatClampNeg))) 6 (.int (gE (σ) 107 (l_4 : Int32).toNatClampNeg))) (nb_s1 (nb_s1 hnb rfl) rfl) hr_66_9 H
        · refine ev_b2 (t := 43) (p' := 23) rfl rfl rfl (if_neg c_1) ?_
          refine ev_x (i := .aload_n 0) (len := 1) (p' := 24) (s' := [.ref 66]) rfl rfl (ld_a g_0) ?_
          refine ev_gc (p' := 27) (v := 184) rfl rfl rfl ly_66 rfl rfl ?_
          refine ev_x (i := .iload 5) (len := 2) (p' := 29) (s' := [.int l_5, .ref 184]) rfl rfl (ld_i g_5) ?_
          refine ev_x (i := .aload_n 0) (len := 1) (p' := 30) (s' := [.ref 66, .int l_5, .ref 184]) rfl rfl (ld_a g_0) ?_
          refine ev_gc (p' := 33) (v := 167) rfl rfl rfl ly_66 rfl rfl ?_
          refine ev_x (i := .iload 5) (len := 2) (p' := 35) (s' := [.int l_5, .ref 167, .int l_5, .ref 184]) rfl rfl (ld_i g_5) ?_
          obtain ⟨b_3, H⟩ := F_gd H
          refine ev_ga (p' := 36) (v := (gE (σ) 167 (l_5 : Int32).toNatClampNeg)) rfl rfl ly_167 rfl (gd_in b_3) rfl ?_
          obtain ⟨b_4, H⟩ := F_gd H
          refine ev_pa (j := (l_5 : Int32).toNatClampNeg) (p' := 37) rfl rfl ly_184 rfl (gd_in b_4) rfl ?_
          refine ev_x (i := .iinc 5 1) (len := 3) (p' := 40) (s' := []) (l' := vz_s1 (lv) 5 (.int (l_5 + 1))) rfl rfl (ld_inc g_5 rfl) ?_
          refine ev_x (i := .goto (-29)) (len := 3) (p' := 11) (s' := []) rfl rfl rfl ?_
          exact ih.1 _ _ _ _ _ _ _ _ _ _ (vg_o (i := 5) (v := .int (l_5 + 1)) g_0 (by decide) (Or.inl rfl)) (vg_o (i := 5) (v := .int (l_5 + 1)) g_2 (by decide) (Or.inl rfl)) (vg_o (i := 5) (v := .int (l_5 + 1)) g_3 (by decide) (Or.inl rfl)) (vg_o (i := 5) (v := .int (l_5 + 1)) g_4 (by decide) (Or.inl rfl)) (vg_s (lv) 5 (.int (l_5 + 1))) (nb_s1 hnb rfl) hr_66_9 H
      · intro l_2 l_3 l_4 l_5 l_6 l_7 l_8 σ lv p g_0 g_2 g_3 g_4 g_5 g_6 hnb hr_66_9 H
        unfold L_216 at H
        rw [if_neg (by decide)] at H
        rw [if_pos rfl] at H
        refine ev_x (i := .iload 6) (len := 2) (p' := 61) (s' := [.int l_6]) rfl rfl (ld_i g_6) ?_
        refine ev_x (i := .iload 5) (len := 2) (p' := 63) (s' := [.int l_5, .int l_6]) rfl rfl (ld_i g_5) ?_
        refine ev_x (i := .aload_n 0) (len := 1) (p' := 64) (s' := [.ref 66, .int l_5, .int l_6]) rfl rfl (ld_a g_0) ?_
        refine ev_gr (p' := 67) (v := 79) rfl rfl rfl ly_66 rfl rfl hr_66_9 ?_
        refine ev_gc (p' := 70) (v := 108) rfl rfl rfl ly_79 rfl rfl ?_
        refine ev_x (i := .iload 4) (len := 2) (p' := 72) (s' := [.int l_4, .ref 108, .int l_5, .int l_6]) rfl rfl (ld_i g_4) ?_
        obtain ⟨b_5, H⟩ := F_gd H
        refine ev_ga (p' := 73) (v := (gE (σ) 108 (l_4 : Int32).toNatClampNeg)) rfl rfl ly_108 rfl (gd_in b_5) rfl ?_
        refine ev_x (i := .iadd) (len := 1) (p' := 74) (s' := [.int (l_5 + (gE (σ) 108 (l_4 : Int32).toNatClampNeg)), .int l_6]) rfl rfl rfl ?_
        refine F_if H (fun c_6 H => ?_) (fun c_6 H => ?_)
        · refine ev_b2 (t := 130) (p' := 130) rfl rfl rfl (if_pos c_6) ?_
          refine ev_x (i := .aload_n 0) (len := 1) (p' := 131) (s' := [.ref 66]) rfl rfl (ld_a g_0) ?_
          refine ev_gi (p' := 134) (v := (gI σ 66 16)) rfl rfl rfl ly_66 rfl rfl rfl ?_
          refine F_if H (fun c_7 H => ?_) (fun c_7 H => ?_)
          · refine ev_b0 (t := 138) (p' := 138) rfl rfl rfl (if_pos c_7) ?_
            refine ev_x (i := .aload_n 0) (len := 1) (p' := 139) (s' := [.ref 66]) rfl rfl (ld_a g_0) ?_
            obtain ⟨p_8, G_8, H⟩ := F_bd H
            refine ev_cv (d := d + 7) (As := []) (a := 66) (p' := 142) rfl rfl rfl ly_66 rfl rfl rfl rfl rfl hnb rfl (F_218_ok (d := d + 6) (hg := (Or.inl rfl)) (hr_66_9 := hr_66_9) G_8) ?_
            refine ev_st (st' := [.int p_8.1]) rfl ?_
            have e_8 := F_218_R G_8
            refine ev_x (i := .istore 6) (len := 2) (p' := 144) (s' := []) (l' := vz_s1 (lv) 6 (.int p_8.1)) rfl rfl rfl ?_
            refine ev_x (i := .iload 6) (len := 2) (p' := 146) (s' := [.int p_8.1]) rfl rfl (ld_i (vg_s (lv) 6 (.int p_8.1))) ?_
            refine F_if H (fun c_9 H => ?_) (fun c_9 H => ?_)
            · refine ev_b0 (t := 165) (p' := 165) rfl rfl rfl (if_pos c_9) ?_
              refine ev_x (i := .aload_n 0) (len := 1) (p' := 166) (s' := [.ref 66]) rfl rfl (ld_a (vg_o (i := 6) (v := .int p_8.1) g_0 (by decide) (Or.inl rfl))) ?_
              refine ev_gc (p' := 169) (v := 177) rfl rfl rfl ly_66 rfl rfl ?_
              refine ev_gi (p' := 172) (v := (gI p_8.2 177 1)) rfl rfl rfl ly_177 rfl rfl rfl ?_
              refine ev_x (i := .iconst 1) (len := 1) (p' := 173) (s' := [.int 1, .int (gI p_8.2 177 1)]) rfl rfl rfl ?_
              refine ev_x (i := .isub) (len := 1) (p' := 174) (s' := [.int ((gI p_8.2 177 1) - 1)]) rfl rfl rfl ?_
              refine ev_x (i := .istore 7) (len := 2) (p' := 176) (s' := []) (l' := vz_s1 (vz_s1 (lv) 6 (.int p_8.1)) 7 (.int ((gI p_8.2 177 1) - 1))) rfl rfl rfl ?_
              refine ev_x (i := .aload_n 0) (len := 1) (p' := 177) (s' := [.ref 66]) rfl rfl (ld_a (vg_o (i := 7) (v := .int ((gI p_8.2 177 1) - 1)) (vg_o (i := 6) (v := .int p_8.1) g_0 (by decide) (Or.inl rfl)) (by decide) (Or.inl rfl))) ?_
              refine ev_gc (p' := 180) (v := 177) rfl rfl rfl ly_66 rfl rfl ?_
              refine ev_x (i := .iload 7) (len := 2) (p' := 182) (s' := [.int ((gI p_8.2 177 1) - 1), .ref 177]) rfl rfl (ld_i (vg_s (vz_s1 (lv) 6 (.int p_8.1)) 7 (.int ((gI p_8.2 177 1) - 1)))) ?_
              obtain ⟨p_10, G_10, H⟩ := F_bd H
              refine ev_cv (d := d + 7) (As := [.int ((gI p_8.2 177 1) - 1)]) (a := 177) (p' := 185) rfl rfl rfl ly_177 rfl rfl rfl rfl rfl (nb_s1 (nb_s1 hnb rfl) rfl) rfl (N_139_ok (d := d + 6) nm_177 G_10) ?_
              refine ev_st (st' := [.int p_10.1]) rfl ?_
              have e_10 := N_139_R G_10
              refine ev_x (i := .istore 8) (len := 2) (p' := 187) (s' := []) (l' := vz_s1 (vz_s1 (vz_s1 (lv) 6 (.int p_8.1)) 7 (.int ((gI p_8.2 177 1) - 1))) 8 (.int p_10.1)) rfl rfl rfl ?_
              exact ih.2.2 _ _ _ _ _ _ _ _ _ _ (vg_o (i := 8) (v := .int p_10.1) (vg_o (i := 7) (v := .int ((gI p_8.2 177 1) - 1)) (vg_o (i := 6) (v := .int p_8.1) g_0 (by decide) (Or.inl rfl)) (by decide) (Or.inl rfl)) (by decide) (Or.inl rfl)) (vg_o (i := 8) (v := .int p_10.1) (vg_o (i := 7) (v := .int ((gI p_8.2 177 1) - 1)) (vg_o (i := 6) (v := .int p_8.1) g_2 (by decide) (Or.inl rfl)) (by decide) (Or.inl rfl)) (by decide) (Or.inl rfl)) (vg_o (i := 8) (v := .int p_10.1) (vg_o (i := 7) (v := .int ((gI p_8.2 177 1) - 1)) (vg_o (i := 6) (v := .int p_8.1) g_3 (by decide) (Or.inl rfl)) (by decide) (Or.inl rfl)) (by decide) (Or.inl rfl)) (vg_o (i := 8) (v := .int p_10.1) (vg_o (i := 7) (v := .int ((gI p_8.2 177 1) - 1)) (vg_s (lv) 6 (.int p_8.1)) (by decide) (Or.inl rfl)) (by decide) (Or.inl rfl)) (vg_o (i := 8) (v := .int p_10.1) (vg_s (vz_s1 (lv) 6 (.int p_8.1)) 7 (.int ((gI p_8.2 177 1) - 1))) (by decide) (Or.inl rfl)) (vg_s (vz_s1 (vz_s1 (lv) 6 (.int p_8.1)) 7 (.int ((gI p_8.2 177 1) - 1))) 8 (.int p_10.1)) (nb_s1 (nb_s1 (nb_s1 hnb rfl) rfl) rfl) ((congrFun (congrFun e_10 66) 9).trans ((congrFun (congrFun e_8 66) 9).trans hr_66_9)) H
            · refine ev_b0 (t := 165) (p' := 149) rfl rfl rfl (if_neg c_9) ?_
              refine ev_x (i := .aload_n 0) (len := 1) (p' := 150) (s' := [.ref 66]) rfl rfl (ld_a (vg_o (i := 6) (v := .int p_8.1) g_0 (by decide) (Or.inl rfl))) ?_
              refine ev_x (i := .iconst 5) (len := 1) (p' := 151) (s' := [.int 5, .ref 66]) rfl rfl rfl ?_
              refine ev_x (i := .aload_n 0) (len := 1) (p' := 152) (s' := [.ref 66, .int 5, .ref 66]) rfl rfl (ld_a (vg_o (i := 6) (v := .int p_8.1) g_0 (by decide) (Or.inl rfl))) ?_
              refine ev_gr (p' := 155) (v := 79) rfl rfl rfl ly_66 rfl rfl ((congrFun (congrFun e_8 66) 9).trans hr_66_9) ?_
              refine ev_gc (p' := 158) (v := 106) rfl rfl rfl ly_79 rfl rfl ?_
              refine ev_x (i := .iload 4) (len := 2) (p' := 160) (s' := [.int l_4, .ref 106, .int 5, .ref 66]) rfl rfl (ld_i (vg_o (i := 6) (v := .int p_8.1) g_4 (by decide) (Or.inl rfl))) ?_
              obtain ⟨b_11, H⟩ := F_gd H
              refine ev_ga (p' := 161) (v := (gE (p_8.2) 106 (l_4 : Int32).toNatClampNeg)) rfl rfl ly_106 rfl (gd_in b_11) rfl ?_
              obtain ⟨p_12, G_12, H⟩ := F_bd H
              refine ev_cv (d := d + 7) (As := [.int 5, .int (gE (p_8.2) 106 (l_4 : Int32).toNatClampNeg)]) (a := 66) (p' := 164) rfl rfl rfl ly_66 rfl rfl rfl rfl rfl (nb_s1 hnb rfl) rfl (F_165_ok (d := d + 6)   G_12) ?_
              refine ev_st (st' := []) rfl ?_
              have e_12 := F_165_R G_12
              obtain rfl := Option.some.inj H
              exact ev_vret rfl rfl rfl
          · refine ev_b0 (t := 138) (p' := 137) rfl rfl rfl (if_neg c_7) ?_
            obtain rfl := Option.some.inj H
            exact ev_vret rfl rfl rfl
        · refine ev_b2 (t := 130) (p' := 77) rfl rfl rfl (if_neg c_6) ?_
          refine ev_x (i := .aload_n 0) (len := 1) (p' := 78) (s' := [.ref 66]) rfl rfl (ld_a g_0) ?_
          refine ev_gi (p' := 81) (v := (gI σ 66 16)) rfl rfl rfl ly_66 rfl rfl rfl ?_
          refine F_if H (fun c_13 H => ?_) (fun c_13 H => ?_)
          · refine ev_b0 (t := 130) (p' := 84) rfl rfl rfl (if_neg (fun q => q c_13)) ?_
            refine ev_x (i := .aload_n 0) (len := 1) (p' := 85) (s' := [.ref 66]) rfl rfl (ld_a g_0) ?_
            refine ev_x (i := .aload_n 0) (len := 1) (p' := 86) (s' := [.ref 66, .ref 66]) rfl rfl (ld_a g_0) ?_
            refine ev_gr (p' := 89) (v := 79) rfl rfl rfl ly_66 rfl rfl hr_66_9 ?_
            refine ev_gc (p' := 92) (v := 109) rfl rfl rfl ly_79 rfl rfl ?_
            refine ev_x (i := .iload 6) (len := 2) (p' := 94) (s' := [.int l_6, .ref 109, .ref 66]) rfl rfl (ld_i g_6) ?_
            obtain ⟨p_14, G_14, H⟩ := F_bd H
            refine ev_cv (d := d + 7) (As := [.int l_6]) (a := 109) (p' := 97) rfl rfl rfl ly_109 rfl rfl rfl rfl rfl hnb rfl (N_139_ok (d := d + 6) nm_109 G_14) ?_
            refine ev_st (st' := [.int p_14.1, .ref 66]) rfl ?_
            have e_14 := N_139_R G_14
            refine ev_x (i := .aload_n 0) (len := 1) (p' := 98) (s' := [.ref 66, .int p_14.1, .ref 66]) rfl rfl (ld_a g_0) ?_
            refine ev_gr (p' := 101) (v := 79) rfl rfl rfl ly_66 rfl rfl ((congrFun (congrFun e_14 66) 9).trans hr_66_9) ?_
            refine ev_gc (p' := 104) (v := 113) rfl rfl rfl ly_79 rfl rfl ?_
            refine ev_x (i := .iload 6) (len := 2) (p' := 106) (s' := [.int l_6, .ref 113, .int p_14.1, .ref 66]) rfl rfl (ld_i g_6) ?_
            obtain ⟨p_15, G_15, H⟩ := F_bd H
            refine ev_cv (d := d + 7) (As := [.int l_6]) (a := 113) (p' := 109) rfl rfl rfl ly_113 rfl rfl rfl rfl rfl hnb rfl (N_139_ok (d := d + 6) nm_113 G_15) ?_
            refine ev_st (st' := [.int p_15.1, .int p_14.1, .ref 66]) rfl ?_
            have e_15 := N_139_R G_15
            refine ev_x (i := .aload_n 0) (len := 1) (p' := 110) (s' := [.ref 66, .int p_15.1, .int p_14.1, .ref 66]) rfl rfl (ld_a g_0) ?_
            refine ev_gr (p' := 113) (v := 79) rfl rfl rfl ly_66 rfl rfl ((congrFun (congrFun e_15 66) 9).trans ((congrFun (congrFun e_14 66) 9).trans hr_66_9)) ?_
            refine ev_gc (p' := 116) (v := 111) rfl rfl rfl ly_79 rfl rfl ?_
            refine ev_x (i := .iload 6) (len := 2) (p' := 118) (s' := [.int l_6, .ref 111, .int p_15.1, .int p_14.1, .ref 66]) rfl rfl (ld_i g_6) ?_
            obtain ⟨p_16, G_16, H⟩ := F_bd H
            refine ev_cv (d := d + 7) (As := [.int l_6]) (a := 111) (p' := 121) rfl rfl rfl ly_111 rfl rfl rfl rfl rfl hnb rfl (N_139_ok (d := d + 6) nm_111 G_16) ?_
            refine ev_st (st' := [.int p_16.1, .int p_15.1, .int p_14.1, .ref 66]) rfl ?_
            have e_16 := N_139_R G_16
            obtain ⟨p_17, G_17, H⟩ := F_bd H
            refine ev_cv (d := d + 7) (As := [.int p_14.1, .int p_15.1, .int p_16.1]) (a := 66) (p' := 124) rfl rfl rfl ly_66 rfl rfl rfl rfl rfl hnb rfl (F_217_ok (d := d + 0) (hg := (Or.inl rfl)) (hr_66_9 := ((congrFun (congrFun e_16 66) 9).trans ((congrFun (congrFun e_15 66) 9).trans ((congrFun (congrFun e_14 66) 9).trans hr_66_9)))) G_17) ?_
            refine ev_st (st' := []) rfl ?_
            have e_17 := F_217_R G_17
            refine ev_x (i := .iinc 6 1) (len := 3) (p' := 127) (s' := []) (l' := vz_s1 (lv) 6 (.int (l_6 + 1))) rfl rfl (ld_inc g_6 rfl) ?_
            refine ev_x (i := .goto (-68)) (len := 3) (p' := 59) (s' := []) rfl rfl rfl ?_
            exact ih.2.1 _ _ _ _ _ _ _ _ _ _ (vg_o (i := 6) (v := .int (l_6 + 1)) g_0 (by decide) (Or.inl rfl)) (vg_o (i := 6) (v := .int (l_6 + 1)) g_2 (by decide) (Or.inl rfl)) (vg_o (i := 6) (v := .int (l_6 + 1)) g_3 (by decide) (Or.inl rfl)) (vg_o (i := 6) (v := .int (l_6 + 1)) g_4 (by decide) (Or.inl rfl)) (vg_o (i := 6) (v := .int (l_6 + 1)) g_5 (by decide) (Or.inl rfl)) (vg_s (lv) 6 (.int (l_6 + 1))) (nb_s1 hnb rfl) ((congrFun (congrFun e_17 66) 9).trans ((congrFun (congrFun e_16 66) 9).trans ((congrFun (congrFun e_15 66) 9).trans ((congrFun (congrFun e_14 66) 9).trans hr_66_9)))) H
          · refine ev_b0 (t := 130) (p' := 130) rfl rfl rfl (if_pos c_13) ?_
            refine ev_x (i := .aload_n 0) (len := 1) (p' := 131) (s' := [.ref 66]) rfl rfl (ld_a g_0) ?_
            refine ev_gi (p' := 134) (v := (gI σ 66 16)) rfl rfl rfl ly_66 rfl rfl rfl ?_
            refine ev_b0 (t := 138) (p' := 137) rfl rfl rfl (if_neg c_13) ?_
            obtain rfl := Option.some.inj H
            exact ev_vret rfl rfl rfl
      · intro l_2 l_3 l_4 l_5 l_6 l_7 l_8 σ lv p g_0 g_2 g_3 g_6 g_7 g_8 hnb hr_66_9 H
        unfold L_216 at H
        rw [if_neg (by decide)] at H
        rw [if_neg (by decide)] at H
        refine ev_x (i := .iload 8) (len := 2) (p' := 189) (s' := [.int l_8]) rfl rfl (ld_i g_8) ?_
        refine ev_x (i := .aload_n 0) (len := 1) (p' := 190) (s' := [.ref 66, .int l_8]) rfl rfl (ld_a g_0) ?_
        refine ev_gi (p' := 193) (v := (gI σ 66 38)) rfl rfl rfl ly_66 rfl rfl rfl ?_
        refine F_if H (fun c_18 H => ?_) (fun c_18 H => ?_)
        · refine ev_b2 (t := 233) (p' := 233) rfl rfl rfl (if_pos c_18) ?_
          refine ev_x (i := .aload_n 0) (len := 1) (p' := 234) (s' := [.ref 66]) rfl rfl (ld_a g_0) ?_
          refine ev_gi (p' := 237) (v := (gI σ 66 38)) rfl rfl rfl ly_66 rfl rfl rfl ?_
          refine ev_x (i := .sipush 4096) (len := 3) (p' := 240) (s' := [.int 4096, .int (gI σ 66 38)]) rfl rfl rfl ?_
          refine F_if H (fun c_19 H => ?_) (fun c_19 H => ?_)
          · refine ev_b2 (t := 250) (p' := 243) rfl rfl rfl (if_neg (fun q => q c_19)) ?_
            refine ev_x (i := .aload_n 0) (len := 1) (p' := 244) (s' := [.ref 66]) rfl rfl (ld_a g_0) ?_
            refine ev_x (i := .iconst 5) (len := 1) (p' := 245) (s' := [.int 5, .ref 66]) rfl rfl rfl ?_
            refine ev_x (i := .iload_n 3) (len := 1) (p' := 246) (s' := [.int l_3, .int 5, .ref 66]) rfl rfl (ld_i g_3) ?_
            obtain ⟨p_20, G_20, H⟩ := F_bd H
            refine ev_cv (d := d + 7) (As := [.int 5, .int l_3]) (a := 66) (p' := 249) rfl rfl rfl ly_66 rfl rfl rfl rfl rfl hnb rfl (F_165_ok (d := d + 6)   G_20) ?_
            refine ev_st (st' := []) rfl ?_
            have e_20 := F_165_R G_20
            obtain rfl := Option.some.inj H
            exact ev_vret rfl rfl rfl
          · refine ev_b2 (t := 250) (p' := 250) rfl rfl rfl (if_pos c_19) ?_
            refine ev_x (i := .aload_n 0) (len := 1) (p' := 251) (s' := [.ref 66]) rfl rfl (ld_a g_0) ?_
            refine ev_gc (p' := 254) (v := 181) rfl rfl rfl ly_66 rfl rfl ?_
            refine ev_x (i := .aload_n 0) (len := 1) (p' := 255) (s' := [.ref 66, .ref 181]) rfl rfl (ld_a g_0) ?_
            refine ev_gi (p' := 258) (v := (gI σ 66 38)) rfl rfl rfl ly_66 rfl rfl rfl ?_
            refine ev_x (i := .iload 6) (len := 2) (p' := 260) (s' := [.int l_6, .int (gI σ 66 38), .ref 181]) rfl rfl (ld_i g_6) ?_
            obtain ⟨b_21, H⟩ := F_gd H
            refine ev_pa (j := ((gI σ 66 38) : Int32).toNatClampNeg) (p' := 261) rfl rfl ly_181 rfl (gd_in b_21) rfl ?_
            refine ev_x (i := .aload_n 0) (len := 1) (p' := 262) (s' := [.ref 66]) rfl rfl (ld_a g_0) ?_
            refine ev_gc (p' := 265) (v := 182) rfl rfl rfl ly_66 rfl rfl ?_
            refine ev_x (i := .aload_n 0) (len := 1) (p' := 266) (s' := [.ref 66, .ref 182]) rfl rfl (ld_a g_0) ?_
            refine ev_gi (p' := 269) (v := (gI σ 66 38)) rfl rfl rfl ly_66 rfl rfl rfl ?_
            refine ev_x (i := .aload_n 0) (len := 1) (p' := 270) (s' := [.ref 66, .int (gI σ 66 38), .ref 182]) rfl rfl (ld_a g_0) ?_
            refine ev_gc (p' := 273) (v := 185) rfl rfl rfl ly_66 rfl rfl ?_
            refine ev_x (i := .iload_n 2) (len := 1) (p' := 274) (s' := [.int l_2, .ref 185, .int (gI σ 66 38), .ref 182]) rfl rfl (ld_i g_2) ?_
            obtain ⟨b_22, H⟩ := F_gd H
            refine ev_gL (p' := 275) (v := (gL (σ) 185 (l_2 : Int32).toNatClampNeg)) rfl rfl ly_185 rfl (gd_in b_22) rfl ?_
            obtain ⟨b_23, H⟩ := F_gd H
            refine ev_pL (j := ((gI σ 66 38) : Int32).toNatClampNeg) (p' := 276) rfl rfl ly_182 rfl (gd_in b_23) rfl ?_
            refine ev_x (i := .aload_n 0) (len := 1) (p' := 277) (s' := [.ref 66]) rfl rfl (ld_a g_0) ?_
            refine ev_gc (p' := 280) (v := 183) rfl rfl rfl ly_66 rfl rfl ?_
            refine ev_x (i := .aload_n 0) (len := 1) (p' := 281) (s' := [.ref 66, .ref 183]) rfl rfl (ld_a g_0) ?_
            refine ev_gi (p' := 284) (v := (gI σ 66 38)) rfl rfl rfl ly_66 rfl rfl rfl ?_
            refine ev_x (i := .aload_n 0) (len := 1) (p' := 285) (s' := [.ref 66, .int (gI σ 66 38), .ref 183]) rfl rfl (ld_a g_0) ?_
            refine ev_gc (p' := 288) (v := 186) rfl rfl rfl ly_66 rfl rfl ?_
            refine ev_x (i := .iload_n 2) (len := 1) (p' := 289) (s' := [.int l_2, .ref 186, .int (gI σ 66 38), .ref 183]) rfl rfl (ld_i g_2) ?_
            obtain ⟨b_24, H⟩ := F_gd H
            refine ev_gL (p' := 290) (v := (gL (σ) 186 (l_2 : Int32).toNatClampNeg)) rfl rfl ly_186 rfl (gd_in b_24) rfl ?_
            obtain ⟨b_25, H⟩ := F_gd H
            refine ev_pL (j := ((gI σ 66 38) : Int32).toNatClampNeg) (p' := 291) rfl rfl ly_183 rfl (gd_in b_25) rfl ?_
            refine ev_x (i := .aload_n 0) (len := 1) (p' := 292) (s' := [.ref 66]) rfl rfl (ld_a g_0) ?_
            refine ev_x (i := .aload_n 0) (len := 1) (p' := 293) (s' := [.ref 66, .ref 66]) rfl rfl (ld_a g_0) ?_
            refine ev_gi (p' := 296) (v := (gI σ 66 38)) rfl rfl rfl ly_66 rfl rfl rfl ?_
            refine ev_x (i := .iconst 1) (len := 1) (p' := 297) (s' := [.int 1, .int (gI σ 66 38), .ref 66]) rfl rfl rfl ?_
            refine ev_x (i := .iadd) (len := 1) (p' := 298) (s' := [.int ((gI σ 66 38) + 1), .ref 66]) rfl rfl rfl ?_
            refine ev_pi (p' := 301) rfl rfl rfl ly_66 rfl rfl rfl rfl ?_
            refine ev_x (i := .aload_n 0) (len := 1) (p' := 302) (s' := [.ref 66]) rfl rfl (ld_a g_0) ?_
            refine ev_gc (p' := 305) (v := 179) rfl rfl rfl ly_66 rfl rfl ?_
            refine ev_gc (p' := 308) (v := 180) rfl rfl rfl ly_179 rfl rfl ?_
            refine ev_x (i := .iload 7) (len := 2) (p' := 310) (s' := [.int l_7, .ref 180]) rfl rfl (ld_i g_7) ?_
            refine ev_x (i := .aload_n 0) (len := 1) (p' := 311) (s' := [.ref 66, .int l_7, .ref 180]) rfl rfl (ld_a g_0) ?_
            refine ev_gc (p' := 314) (v := 179) rfl rfl rfl ly_66 rfl rfl ?_
            refine ev_gc (p' := 317) (v := 180) rfl rfl rfl ly_179 rfl rfl ?_
            refine ev_x (i := .iload 7) (len := 2) (p' := 319) (s' := [.int l_7, .ref 180, .int l_7, .ref 180]) rfl rfl (ld_i g_7) ?_
            obtain ⟨b_26, H⟩ := F_gd H
            refine ev_ga (p' := 320) (v := (gE (σ) 180 (l_7 : Int32).toNatClampNeg)) rfl rfl ly_180 rfl (gd_in b_26) rfl ?_
            refine ev_x (i := .iconst 1) (len := 1) (p' := 321) (s' := [.int 1, .int (gE (σ) 180 (l_7 : Int32).toNatClampNeg), .int l_7, .ref 180]) rfl rfl rfl ?_
            refine ev_x (i := .iadd) (len := 1) (p' := 322) (s' := [.int ((gE (σ) 180 (l_7 : Int32).toNatClampNeg) + 1), .int l_7, .ref 180]) rfl rfl rfl ?_
            refine ev_pa (j := (l_7 : Int32).toNatClampNeg) (p' := 323) rfl rfl ly_180 rfl (gd_in b_26) rfl ?_
            obtain rfl := Option.some.inj H
            exact ev_vret rfl rfl rfl
        · refine ev_b2 (t := 233) (p' := 196) rfl rfl rfl (if_neg c_18) ?_
          refine ev_x (i := .aload_n 0) (len := 1) (p' := 197) (s' := [.ref 66]) rfl rfl (ld_a g_0) ?_
          refine ev_gc (p' := 200) (v := 181) rfl rfl rfl ly_66 rfl rfl ?_
          refine ev_x (i := .iload 8) (len := 2) (p' := 202) (s' := [.int l_8, .ref 181]) rfl rfl (ld_i g_8) ?_
          obtain ⟨b_27, H⟩ := F_gd H
          refine ev_ga (p' := 203) (v := (gE (σ) 181 (l_8 : Int32).toNatClampNeg)) rfl rfl ly_181 rfl (gd_in b_27) rfl ?_
          refine ev_x (i := .iload 6) (len := 2) (p' := 205) (s' := [.int l_6, .int (gE (σ) 181 (l_8 : Int32).toNatClampNeg)]) rfl rfl (ld_i g_6) ?_
          refine F_if H (fun c_28 H => ?_) (fun c_28 H => ?_)
          · refine ev_b2 (t := 227) (p' := 208) rfl rfl rfl (if_neg (fun q => q c_28)) ?_
            refine ev_x (i := .aload_n 0) (len := 1) (p' := 209) (s' := [.ref 66]) rfl rfl (ld_a g_0) ?_
            refine ev_x (i := .iload 8) (len := 2) (p' := 211) (s' := [.int l_8, .ref 66]) rfl rfl (ld_i g_8) ?_
            refine ev_x (i := .aload_n 0) (len := 1) (p' := 212) (s' := [.ref 66, .int l_8, .ref 66]) rfl rfl (ld_a g_0) ?_
            refine ev_gc (p' := 215) (v := 185) rfl rfl rfl ly_66 rfl rfl ?_
            refine ev_x (i := .iload_n 2) (len := 1) (p' := 216) (s' := [.int l_2, .ref 185, .int l_8, .ref 66]) rfl rfl (ld_i g_2) ?_
            obtain ⟨b_29, H⟩ := F_gd H
            refine ev_gL (p' := 217) (v := (gL (σ) 185 (l_2 : Int32).toNatClampNeg)) rfl rfl ly_185 rfl (gd_in b_29) rfl ?_
            refine ev_x (i := .aload_n 0) (len := 1) (p' := 218) (s' := [.ref 66, .long (gL (σ) 185 (l_2 : Int32).toNatClampNeg), .int l_8, .ref 66]) rfl rfl (ld_a g_0) ?_
            refine ev_gc (p' := 221) (v := 186) rfl rfl rfl ly_66 rfl rfl ?_
            refine ev_x (i := .iload_n 2) (len := 1) (p' := 222) (s' := [.int l_2, .ref 186, .long (gL (σ) 185 (l_2 : Int32).toNatClampNeg), .int l_8, .ref 66]) rfl rfl (ld_i g_2) ?_
            obtain ⟨b_30, H⟩ := F_gd H
            refine ev_gL (p' := 223) (v := (gL (σ) 186 (l_2 : Int32).toNatClampNeg)) rfl rfl ly_186 rfl (gd_in b_30) rfl ?_
            obtain ⟨p_31, G_31, H⟩ := F_bd H
            refine ev_cv (d := d + 7) (As := [.int l_8, .long (gL (σ) 185 (l_2 : Int32).toNatClampNeg), .long (gL (σ) 186 (l_2 : Int32).toNatClampNeg)]) (a := 66) (p' := 226) rfl rfl rfl ly_66 rfl rfl rfl rfl rfl hnb rfl (F_219_ok (d := d + 5)   G_31) ?_
            refine ev_st (st' := []) rfl ?_
            have e_31 := F_219_R G_31
            obtain rfl := Option.some.inj H
            exact ev_vret rfl rfl rfl
          · refine ev_b2 (t := 227) (p' := 227) rfl rfl rfl (if_pos c_28) ?_
            refine ev_x (i := .iinc 8 1) (len := 3) (p' := 230) (s' := []) (l' := vz_s1 (lv) 8 (.int (l_8 + 1))) rfl rfl (ld_inc g_8 rfl) ?_
            refine ev_x (i := .goto (-43)) (len := 3) (p' := 187) (s' := []) rfl rfl rfl ?_
            exact ih.2.2 _ _ _ _ _ _ _ _ _ _ (vg_o (i := 8) (v := .int (l_8 + 1)) g_0 (by decide) (Or.inl rfl)) (vg_o (i := 8) (v := .int (l_8 + 1)) g_2 (by decide) (Or.inl rfl)) (vg_o (i := 8) (v := .int (l_8 + 1)) g_3 (by decide) (Or.inl rfl)) (vg_o (i := 8) (v := .int (l_8 + 1)) g_6 (by decide) (Or.inl rfl)) (vg_o (i := 8) (v := .int (l_8 + 1)) g_7 (by decide) (Or.inl rfl)) (vg_s (lv) 8 (.int (l_8 + 1))) (nb_s1 hnb rfl) hr_66_9 H
  · intro k
    induction k with
    | zero => exact ⟨(by intro l_2 l_3 l_4 l_5 l_6 l_7 l_8 σ lv p g_0 g_2 g_3 g_4 g_5 hnb hr_66_9 H; unfold L_216 at H; cases H), (by intro l_2 l_3 l_4 l_5 l_6 l_7 l_8 σ lv p g_0 g_2 g_3 g_4 g_5 g_6 hnb hr_66_9 H; unfold L_216 at H; cases H), (by intro l_2 l_3 l_4 l_5 l_6 l_7 l_8 σ lv p g_0 g_2 g_3 g_6 g_7 g_8 hnb hr_66_9 H; unfold L_216 at H; cases H)⟩
    | succ k ih =>
      refine ⟨?_, ?_, ?_⟩
      · intro l_2 l_3 l_4 l_5 l_6 l_7 l_8 σ lv p g_0 g_2 g_3 g_4 g_5 hnb hr_66_9 H
        unfold L_216 at H
        rw [if_pos rfl] at H
        refine ev_x (i := .iload 5) (len := 2) (p' := 13) (s' := [.int l_5]) rfl rfl (ld_i g_5) ?_
        refine ev_x (i := .aload_n 0) (len := 1) (p' := 14) (s' := [.ref 66, .int l_5]) rfl rfl (ld_a g_0) ?_
        refine ev_gr (p' := 17) (v := 115) rfl rfl rfl ly_66 rfl rfl hr_66_9 ?_
        refine ev_gi (p' := 20) (v := (gI σ 115 12)) rfl rfl rfl ly_115 rfl rfl rfl ?_
        refine F_if H (fun c_1 H => ?_) (fun c_1 H => ?_)
        · refine ev_b2 (t := 43) (p' := 43) rfl rfl rfl (if_pos c_1) ?_
          refine ev_x (i := .aload_n 0) (len := 1) (p' := 44) (s' := [.ref 66]) rfl rfl (ld_a g_0) ?_
          refine ev_gr (p' := 47) (v := 115) rfl rfl rfl ly_66 rfl rfl hr_66_9 ?_
          refine ev_gc (p' := 50) (v := 143) rfl rfl rfl ly_115 rfl rfl ?_
          refine ev_x (i := .iload 4) (len := 2) (p' := 52) (s' := [.int l_4, .ref 143]) rfl rfl (ld_i g_4) ?_
          obtain ⟨b_2, H⟩ := F_gd H
          refine ev_ga (p' := 53) (v := (gE (σ) 143 (l_4 : Int32).toNatClampNeg)) rfl rfl ly_143 rfl (gd_in b_2) rfl ?_
          refine ev_x (i := .istore 5) (len := 2) (p' := 55) (s' := []) (l' := vz_s1 (lv) 5 (.int (gE (σ) 143 (l_4 : Int32).toNatClampNeg))) rfl rfl rfl ?_
          refine ev_x (i := .iload 5) (len := 2) (p' := 57) (s' := [.int (gE (σ) 143 (l_4 : Int32).toNatClampNeg)]) rfl rfl (ld_i (vg_s (lv) 5 (.int (gE (σ) 143 (l_4 : Int32).toNatClampNeg)))) ?_
          refine ev_x (i := .istore 6) (len := 2) (p' := 59) (s' := []) (l' := vz_s1 (vz_s1 (lv) 5 (.int (gE (σ) 143 (l_4 : Int32).toNatClampNeg))) 6 (.int (gE (σ) 143 (l_4 : Int32).toNatClampNeg))) rfl rfl rfl ?_
          exact ih.2.1 _ _ _ _ _ _ _ _ _ _ (vg_o (i := 6) (v := .int (gE (σ) 143 (l_4 : Int32).toNatClampNeg)) (vg_o (i := 5) (v := .int (gE (σ) 143 (l_4 : Int32).toNatClampNeg)) g_0 (by decide) (Or.inl rfl)) (by decide) (Or.inl rfl)) (vg_o (i := 6) (v := .int (gE (σ) 143 (l_4 : Int32).toNatClampNeg)) (vg_o (i := 5) (v := .int (gE (σ) 143 (l_4 : Int32).toNatClampNeg)) g_2 (by decide) (Or.inl rfl)) (by decide) (Or.inl rfl)) (vg_o (i := 6) (v := .int (gE (σ) 143 (l_4 : Int32).toNatClampNeg)) (vg_o (i := 5) (v := .int (gE (σ) 143 (l_4 : Int32).toNatClampNeg)) g_3 (by decide) (Or.inl rfl)) (by decide) (Or.inl rfl)) (vg_o (i := 6) (v := .int (gE (σ) 143 (l_4 : Int32).toNatClampNeg)) (vg_o (i := 5) (v := .int (gE (σ) 143 (l_4 : Int32).toNatClampNeg)) g_4 (by decide) (Or.inl rfl)) (by decide) (Or.inl rfl)) (vg_o (i := 6) (v := .int (gE (σ) 143 (l_4 : Int32).toNatClampNeg)) (vg_s (lv) 5 (.int (gE (σ) 143 (l_4 : Int32).toNatClampNeg))) (by decide) (Or.inl rfl)) (vg_s (vz_s1 (lv) 5 (.int (gE (σ) 143 (l_4 : Int32).toNatClampNeg))) 6 (.int (gE (σ) 143 (l_4 : Int32).toNatClampNeg))) (nb_s1 (nb_s1 hnb rfl) rfl) hr_66_9 H
        · refine ev_b2 (t := 43) (p' := 23) rfl rfl rfl (if_neg c_1) ?_
          refine ev_x (i := .aload_n 0) (len := 1) (p' := 24) (s' := [.ref 66]) rfl rfl (ld_a g_0) ?_
          refine ev_gc (p' := 27) (v := 184) rfl rfl rfl ly_66 rfl rfl ?_
          refine ev_x (i := .iload 5) (len := 2) (p' := 29) (s' := [.int l_5, .ref 184]) rfl rfl (ld_i g_5) ?_
          refine ev_x (i := .aload_n 0) (len := 1) (p' := 30) (s' := [.ref 66, .int l_5, .ref 184]) rfl rfl (ld_a g_0) ?_
          refine ev_gc (p' := 33) (v := 167) rfl rfl rfl ly_66 rfl rfl ?_
          refine ev_x (i := .iload 5) (len := 2) (p' := 35) (s' := [.int l_5, .ref 167, .int l_5, .ref 184]) rfl rfl (ld_i g_5) ?_
          obtain ⟨b_3, H⟩ := F_gd H
          refine ev_ga (p' := 36) (v := (gE (σ) 167 (l_5 : Int32).toNatClampNeg)) rfl rfl ly_167 rfl (gd_in b_3) rfl ?_
          obtain ⟨b_4, H⟩ := F_gd H
          refine ev_pa (j := (l_5 : Int32).toNatClampNeg) (p' := 37) rfl rfl ly_184 rfl (gd_in b_4) rfl ?_
          refine ev_x (i := .iinc 5 1) (len := 3) (p' := 40) (s' := []) (l' := vz_s1 (lv) 5 (.int (l_5 + 1))) rfl rfl (ld_inc g_5 rfl) ?_
          refine ev_x (i := .goto (-29)) (len := 3) (p' := 11) (s' := []) rfl rfl rfl ?_
          exact ih.1 _ _ _ _ _ _ _ _ _ _ (vg_o (i := 5) (v := .int (l_5 + 1)) g_0 (by decide) (Or.inl rfl)) (vg_o (i := 5) (v := .int (l_5 + 1)) g_2 (by decide) (Or.inl rfl)) (vg_o (i := 5) (v := .int (l_5 + 1)) g_3 (by decide) (Or.inl rfl)) (vg_o (i := 5) (v := .int (l_5 + 1)) g_4 (by decide) (Or.inl rfl)) (vg_s (lv) 5 (.int (l_5 + 1))) (nb_s1 hnb rfl) hr_66_9 H
      · intro l_2 l_3 l_4 l_5 l_6 l_7 l_8 σ lv p g_0 g_2 g_3 g_4 g_5 g_6 hnb hr_66_9 H
        unfold L_216 at H
        rw [if_neg (by decide)] at H
        rw [if_pos rfl] at H
        refine ev_x (i := .iload 6) (len := 2) (p' := 61) (s' := [.int l_6]) rfl rfl (ld_i g_6) ?_
        refine ev_x (i := .iload 5) (len := 2) (p' := 63) (s' := [.int l_5, .int l_6]) rfl rfl (ld_i g_5) ?_
        refine ev_x (i := .aload_n 0) (len := 1) (p' := 64) (s' := [.ref 66, .int l_5, .int l_6]) rfl rfl (ld_a g_0) ?_
        refine ev_gr (p' := 67) (v := 115) rfl rfl rfl ly_66 rfl rfl hr_66_9 ?_
        refine ev_gc (p' := 70) (v := 144) rfl rfl rfl ly_115 rfl rfl ?_
        refine ev_x (i := .iload 4) (len := 2) (p' := 72) (s' := [.int l_4, .ref 144, .int l_5, .int l_6]) rfl rfl (ld_i g_4) ?_
        obtain ⟨b_5, H⟩ := F_gd H
        refine ev_ga (p' := 73) (v := (gE (σ) 144 (l_4 : Int32).toNatClampNeg)) rfl rfl ly_144 rfl (gd_in b_5) rfl ?_
        refine ev_x (i := .iadd) (len := 1) (p' := 74) (s' := [.int (l_5 + (gE (σ) 144 (l_4 : Int32).toNatClampNeg)), .int l_6]) rfl rfl rfl ?_
        refine F_if H (fun c_6 H => ?_) (fun c_6 H => ?_)
        · refine ev_b2 (t := 130) (p' := 130) rfl rfl rfl (if_pos c_6) ?_
          refine ev_x (i := .aload_n 0) (len := 1) (p' := 131) (s' := [.ref 66]) rfl rfl (ld_a g_0) ?_
          refine ev_gi (p' := 134) (v := (gI σ 66 16)) rfl rfl rfl ly_66 rfl rfl rfl ?_
          refine F_if H (fun c_7 H => ?_) (fun c_7 H => ?_)
          · refine ev_b0 (t := 138) (p' := 138) rfl rfl rfl (if_pos c_7) ?_
            refine ev_x (i := .aload_n 0) (len := 1) (p' := 139) (s' := [.ref 66]) rfl rfl (ld_a g_0) ?_
            obtain ⟨p_8, G_8, H⟩ := F_bd H
            refine ev_cv (d := d + 7) (As := []) (a := 66) (p' := 142) rfl rfl rfl ly_66 rfl rfl rfl rfl rfl hnb rfl (F_218_ok (d := d + 6) (hg := (Or.inr rfl)) (hr_66_9 := hr_66_9) G_8) ?_
            refine ev_st (st' := [.int p_8.1]) rfl ?_
            have e_8 := F_218_R G_8
            refine ev_x (i := .istore 6) (len := 2) (p' := 144) (s' := []) (l' := vz_s1 (lv) 6 (.int p_8.1)) rfl rfl rfl ?_
            refine ev_x (i := .iload 6) (len := 2) (p' := 146) (s' := [.int p_8.1]) rfl rfl (ld_i (vg_s (lv) 6 (.int p_8.1))) ?_
            refine F_if H (fun c_9 H => ?_) (fun c_9 H => ?_)
            · refine ev_b0 (t := 165) (p' := 165) rfl rfl rfl (if_pos c_9) ?_
              refine ev_x (i := .aload_n 0) (len := 1) (p' := 166) (s' := [.ref 66]) rfl rfl (ld_a (vg_o (i := 6) (v := .int p_8.1) g_0 (by decide) (Or.inl rfl))) ?_
              refine ev_gc (p' := 169) (v := 177) rfl rfl rfl ly_66 rfl rfl ?_
              refine ev_gi (p' := 172) (v := (gI p_8.2 177 1)) rfl rfl rfl ly_177 rfl rfl rfl ?_
              refine ev_x (i := .iconst 1) (len := 1) (p' := 173) (s' := [.int 1, .int (gI p_8.2 177 1)]) rfl rfl rfl ?_
              refine ev_x (i := .isub) (len := 1) (p' := 174) (s' := [.int ((gI p_8.2 177 1) - 1)]) rfl rfl rfl ?_
              refine ev_x (i := .istore 7) (len := 2) (p' := 176) (s' := []) (l' := vz_s1 (vz_s1 (lv) 6 (.int p_8.1)) 7 (.int ((gI p_8.2 177 1) - 1))) rfl rfl rfl ?_
              refine ev_x (i := .aload_n 0) (len := 1) (p' := 177) (s' := [.ref 66]) rfl rfl (ld_a (vg_o (i := 7) (v := .int ((gI p_8.2 177 1) - 1)) (vg_o (i := 6) (v := .int p_8.1) g_0 (by decide) (Or.inl rfl)) (by decide) (Or.inl rfl))) ?_
              refine ev_gc (p' := 180) (v := 177) rfl rfl rfl ly_66 rfl rfl ?_
              refine ev_x (i := .iload 7) (len := 2) (p' := 182) (s' := [.int ((gI p_8.2 177 1) - 1), .ref 177]) rfl rfl (ld_i (vg_s (vz_s1 (lv) 6 (.int p_8.1)) 7 (.int ((gI p_8.2 177 1) - 1)))) ?_
              obtain ⟨p_10, G_10, H⟩ := F_bd H
              refine ev_cv (d := d + 7) (As := [.int ((gI p_8.2 177 1) - 1)]) (a := 177) (p' := 185) rfl rfl rfl ly_177 rfl rfl rfl rfl rfl (nb_s1 (nb_s1 hnb rfl) rfl) rfl (N_139_ok (d := d + 6) nm_177 G_10) ?_
              refine ev_st (st' := [.int p_10.1]) rfl ?_
              have e_10 := N_139_R G_10
              refine ev_x (i := .istore 8) (len := 2) (p' := 187) (s' := []) (l' := vz_s1 (vz_s1 (vz_s1 (lv) 6 (.int p_8.1)) 7 (.int ((gI p_8.2 177 1) - 1))) 8 (.int p_10.1)) rfl rfl rfl ?_
              exact ih.2.2 _ _ _ _ _ _ _ _ _ _ (vg_o (i := 8) (v := .int p_10.1) (vg_o (i := 7) (v := .int ((gI p_8.2 177 1) - 1)) (vg_o (i := 6) (v := .int p_8.1) g_0 (by decide) (Or.inl rfl)) (by decide) (Or.inl rfl)) (by decide) (Or.inl rfl)) (vg_o (i := 8) (v := .int p_10.1) (vg_o (i := 7) (v := .int ((gI p_8.2 177 1) - 1)) (vg_o (i := 6) (v := .int p_8.1) g_2 (by decide) (Or.inl rfl)) (by decide) (Or.inl rfl)) (by decide) (Or.inl rfl)) (vg_o (i := 8) (v := .int p_10.1) (vg_o (i := 7) (v := .int ((gI p_8.2 177 1) - 1)) (vg_o (i := 6) (v := .int p_8.1) g_3 (by decide) (Or.inl rfl)) (by decide) (Or.inl rfl)) (by decide) (Or.inl rfl)) (vg_o (i := 8) (v := .int p_10.1) (vg_o (i := 7) (v := .int ((gI p_8.2 177 1) - 1)) (vg_s (lv) 6 (.int p_8.1)) (by decide) (Or.inl rfl)) (by decide) (Or.inl rfl)) (vg_o (i := 8) (v := .int p_10.1) (vg_s (vz_s1 (lv) 6 (.int p_8.1)) 7 (.int ((gI p_8.2 177 1) - 1))) (by decide) (Or.inl rfl)) (vg_s (vz_s1 (vz_s1 (lv) 6 (.int p_8.1)) 7 (.int ((gI p_8.2 177 1) - 1))) 8 (.int p_10.1)) (nb_s1 (nb_s1 (nb_s1 hnb rfl) rfl) rfl) ((congrFun (congrFun e_10 66) 9).trans ((congrFun (congrFun e_8 66) 9).trans hr_66_9)) H
            · refine ev_b0 (t := 165) (p' := 149) rfl rfl rfl (if_neg c_9) ?_
              refine ev_x (i := .aload_n 0) (len := 1) (p' := 150) (s' := [.ref 66]) rfl rfl (ld_a (vg_o (i := 6) (v := .int p_8.1) g_0 (by decide) (Or.inl rfl))) ?_
              refine ev_x (i := .iconst 5) (len := 1) (p' := 151) (s' := [.int 5, .ref 66]) rfl rfl rfl ?_
              refine ev_x (i := .aload_n 0) (len := 1) (p' := 152) (s' := [.ref 66, .int 5, .ref 66]) rfl rfl (ld_a (vg_o (i := 6) (v := .int p_8.1) g_0 (by decide) (Or.inl rfl))) ?_
              refine ev_gr (p' := 155) (v := 115) rfl rfl rfl ly_66 rfl rfl ((congrFun (congrFun e_8 66) 9).trans hr_66_9) ?_
              refine ev_gc (p' := 158) (v := 142) rfl rfl rfl ly_115 rfl rfl ?_
              refine ev_x (i := .iload 4) (len := 2) (p' := 160) (s' := [.int l_4, .ref 142, .int 5, .ref 66]) rfl rfl (ld_i (vg_o (i := 6) (v := .int p_8.1) g_4 (by decide) (Or.inl rfl))) ?_
              obtain ⟨b_11, H⟩ := F_gd H
              refine ev_ga (p' := 161) (v := (gE (p_8.2) 142 (l_4 : Int32).toNatClampNeg)) rfl rfl ly_142 rfl (gd_in b_11) rfl ?_
              obtain ⟨p_12, G_12, H⟩ := F_bd H
              refine ev_cv (d := d + 7) (As := [.int 5, .int (gE (p_8.2) 142 (l_4 : Int32).toNatClampNeg)]) (a := 66) (p' := 164) rfl rfl rfl ly_66 rfl rfl rfl rfl rfl (nb_s1 hnb rfl) rfl (F_165_ok (d := d + 6)   G_12) ?_
              refine ev_st (st' := []) rfl ?_
              have e_12 := F_165_R G_12
              obtain rfl := Option.some.inj H
              exact ev_vret rfl rfl rfl
          · refine ev_b0 (t := 138) (p' := 137) rfl rfl rfl (if_neg c_7) ?_
            obtain rfl := Option.some.inj H
            exact ev_vret rfl rfl rfl
        · refine ev_b2 (t := 130) (p' := 77) rfl rfl rfl (if_neg c_6) ?_
          refine ev_x (i := .aload_n 0) (len := 1) (p' := 78) (s' := [.ref 66]) rfl rfl (ld_a g_0) ?_
          refine ev_gi (p' := 81) (v := (gI σ 66 16)) rfl rfl rfl ly_66 rfl rfl rfl ?_
          refine F_if H (fun c_13 H => ?_) (fun c_13 H => ?_)
          · refine ev_b0 (t := 130) (p' := 84) rfl rfl rfl (if_neg (fun q => q c_13)) ?_
            refine ev_x (i := .aload_n 0) (len := 1) (p' := 85) (s' := [.ref 66]) rfl rfl (ld_a g_0) ?_
            refine ev_x (i := .aload_n 0) (len := 1) (p' := 86) (s' := [.ref 66, .ref 66]) rfl rfl (ld_a g_0) ?_
            refine ev_gr (p' := 89) (v := 115) rfl rfl rfl ly_66 rfl rfl hr_66_9 ?_
            refine ev_gc (p' := 92) (v := 145) rfl rfl rfl ly_115 rfl rfl ?_
            refine ev_x (i := .iload 6) (len := 2) (p' := 94) (s' := [.int l_6, .ref 145, .ref 66]) rfl rfl (ld_i g_6) ?_
            obtain ⟨p_14, G_14, H⟩ := F_bd H
            refine ev_cv (d := d + 7) (As := [.int l_6]) (a := 145) (p' := 97) rfl rfl rfl ly_145 rfl rfl rfl rfl rfl hnb rfl (N_139_ok (d := d + 6) nm_145 G_14) ?_
            refine ev_st (st' := [.int p_14.1, .ref 66]) rfl ?_
            have e_14 := N_139_R G_14
            refine ev_x (i := .aload_n 0) (len := 1) (p' := 98) (s' := [.ref 66, .int p_14.1, .ref 66]) rfl rfl (ld_a g_0) ?_
            refine ev_gr (p' := 101) (v := 115) rfl rfl rfl ly_66 rfl rfl ((congrFun (congrFun e_14 66) 9).trans hr_66_9) ?_
            refine ev_gc (p' := 104) (v := 149) rfl rfl rfl ly_115 rfl rfl ?_
            refine ev_x (i := .iload 6) (len := 2) (p' := 106) (s' := [.int l_6, .ref 149, .int p_14.1, .ref 66]) rfl rfl (ld_i g_6) ?_
            obtain ⟨p_15, G_15, H⟩ := F_bd H
            refine ev_cv (d := d + 7) (As := [.int l_6]) (a := 149) (p' := 109) rfl rfl rfl ly_149 rfl rfl rfl rfl rfl hnb rfl (N_139_ok (d := d + 6) nm_149 G_15) ?_
            refine ev_st (st' := [.int p_15.1, .int p_14.1, .ref 66]) rfl ?_
            have e_15 := N_139_R G_15
            refine ev_x (i := .aload_n 0) (len := 1) (p' := 110) (s' := [.ref 66, .int p_15.1, .int p_14.1, .ref 66]) rfl rfl (ld_a g_0) ?_
            refine ev_gr (p' := 113) (v := 115) rfl rfl rfl ly_66 rfl rfl ((congrFun (congrFun e_15 66) 9).trans ((congrFun (congrFun e_14 66) 9).trans hr_66_9)) ?_
            refine ev_gc (p' := 116) (v := 147) rfl rfl rfl ly_115 rfl rfl ?_
            refine ev_x (i := .iload 6) (len := 2) (p' := 118) (s' := [.int l_6, .ref 147, .int p_15.1, .int p_14.1, .ref 66]) rfl rfl (ld_i g_6) ?_
            obtain ⟨p_16, G_16, H⟩ := F_bd H
            refine ev_cv (d := d + 7) (As := [.int l_6]) (a := 147) (p' := 121) rfl rfl rfl ly_147 rfl rfl rfl rfl rfl hnb rfl (N_139_ok (d := d + 6) nm_147 G_16) ?_
            refine ev_st (st' := [.int p_16.1, .int p_15.1, .int p_14.1, .ref 66]) rfl ?_
            have e_16 := N_139_R G_16
            obtain ⟨p_17, G_17, H⟩ := F_bd H
            refine ev_cv (d := d + 7) (As := [.int p_14.1, .int p_15.1, .int p_16.1]) (a := 66) (p' := 124) rfl rfl rfl ly_66 rfl rfl rfl rfl rfl hnb rfl (F_217_ok (d := d + 0) (hg := (Or.inr rfl)) (hr_66_9 := ((congrFun (congrFun e_16 66) 9).trans ((congrFun (congrFun e_15 66) 9).trans ((congrFun (congrFun e_14 66) 9).trans hr_66_9)))) G_17) ?_
            refine ev_st (st' := []) rfl ?_
            have e_17 := F_217_R G_17
            refine ev_x (i := .iinc 6 1) (len := 3) (p' := 127) (s' := []) (l' := vz_s1 (lv) 6 (.int (l_6 + 1))) rfl rfl (ld_inc g_6 rfl) ?_
            refine ev_x (i := .goto (-68)) (len := 3) (p' := 59) (s' := []) rfl rfl rfl ?_
            exact ih.2.1 _ _ _ _ _ _ _ _ _ _ (vg_o (i := 6) (v := .int (l_6 + 1)) g_0 (by decide) (Or.inl rfl)) (vg_o (i := 6) (v := .int (l_6 + 1)) g_2 (by decide) (Or.inl rfl)) (vg_o (i := 6) (v := .int (l_6 + 1)) g_3 (by decide) (Or.inl rfl)) (vg_o (i := 6) (v := .int (l_6 + 1)) g_4 (by decide) (Or.inl rfl)) (vg_o (i := 6) (v := .int (l_6 + 1)) g_5 (by decide) (Or.inl rfl)) (vg_s (lv) 6 (.int (l_6 + 1))) (nb_s1 hnb rfl) ((congrFun (congrFun e_17 66) 9).trans ((congrFun (congrFun e_16 66) 9).trans ((congrFun (congrFun e_15 66) 9).trans ((congrFun (congrFun e_14 66) 9).trans hr_66_9)))) H
          · refine ev_b0 (t := 130) (p' := 130) rfl rfl rfl (if_pos c_13) ?_
            refine ev_x (i := .aload_n 0) (len := 1) (p' := 131) (s' := [.ref 66]) rfl rfl (ld_a g_0) ?_
            refine ev_gi (p' := 134) (v := (gI σ 66 16)) rfl rfl rfl ly_66 rfl rfl rfl ?_
            refine ev_b0 (t := 138) (p' := 137) rfl rfl rfl (if_neg c_13) ?_
            obtain rfl := Option.some.inj H
            exact ev_vret rfl rfl rfl
      · intro l_2 l_3 l_4 l_5 l_6 l_7 l_8 σ lv p g_0 g_2 g_3 g_6 g_7 g_8 hnb hr_66_9 H
        unfold L_216 at H
        rw [if_neg (by decide)] at H
        rw [if_neg (by decide)] at H
        refine ev_x (i := .iload 8) (len := 2) (p' := 189) (s' := [.int l_8]) rfl rfl (ld_i g_8) ?_
        refine ev_x (i := .aload_n 0) (len := 1) (p' := 190) (s' := [.ref 66, .int l_8]) rfl rfl (ld_a g_0) ?_
        refine ev_gi (p' := 193) (v := (gI σ 66 38)) rfl rfl rfl ly_66 rfl rfl rfl ?_
        refine F_if H (fun c_18 H => ?_) (fun c_18 H => ?_)
        · refine ev_b2 (t := 233) (p' := 233) rfl rfl rfl (if_pos c_18) ?_
          refine ev_x (i := .aload_n 0) (len := 1) (p' := 234) (s' := [.ref 66]) rfl rfl (ld_a g_0) ?_
          refine ev_gi (p' := 237) (v := (gI σ 66 38)) rfl rfl rfl ly_66 rfl rfl rfl ?_
          refine ev_x (i := .sipush 4096) (len := 3) (p' := 240) (s' := [.int 4096, .int (gI σ 66 38)]) rfl rfl rfl ?_
          refine F_if H (fun c_19 H => ?_) (fun c_19 H => ?_)
          · refine ev_b2 (t := 250) (p' := 243) rfl rfl rfl (if_neg (fun q => q c_19)) ?_
            refine ev_x (i := .aload_n 0) (len := 1) (p' := 244) (s' := [.ref 66]) rfl rfl (ld_a g_0) ?_
            refine ev_x (i := .iconst 5) (len := 1) (p' := 245) (s' := [.int 5, .ref 66]) rfl rfl rfl ?_
            refine ev_x (i := .iload_n 3) (len := 1) (p' := 246) (s' := [.int l_3, .int 5, .ref 66]) rfl rfl (ld_i g_3) ?_
            obtain ⟨p_20, G_20, H⟩ := F_bd H
            refine ev_cv (d := d + 7) (As := [.int 5, .int l_3]) (a := 66) (p' := 249) rfl rfl rfl ly_66 rfl rfl rfl rfl rfl hnb rfl (F_165_ok (d := d + 6)   G_20) ?_
            refine ev_st (st' := []) rfl ?_
            have e_20 := F_165_R G_20
            obtain rfl := Option.some.inj H
            exact ev_vret rfl rfl rfl
          · refine ev_b2 (t := 250) (p' := 250) rfl rfl rfl (if_pos c_19) ?_
            refine ev_x (i := .aload_n 0) (len := 1) (p' := 251) (s' := [.ref 66]) rfl rfl (ld_a g_0) ?_
            refine ev_gc (p' := 254) (v := 181) rfl rfl rfl ly_66 rfl rfl ?_
            refine ev_x (i := .aload_n 0) (len := 1) (p' := 255) (s' := [.ref 66, .ref 181]) rfl rfl (ld_a g_0) ?_
            refine ev_gi (p' := 258) (v := (gI σ 66 38)) rfl rfl rfl ly_66 rfl rfl rfl ?_
            refine ev_x (i := .iload 6) (len := 2) (p' := 260) (s' := [.int l_6, .int (gI σ 66 38), .ref 181]) rfl rfl (ld_i g_6) ?_
            obtain ⟨b_21, H⟩ := F_gd H
            refine ev_pa (j := ((gI σ 66 38) : Int32).toNatClampNeg) (p' := 261) rfl rfl ly_181 rfl (gd_in b_21) rfl ?_
            refine ev_x (i := .aload_n 0) (len := 1) (p' := 262) (s' := [.ref 66]) rfl rfl (ld_a g_0) ?_
            refine ev_gc (p' := 265) (v := 182) rfl rfl rfl ly_66 rfl rfl ?_
            refine ev_x (i := .aload_n 0) (len := 1) (p' := 266) (s' := [.ref 66, .ref 182]) rfl rfl (ld_a g_0) ?_
            refine ev_gi (p' := 269) (v := (gI σ 66 38)) rfl rfl rfl ly_66 rfl rfl rfl ?_
            refine ev_x (i := .aload_n 0) (len := 1) (p' := 270) (s' := [.ref 66, .int (gI σ 66 38), .ref 182]) rfl rfl (ld_a g_0) ?_
            refine ev_gc (p' := 273) (v := 185) rfl rfl rfl ly_66 rfl rfl ?_
            refine ev_x (i := .iload_n 2) (len := 1) (p' := 274) (s' := [.int l_2, .ref 185, .int (gI σ 66 38), .ref 182]) rfl rfl (ld_i g_2) ?_
            obtain ⟨b_22, H⟩ := F_gd H
            refine ev_gL (p' := 275) (v := (gL (σ) 185 (l_2 : Int32).toNatClampNeg)) rfl rfl ly_185 rfl (gd_in b_22) rfl ?_
            obtain ⟨b_23, H⟩ := F_gd H
            refine ev_pL (j := ((gI σ 66 38) : Int32).toNatClampNeg) (p' := 276) rfl rfl ly_182 rfl (gd_in b_23) rfl ?_
            refine ev_x (i := .aload_n 0) (len := 1) (p' := 277) (s' := [.ref 66]) rfl rfl (ld_a g_0) ?_
            refine ev_gc (p' := 280) (v := 183) rfl rfl rfl ly_66 rfl rfl ?_
            refine ev_x (i := .aload_n 0) (len := 1) (p' := 281) (s' := [.ref 66, .ref 183]) rfl rfl (ld_a g_0) ?_
            refine ev_gi (p' := 284) (v := (gI σ 66 38)) rfl rfl rfl ly_66 rfl rfl rfl ?_
            refine ev_x (i := .aload_n 0) (len := 1) (p' := 285) (s' := [.ref 66, .int (gI σ 66 38), .ref 183]) rfl rfl (ld_a g_0) ?_
            refine ev_gc (p' := 288) (v := 186) rfl rfl rfl ly_66 rfl rfl ?_
            refine ev_x (i := .iload_n 2) (len := 1) (p' := 289) (s' := [.int l_2, .ref 186, .int (gI σ 66 38), .ref 183]) rfl rfl (ld_i g_2) ?_
            obtain ⟨b_24, H⟩ := F_gd H
            refine ev_gL (p' := 290) (v := (gL (σ) 186 (l_2 : Int32).toNatClampNeg)) rfl rfl ly_186 rfl (gd_in b_24) rfl ?_
            obtain ⟨b_25, H⟩ := F_gd H
            refine ev_pL (j := ((gI σ 66 38) : Int32).toNatClampNeg) (p' := 291) rfl rfl ly_183 rfl (gd_in b_25) rfl ?_
            refine ev_x (i := .aload_n 0) (len := 1) (p' := 292) (s' := [.ref 66]) rfl rfl (ld_a g_0) ?_
            refine ev_x (i := .aload_n 0) (len := 1) (p' := 293) (s' := [.ref 66, .ref 66]) rfl rfl (ld_a g_0) ?_
            refine ev_gi (p' := 296) (v := (gI σ 66 38)) rfl rfl rfl ly_66 rfl rfl rfl ?_
            refine ev_x (i := .iconst 1) (len := 1) (p' := 297) (s' := [.int 1, .int (gI σ 66 38), .ref 66]) rfl rfl rfl ?_
            refine ev_x (i := .iadd) (len := 1) (p' := 298) (s' := [.int ((gI σ 66 38) + 1), .ref 66]) rfl rfl rfl ?_
            refine ev_pi (p' := 301) rfl rfl rfl ly_66 rfl rfl rfl rfl ?_
            refine ev_x (i := .aload_n 0) (len := 1) (p' := 302) (s' := [.ref 66]) rfl rfl (ld_a g_0) ?_
            refine ev_gc (p' := 305) (v := 179) rfl rfl rfl ly_66 rfl rfl ?_
            refine ev_gc (p' := 308) (v := 180) rfl rfl rfl ly_179 rfl rfl ?_
            refine ev_x (i := .iload 7) (len := 2) (p' := 310) (s' := [.int l_7, .ref 180]) rfl rfl (ld_i g_7) ?_
            refine ev_x (i := .aload_n 0) (len := 1) (p' := 311) (s' := [.ref 66, .int l_7, .ref 180]) rfl rfl (ld_a g_0) ?_
            refine ev_gc (p' := 314) (v := 179) rfl rfl rfl ly_66 rfl rfl ?_
            refine ev_gc (p' := 317) (v := 180) rfl rfl rfl ly_179 rfl rfl ?_
            refine ev_x (i := .iload 7) (len := 2) (p' := 319) (s' := [.int l_7, .ref 180, .int l_7, .ref 180]) rfl rfl (ld_i g_7) ?_
            obtain ⟨b_26, H⟩ := F_gd H
            refine ev_ga (p' := 320) (v := (gE (σ) 180 (l_7 : Int32).toNatClampNeg)) rfl rfl ly_180 rfl (gd_in b_26) rfl ?_
            refine ev_x (i := .iconst 1) (len := 1) (p' := 321) (s' := [.int 1, .int (gE (σ) 180 (l_7 : Int32).toNatClampNeg), .int l_7, .ref 180]) rfl rfl rfl ?_
            refine ev_x (i := .iadd) (len := 1) (p' := 322) (s' := [.int ((gE (σ) 180 (l_7 : Int32).toNatClampNeg) + 1), .int l_7, .ref 180]) rfl rfl rfl ?_
            refine ev_pa (j := (l_7 : Int32).toNatClampNeg) (p' := 323) rfl rfl ly_180 rfl (gd_in b_26) rfl ?_
            obtain rfl := Option.some.inj H
            exact ev_vret rfl rfl rfl
        · refine ev_b2 (t := 233) (p' := 196) rfl rfl rfl (if_neg c_18) ?_
          refine ev_x (i := .aload_n 0) (len := 1) (p' := 197) (s' := [.ref 66]) rfl rfl (ld_a g_0) ?_
          refine ev_gc (p' := 200) (v := 181) rfl rfl rfl ly_66 rfl rfl ?_
          refine ev_x (i := .iload 8) (len := 2) (p' := 202) (s' := [.int l_8, .ref 181]) rfl rfl (ld_i g_8) ?_
          obtain ⟨b_27, H⟩ := F_gd H
          refine ev_ga (p' := 203) (v := (gE (σ) 181 (l_8 : Int32).toNatClampNeg)) rfl rfl ly_181 rfl (gd_in b_27) rfl ?_
          refine ev_x (i := .iload 6) (len := 2) (p' := 205) (s' := [.int l_6, .int (gE (σ) 181 (l_8 : Int32).toNatClampNeg)]) rfl rfl (ld_i g_6) ?_
          refine F_if H (fun c_28 H => ?_) (fun c_28 H => ?_)
          · refine ev_b2 (t := 227) (p' := 208) rfl rfl rfl (if_neg (fun q => q c_28)) ?_
            refine ev_x (i := .aload_n 0) (len := 1) (p' := 209) (s' := [.ref 66]) rfl rfl (ld_a g_0) ?_
            refine ev_x (i := .iload 8) (len := 2) (p' := 211) (s' := [.int l_8, .ref 66]) rfl rfl (ld_i g_8) ?_
            refine ev_x (i := .aload_n 0) (len := 1) (p' := 212) (s' := [.ref 66, .int l_8, .ref 66]) rfl rfl (ld_a g_0) ?_
            refine ev_gc (p' := 215) (v := 185) rfl rfl rfl ly_66 rfl rfl ?_
            refine ev_x (i := .iload_n 2) (len := 1) (p' := 216) (s' := [.int l_2, .ref 185, .int l_8, .ref 66]) rfl rfl (ld_i g_2) ?_
            obtain ⟨b_29, H⟩ := F_gd H
            refine ev_gL (p' := 217) (v := (gL (σ) 185 (l_2 : Int32).toNatClampNeg)) rfl rfl ly_185 rfl (gd_in b_29) rfl ?_
            refine ev_x (i := .aload_n 0) (len := 1) (p' := 218) (s' := [.ref 66, .long (gL (σ) 185 (l_2 : Int32).toNatClampNeg), .int l_8, .ref 66]) rfl rfl (ld_a g_0) ?_
            refine ev_gc (p' := 221) (v := 186) rfl rfl rfl ly_66 rfl rfl ?_
            refine ev_x (i := .iload_n 2) (len := 1) (p' := 222) (s' := [.int l_2, .ref 186, .long (gL (σ) 185 (l_2 : Int32).toNatClampNeg), .int l_8, .ref 66]) rfl rfl (ld_i g_2) ?_
            obtain ⟨b_30, H⟩ := F_gd H
            refine ev_gL (p' := 223) (v := (gL (σ) 186 (l_2 : Int32).toNatClampNeg)) rfl rfl ly_186 rfl (gd_in b_30) rfl ?_
            obtain ⟨p_31, G_31, H⟩ := F_bd H
            refine ev_cv (d := d + 7) (As := [.int l_8, .long (gL (σ) 185 (l_2 : Int32).toNatClampNeg), .long (gL (σ) 186 (l_2 : Int32).toNatClampNeg)]) (a := 66) (p' := 226) rfl rfl rfl ly_66 rfl rfl rfl rfl rfl hnb rfl (F_219_ok (d := d + 5)   G_31) ?_
            refine ev_st (st' := []) rfl ?_
            have e_31 := F_219_R G_31
            obtain rfl := Option.some.inj H
            exact ev_vret rfl rfl rfl
          · refine ev_b2 (t := 227) (p' := 227) rfl rfl rfl (if_pos c_28) ?_
            refine ev_x (i := .iinc 8 1) (len := 3) (p' := 230) (s' := []) (l' := vz_s1 (lv) 8 (.int (l_8 + 1))) rfl rfl (ld_inc g_8 rfl) ?_
            refine ev_x (i := .goto (-43)) (len := 3) (p' := 187) (s' := []) rfl rfl rfl ?_
            exact ih.2.2 _ _ _ _ _ _ _ _ _ _ (vg_o (i := 8) (v := .int (l_8 + 1)) g_0 (by decide) (Or.inl rfl)) (vg_o (i := 8) (v := .int (l_8 + 1)) g_2 (by decide) (Or.inl rfl)) (vg_o (i := 8) (v := .int (l_8 + 1)) g_3 (by decide) (Or.inl rfl)) (vg_o (i := 8) (v := .int (l_8 + 1)) g_6 (by decide) (Or.inl rfl)) (vg_o (i := 8) (v := .int (l_8 + 1)) g_7 (by decide) (Or.inl rfl)) (vg_s (lv) 8 (.int (l_8 + 1))) (nb_s1 hnb rfl) hr_66_9 H
/-- GameTextModel.way(III)V -/
def F_216 (N : Nat) (g : Nat) (x_1 : Int32) (x_2 : Int32) (x_3 : Int32) (σ : st_S) : Option (st_S) :=
  L_216 N g N 11 x_2 x_3 ((8 * x_1) + x_2) 0 0 0 0 (σ)
set_option maxRecDepth 100000 in
theorem F_216_R {N : Nat} {g : Nat} {x_1 : Int32} {x_2 : Int32} {x_3 : Int32} {σ : st_S} {p : st_S} (H : F_216 N g x_1 x_2 x_3 σ = some p) : gR p = gR σ := by
  unfold F_216 at H
  exact (((L_216_R _ _ _ _ _ _ _ _ _ _ _ H)).trans rfl)
set_option maxHeartbeats 4000000 in
set_option maxRecDepth 100000 in
theorem F_216_ok {N d : Nat} {g : Nat} (hg : g = 79 ∨ g = 115) {x_1 : Int32} {x_2 : Int32} {x_3 : Int32} {σ : st_S} {p : st_S} (hr_66_9 : gR σ 66 9 = g) (H : F_216 N g x_1 x_2 x_3 σ = some p) : vz_ev P0 (d + 8) 216 0 (lv_args 0 [.ref 66, .int x_1, .int x_2, .int x_3]) [] (hp σ) (.inl none, hp p) := by
  unfold F_216 at H
  refine ev_x (i := .bipush 8) (len := 2) (p' := 2) (s' := [.int 8]) rfl rfl rfl ?_
  refine ev_x (i := .iload_n 1) (len := 1) (p' := 3) (s' := [.int x_1, .int 8]) rfl rfl rfl ?_
  refine ev_x (i := .imul) (len := 1) (p' := 4) (s' := [.int (8 * x_1)]) rfl rfl rfl ?_
  refine ev_x (i := .iload_n 2) (len := 1) (p' := 5) (s' := [.int x_2, .int (8 * x_1)]) rfl rfl rfl ?_
  refine ev_x (i := .iadd) (len := 1) (p' := 6) (s' := [.int ((8 * x_1) + x_2)]) rfl rfl rfl ?_
  refine ev_x (i := .istore 4) (len := 2) (p' := 8) (s' := []) (l' := [(4, .int ((8 * x_1) + x_2)), (0, .ref 66), (1, .int x_1), (2, .int x_2), (3, .int x_3)]) rfl rfl rfl ?_
  refine ev_x (i := .iconst 0) (len := 1) (p' := 9) (s' := [.int 0]) rfl rfl rfl ?_
  refine ev_x (i := .istore 5) (len := 2) (p' := 11) (s' := []) (l' := [(5, .int 0), (4, .int ((8 * x_1) + x_2)), (0, .ref 66), (1, .int x_1), (2, .int x_2), (3, .int x_3)]) rfl rfl rfl ?_
  exact (L_216_ok (d := d) hg N).1 _ _ _ _ _ _ _ _ _ _ rfl rfl rfl rfl rfl rfl hr_66_9 H
/-- GameTextModel.enabled(II)V, its loops -/
def L_214 (N : Nat) (g : Nat) : Nat → Nat → Int32 → Int32 → Int32 → Int64 → Int64 → Int32 → st_S → Option (st_S)
  | 0, _, _, _, _, _, _, _, _ => none
  | k + 1, w, l_1, l_2, l_4, l_5, l_7, l_9, σ =>
    if w = 87 then
      if aB l_2 (gN σ (g + 25)) then
      if (gE (σ) (g + 25) (l_2 : Int32).toNatClampNeg) ≤ l_9 then
        if (lg_cmp l_7 l_5) = 0 then
          (N_133 N 175 l_2 (σ)).bind fun p_15 =>
          (N_133 N 177 (gI p_15 66 38) (p_15)).bind fun p_16 =>
          (N_133 N 179 0 (p_16)).bind fun p_17 =>
          if aB l_1 (gN p_17 174) then
          L_214 N g k 191 0 l_2 l_4 0 0 0 (st_e (p_17) 174 ((l_1 : Int32).toNatClampNeg) ((gE (p_17) 174 (l_1 : Int32).toNatClampNeg) + 1))
          else none
        else
          (F_165 N 11 l_4 (σ)).bind fun p_19 =>
          some (p_19)
      else
        if aB l_9 (gN σ 185) then
        if aB l_9 (gN σ 186) then
        if ¬ ((gL (σ) 186 (l_9 : Int32).toNatClampNeg) : Int64) = 0 then
        L_214 N g k 87 l_1 l_2 l_4 l_5 (l_7 + ((gL (σ) 185 (l_9 : Int32).toNatClampNeg) * (l_5 / (gL (σ) 186 (l_9 : Int32).toNatClampNeg)))) (l_9 + 1) (σ)
        else none
        else none
        else none
      else none
    else
      if aB l_2 (gN σ (g + 25)) then
      if (gE (σ) (g + 25) (l_2 : Int32).toNatClampNeg) ≤ l_9 then
        some (σ)
      else
        if (gI σ 66 16) = 0 then
          if aB l_9 (gN σ 185) then
          if (lg_cmp (gL (σ) 185 (l_9 : Int32).toNatClampNeg) 0) = 0 then
            L_214 N g k 191 0 l_2 l_4 0 0 (l_9 + 1) (σ)
          else
            (F_216 N g l_2 l_9 l_4 (σ)).bind fun p_28 =>
            L_214 N g k 191 0 l_2 l_4 0 0 (l_9 + 1) (p_28)
          else none
        else
          some (σ)
      else none
set_option maxRecDepth 100000 in
theorem L_214_R {N : Nat} {g : Nat} : ∀ (k : Nat) (w : Nat) (l_1 : Int32) (l_2 : Int32) (l_4 : Int32) (l_5 : Int64) (l_7 : Int64) (l_9 : Int32) (σ : st_S) (p : st_S), L_214 N g k w l_1 l_2 l_4 l_5 l_7 l_9 σ = some p → gR p = gR σ := by
  intro k
  induction k with
  | zero => intro w l_1 l_2 l_4 l_5 l_7 l_9 σ p H; unfold L_214 at H; cases H
  | succ k ih =>
    intro w l_1 l_2 l_4 l_5 l_7 l_9 σ p H
    unfold L_214 at H
    refine F_if H (fun _ H => ?_) (fun _ H => ?_)
    · obtain ⟨_, H⟩ := F_gd H
      refine F_if H (fun _ H => ?_) (fun _ H => ?_)
      · refine F_if H (fun _ H => ?_) (fun _ H => ?_)
        · obtain ⟨p_15, G_15, H⟩ := F_bd H
          obtain ⟨p_16, G_16, H⟩ := F_bd H
          obtain ⟨p_17, G_17, H⟩ := F_bd H
          obtain ⟨_, H⟩ := F_gd H
          exact (((ih _ _ _ _ _ _ _ _ _ H)).trans ((N_133_R G_17).trans ((N_133_R G_16).trans ((N_133_R G_15).trans rfl))))
        · obtain ⟨p_19, G_19, H⟩ := F_bd H
          obtain rfl := Option.some.inj H
          exact ((F_165_R G_19).trans rfl)
      · obtain ⟨_, H⟩ := F_gd H
        obtain ⟨_, H⟩ := F_gd H
        obtain ⟨_, H⟩ := F_gd H
        exact (((ih _ _ _ _ _ _ _ _ _ H)).trans rfl)
    · skip
      obtain ⟨_, H⟩ := F_gd H
      refine F_if H (fun _ H => ?_) (fun _ H => ?_)
      · obtain rfl := Option.some.inj H
        exact rfl
      · refine F_if H (fun _ H => ?_) (fun _ H => ?_)
        · obtain ⟨_, H⟩ := F_gd H
          refine F_if H (fun _ H => ?_) (fun _ H => ?_)
          · exact (((ih _ _ _ _ _ _ _ _ _ H)).trans rfl)
          · obtain ⟨p_28, G_28, H⟩ := F_bd H
            exact (((ih _ _ _ _ _ _ _ _ _ H)).trans ((F_216_R G_28).trans rfl))
        · obtain rfl := Option.some.inj H
          exact rfl
set_option maxHeartbeats 4000000 in
set_option maxRecDepth 100000 in
theorem L_214_ok {N d : Nat} {g : Nat} (hg : g = 79 ∨ g = 115) : ∀ k : Nat, (∀ (l_1 : Int32) (l_2 : Int32) (l_4 : Int32) (l_5 : Int64) (l_7 : Int64) (l_9 : Int32) (σ : st_S) (lv : vz_L) (p : st_S), vz_g lv 0 = some (.ref 66) → vz_g lv 1 = some (.int l_1) → vz_g lv 2 = some (.int l_2) → vz_g lv 4 = some (.int l_4) → vz_g lv 5 = some (.long l_5) → vz_g lv 7 = some (.long l_7) → vz_g lv 9 = some (.int l_9) → vz_nbL (vz_gr P0) lv = true → gR σ 66 9 = g → L_214 N g k 87 l_1 l_2 l_4 l_5 l_7 l_9 σ = some p → vz_ev P0 (d + 9) 214 87 lv [] (hp σ) (.inl none, hp p)) ∧ (∀ (l_1 : Int32) (l_2 : Int32) (l_4 : Int32) (l_5 : Int64) (l_7 : Int64) (l_9 : Int32) (σ : st_S) (lv : vz_L) (p : st_S), vz_g lv 0 = some (.ref 66) → vz_g lv 2 = some (.int l_2) → vz_g lv 4 = some (.int l_4) → vz_g lv 9 = some (.int l_9) → vz_nbL (vz_gr P0) lv = true → gR σ 66 9 = g → L_214 N g k 191 l_1 l_2 l_4 l_5 l_7 l_9 σ = some p → vz_ev P0 (d + 9) 214 191 lv [] (hp σ) (.inl none, hp p)) := by
  rcases hg with rfl | rfl
  · intro k
    induction k with
    | zero => exact ⟨(by intro l_1 l_2 l_4 l_5 l_7 l_9 σ lv p g_0 g_1 g_2 g_4 g_5 g_7 g_9 hnb hr_66_9 H; unfold L_214 at H; cases H), (by intro l_1 l_2 l_4 l_5 l_7 l_9 σ lv p g_0 g_2 g_4 g_9 hnb hr_66_9 H; unfold L_214 at H; cases H)⟩
    | succ k ih =>
      refine ⟨?_, ?_⟩
      · intro l_1 l_2 l_4 l_5 l_7 l_9 σ lv p g_0 g_1 g_2 g_4 g_5 g_7 g_9 hnb hr_66_9 H
        unfold L_214 at H
        rw [if_pos rfl] at H
        refine ev_x (i := .iload 9) (len := 2) (p' := 89) (s' := [.int l_9]) rfl rfl (ld_i g_9) ?_
        refine ev_x (i := .aload_n 0) (len := 1) (p' := 90) (s' := [.ref 66, .int l_9]) rfl rfl (ld_a g_0) ?_
        refine ev_gr (p' := 93) (v := 79) rfl rfl rfl ly_66 rfl rfl hr_66_9 ?_
        refine ev_gc (p' := 96) (v := 104) rfl rfl rfl ly_79 rfl rfl ?_
        refine ev_x (i := .iload_n 2) (len := 1) (p' := 97) (s' := [.int l_2, .ref 104, .int l_9]) rfl rfl (ld_i g_2) ?_
        obtain ⟨b_12, H⟩ := F_gd H
        refine ev_ga (p' := 98) (v := (gE (σ) 104 (l_2 : Int32).toNatClampNeg)) rfl rfl ly_104 rfl (gd_in b_12) rfl ?_
        refine F_if H (fun c_13 H => ?_) (fun c_13 H => ?_)
        · refine ev_b2 (t := 130) (p' := 130) rfl rfl rfl (if_pos c_13) ?_
          refine ev_x (i := .lload 7) (len := 2) (p' := 132) (s' := [.long l_7]) rfl rfl (ld_l g_7) ?_
          refine ev_x (i := .lload 5) (len := 2) (p' := 134) (s' := [.long l_5, .long l_7]) rfl rfl (ld_l g_5) ?_
          refine ev_x (i := .lcmp) (len := 1) (p' := 135) (s' := [.int (lg_cmp l_7 l_5)]) rfl rfl rfl ?_
          refine F_if H (fun c_14 H => ?_) (fun c_14 H => ?_)
          · refine ev_b0 (t := 147) (p' := 147) rfl rfl rfl (if_pos c_14) ?_
            refine ev_x (i := .aload_n 0) (len := 1) (p' := 148) (s' := [.ref 66]) rfl rfl (ld_a g_0) ?_
            refine ev_gc (p' := 151) (v := 175) rfl rfl rfl ly_66 rfl rfl ?_
            refine ev_x (i := .iload_n 2) (len := 1) (p' := 152) (s' := [.int l_2, .ref 175]) rfl rfl (ld_i g_2) ?_
            obtain ⟨p_15, G_15, H⟩ := F_bd H
            refine ev_cv (d := d + 8) (As := [.int l_2]) (a := 175) (p' := 155) rfl rfl rfl ly_175 rfl rfl rfl rfl rfl hnb rfl (N_133_ok (d := d + 7) nm_175 G_15) ?_
            refine ev_st (st' := []) rfl ?_
            have e_15 := N_133_R G_15
            refine ev_x (i := .aload_n 0) (len := 1) (p' := 156) (s' := [.ref 66]) rfl rfl (ld_a g_0) ?_
            refine ev_gc (p' := 159) (v := 177) rfl rfl rfl ly_66 rfl rfl ?_
            refine ev_x (i := .aload_n 0) (len := 1) (p' := 160) (s' := [.ref 66, .ref 177]) rfl rfl (ld_a g_0) ?_
            refine ev_gi (p' := 163) (v := (gI p_15 66 38)) rfl rfl rfl ly_66 rfl rfl rfl ?_
            obtain ⟨p_16, G_16, H⟩ := F_bd H
            refine ev_cv (d := d + 8) (As := [.int (gI p_15 66 38)]) (a := 177) (p' := 166) rfl rfl rfl ly_177 rfl rfl rfl rfl rfl hnb rfl (N_133_ok (d := d + 7) nm_177 G_16) ?_
            refine ev_st (st' := []) rfl ?_
            have e_16 := N_133_R G_16
            refine ev_x (i := .aload_n 0) (len := 1) (p' := 167) (s' := [.ref 66]) rfl rfl (ld_a g_0) ?_
            refine ev_gc (p' := 170) (v := 179) rfl rfl rfl ly_66 rfl rfl ?_
            refine ev_x (i := .iconst 0) (len := 1) (p' := 171) (s' := [.int 0, .ref 179]) rfl rfl rfl ?_
            obtain ⟨p_17, G_17, H⟩ := F_bd H
            refine ev_cv (d := d + 8) (As := [.int 0]) (a := 179) (p' := 174) rfl rfl rfl ly_179 rfl rfl rfl rfl rfl hnb rfl (N_133_ok (d := d + 7) nm_179 G_17) ?_
            refine ev_st (st' := []) rfl ?_
            have e_17 := N_133_R G_17
            refine ev_x (i := .aload_n 0) (len := 1) (p' := 175) (s' := [.ref 66]) rfl rfl (ld_a g_0) ?_
            refine ev_gc (p' := 178) (v := 174) rfl rfl rfl ly_66 rfl rfl ?_
            refine ev_x (i := .iload_n 1) (len := 1) (p' := 179) (s' := [.int l_1, .ref 174]) rfl rfl (ld_i g_1) ?_
            refine ev_x (i := .aload_n 0) (len := 1) (p' := 180) (s' := [.ref 66, .int l_1, .ref 174]) rfl rfl (ld_a g_0) ?_
            refine ev_gc (p' := 183) (v := 174) rfl rfl rfl ly_66 rfl rfl ?_
            refine ev_x (i := .iload_n 1) (len := 1) (p' := 184) (s' := [.int l_1, .ref 174, .int l_1, .ref 174]) rfl rfl (ld_i g_1) ?_
            obtain ⟨b_18, H⟩ := F_gd H
            refine ev_ga (p' := 185) (v := (gE (p_17) 174 (l_1 : Int32).toNatClampNeg)) rfl rfl ly_174 rfl (gd_in b_18) rfl ?_
            refine ev_x (i := .iconst 1) (len := 1) (p' := 186) (s' := [.int 1, .int (gE (p_17) 174 (l_1 : Int32).toNatClampNeg), .int l_1, .ref 174]) rfl rfl rfl ?_
            refine ev_x (i := .iadd) (len := 1) (p' := 187) (s' := [.int ((gE (p_17) 174 (l_1 : Int32).toNatClampNeg) + 1), .int l_1, .ref 174]) rfl rfl rfl ?_
            refine ev_pa (j := (l_1 : Int32).toNatClampNeg) (p' := 188) rfl rfl ly_174 rfl (gd_in b_18) rfl ?_
            refine ev_x (i := .iconst 0) (len := 1) (p' := 189) (s' := [.int 0]) rfl rfl rfl ?_
            refine ev_x (i := .istore 9) (len := 2) (p' := 191) (s' := []) (l' := vz_s1 (lv) 9 (.int 0)) rfl rfl rfl ?_
            exact ih.2 _ _ _ _ _ _ _ _ _ (vg_o (i := 9) (v := .int 0) g_0 (by decide) (Or.inl rfl)) (vg_o (i := 9) (v := .int 0) g_2 (by decide) (Or.inl rfl)) (vg_o (i := 9) (v := .int 0) g_4 (by decide) (Or.inl rfl)) (vg_s (lv) 9 (.int 0)) (nb_s1 hnb rfl) ((congrFun (congrFun e_17 66) 9).trans ((congrFun (congrFun e_16 66) 9).trans ((congrFun (congrFun e_15 66) 9).trans hr_66_9))) H
          · refine ev_b0 (t := 147) (p' := 138) rfl rfl rfl (if_neg c_14) ?_
            refine ev_x (i := .aload_n 0) (len := 1) (p' := 139) (s' := [.ref 66]) rfl rfl (ld_a g_0) ?_
            refine ev_x (i := .bipush 11) (len := 2) (p' := 141) (s' := [.int 11, .ref 66]) rfl rfl rfl ?_
            refine ev_x (i := .iload 4) (len := 2) (p' := 143) (s' := [.int l_4, .int 11, .ref 66]) rfl rfl (ld_i g_4) ?_
            obtain ⟨p_19, G_19, H⟩ := F_bd H
            refine ev_cv (d := d + 8) (As := [.int 11, .int l_4]) (a := 66) (p' := 146) rfl rfl rfl ly_66 rfl rfl rfl rfl rfl hnb rfl (F_165_ok (d := d + 7)   G_19) ?_
            refine ev_st (st' := []) rfl ?_
            have e_19 := F_165_R G_19
            obtain rfl := Option.some.inj H
            exact ev_vret rfl rfl rfl
        · refine ev_b2 (t := 130) (p' := 101) rfl rfl rfl (if_neg c_13) ?_
          refine ev_x (i := .lload 7) (len := 2) (p' := 103) (s' := [.long l_7]) rfl rfl (ld_l g_7) ?_
          refine ev_x (i := .aload_n 0) (len := 1) (p' := 104) (s' := [.ref 66, .long l_7]) rfl rfl (ld_a g_0) ?_
          refine ev_gc (p' := 107) (v := 185) rfl rfl rfl ly_66 rfl rfl ?_
          refine ev_x (i := .iload 9) (len := 2) (p' := 109) (s' := [.int l_9, .ref 185, .long l_7]) rfl rfl (ld_i g_9) ?_
          obtain ⟨b_20, H⟩ := F_gd H
          refine ev_gL (p' := 110) (v := (gL (σ) 185 (l_9 : Int32).toNatClampNeg)) rfl rfl ly_185 rfl (gd_in b_20) rfl ?_
          refine ev_x (i := .lload 5) (len := 2) (p' := 112) (s' := [.long l_5, .long (gL (σ) 185 (l_9 : Int32).toNatClampNeg), .long l_7]) rfl rfl (ld_l g_5) ?_
          refine ev_x (i := .aload_n 0) (len := 1) (p' := 113) (s' := [.ref 66, .long l_5, .long (gL (σ) 185 (l_9 : Int32).toNatClampNeg), .long l_7]) rfl rfl (ld_a g_0) ?_
          refine ev_gc (p' := 116) (v := 186) rfl rfl rfl ly_66 rfl rfl ?_
          refine ev_x (i := .iload 9) (len := 2) (p' := 118) (s' := [.int l_9, .ref 186, .long l_5, .long (gL (σ) 185 (l_9 : Int32).toNatClampNeg), .long l_7]) rfl rfl (ld_i g_9) ?_
          obtain ⟨b_21, H⟩ := F_gd H
          refine ev_gL (p' := 119) (v := (gL (σ) 186 (l_9 : Int32).toNatClampNeg)) rfl rfl ly_186 rfl (gd_in b_21) rfl ?_
          obtain ⟨b_22, H⟩ := F_gd H
          refine ev_ldiv (p' := 120) rfl rfl b_22 rfl ?_
          refine ev_x (i := .lmul) (len := 1) (p' := 121) (s' := [.long ((gL (σ) 185 (l_9 : Int32).toNatClampNeg) * (l_5 / (gL (σ) 186 (l_9 : Int32).toNatClampNeg))), .long l_7]) rfl rfl rfl ?_
          refine ev_x (i := .ladd) (len := 1) (p' := 122) (s' := [.long (l_7 + ((gL (σ) 185 (l_9 : Int32).toNatClampNeg) * (l_5 / (gL (σ) 186 (l_9 : Int32).toNatClampNeg))))]) rfl rfl rfl ?_
          refine ev_x (i := .lstore 7) (len := 2) (p' := 124) (s' := []) (l' := vz_s2 (lv) 7 (.long (l_7 + ((gL (σ) 185 (l_9 : Int32).toNatClampNeg) * (l_5 / (gL (σ) 186 (l_9 : Int32).toNatClampNeg)))))) rfl rfl rfl ?_
          refine ev_x (i := .iinc 9 1) (len := 3) (p' := 127) (s' := []) (l' := vz_s1 (vz_s2 (lv) 7 (.long (l_7 + ((gL (σ) 185 (l_9 : Int32).toNatClampNeg) * (l_5 / (gL (σ) 186 (l_9 : Int32).toNatClampNeg)))))) 9 (.int (l_9 + 1))) rfl rfl (ld_inc (vg_o2 (i := 7) (v := .long (l_7 + ((gL (σ) 185 (l_9 : Int32).toNatClampNeg) * (l_5 / (gL (σ) 186 (l_9 : Int32).toNatClampNeg))))) g_9 (by decide) (by decide) (Or.inl rfl)) rfl) ?_
          refine ev_x (i := .goto (-40)) (len := 3) (p' := 87) (s' := []) rfl rfl rfl ?_
          exact ih.1 _ _ _ _ _ _ _ _ _ (vg_o (i := 9) (v := .int (l_9 + 1)) (vg_o2 (i := 7) (v := .long (l_7 + ((gL (σ) 185 (l_9 : Int32).toNatClampNeg) * (l_5 / (gL (σ) 186 (l_9 : Int32).toNatClampNeg))))) g_0 (by decide) (by decide) (Or.inl rfl)) (by decide) (Or.inl rfl)) (vg_o (i := 9) (v := .int (l_9 + 1)) (vg_o2 (i := 7) (v := .long (l_7 + ((gL (σ) 185 (l_9 : Int32).toNatClampNeg) * (l_5 / (gL (σ) 186 (l_9 : Int32).toNatClampNeg))))) g_1 (by decide) (by decide) (Or.inl rfl)) (by decide) (Or.inl rfl)) (vg_o (i := 9) (v := .int (l_9 + 1)) (vg_o2 (i := 7) (v := .long (l_7 + ((gL (σ) 185 (l_9 : Int32).toNatClampNeg) * (l_5 / (gL (σ) 186 (l_9 : Int32).toNatClampNeg))))) g_2 (by decide) (by decide) (Or.inl rfl)) (by decide) (Or.inl rfl)) (vg_o (i := 9) (v := .int (l_9 + 1)) (vg_o2 (i := 7) (v := .long (l_7 + ((gL (σ) 185 (l_9 : Int32).toNatClampNeg) * (l_5 / (gL (σ) 186 (l_9 : Int32).toNatClampNeg))))) g_4 (by decide) (by decide) (Or.inl rfl)) (by decide) (Or.inl rfl)) (vg_o (i := 9) (v := .int (l_9 + 1)) (vg_o2 (i := 7) (v := .long (l_7 + ((gL (σ) 185 (l_9 : Int32).toNatClampNeg) * (l_5 / (gL (σ) 186 (l_9 : Int32).toNatClampNeg))))) g_5 (by decide) (by decide) (Or.inr (by decide))) (by decide) (Or.inr (by decide))) (vg_o (i := 9) (v := .int (l_9 + 1)) (vg_s2 (lv) 7 (.long (l_7 + ((gL (σ) 185 (l_9 : Int32).toNatClampNeg) * (l_5 / (gL (σ) 186 (l_9 : Int32).toNatClampNeg)))))) (by decide) (Or.inr (by decide))) (vg_s (vz_s2 (lv) 7 (.long (l_7 + ((gL (σ) 185 (l_9 : Int32).toNatClampNeg) * (l_5 / (gL (σ) 186 (l_9 : Int32).toNatClampNeg)))))) 9 (.int (l_9 + 1))) (nb_s1 (nb_s2 hnb rfl) rfl) hr_66_9 H
      · intro l_1 l_2 l_4 l_5 l_7 l_9 σ lv p g_0 g_2 g_4 g_9 hnb hr_66_9 H
        unfold L_214 at H
        rw [if_neg (by decide)] at H
        refine ev_x (i := .iload 9) (len := 2) (p' := 193) (s' := [.int l_9]) rfl rfl (ld_i g_9) ?_
        refine ev_x (i := .aload_n 0) (len := 1) (p' := 194) (s' := [.ref 66, .int l_9]) rfl rfl (ld_a g_0) ?_
        refine ev_gr (p' := 197) (v := 79) rfl rfl rfl ly_66 rfl rfl hr_66_9 ?_
        refine ev_gc (p' := 200) (v := 104) rfl rfl rfl ly_79 rfl rfl ?_
        refine ev_x (i := .iload_n 2) (len := 1) (p' := 201) (s' := [.int l_2, .ref 104, .int l_9]) rfl rfl (ld_i g_2) ?_
        obtain ⟨b_23, H⟩ := F_gd H
        refine ev_ga (p' := 202) (v := (gE (σ) 104 (l_2 : Int32).toNatClampNeg)) rfl rfl ly_104 rfl (gd_in b_23) rfl ?_
        refine F_if H (fun c_24 H => ?_) (fun c_24 H => ?_)
        · refine ev_b2 (t := 239) (p' := 239) rfl rfl rfl (if_pos c_24) ?_
          obtain rfl := Option.some.inj H
          exact ev_vret rfl rfl rfl
        · refine ev_b2 (t := 239) (p' := 205) rfl rfl rfl (if_neg c_24) ?_
          refine ev_x (i := .aload_n 0) (len := 1) (p' := 206) (s' := [.ref 66]) rfl rfl (ld_a g_0) ?_
          refine ev_gi (p' := 209) (v := (gI σ 66 16)) rfl rfl rfl ly_66 rfl rfl rfl ?_
          refine F_if H (fun c_25 H => ?_) (fun c_25 H => ?_)
          · refine ev_b0 (t := 239) (p' := 212) rfl rfl rfl (if_neg (fun q => q c_25)) ?_
            refine ev_x (i := .aload_n 0) (len := 1) (p' := 213) (s' := [.ref 66]) rfl rfl (ld_a g_0) ?_
            refine ev_gc (p' := 216) (v := 185) rfl rfl rfl ly_66 rfl rfl ?_
            refine ev_x (i := .iload 9) (len := 2) (p' := 218) (s' := [.int l_9, .ref 185]) rfl rfl (ld_i g_9) ?_
            obtain ⟨b_26, H⟩ := F_gd H
            refine ev_gL (p' := 219) (v := (gL (σ) 185 (l_9 : Int32).toNatClampNeg)) rfl rfl ly_185 rfl (gd_in b_26) rfl ?_
            refine ev_x (i := .lconst 0) (len := 1) (p' := 220) (s' := [.long 0, .long (gL (σ) 185 (l_9 : Int32).toNatClampNeg)]) rfl rfl rfl ?_
            refine ev_x (i := .lcmp) (len := 1) (p' := 221) (s' := [.int (lg_cmp (gL (σ) 185 (l_9 : Int32).toNatClampNeg) 0)]) rfl rfl rfl ?_
            refine F_if H (fun c_27 H => ?_) (fun c_27 H => ?_)
            · refine ev_b0 (t := 233) (p' := 233) rfl rfl rfl (if_pos c_27) ?_
              refine ev_x (i := .iinc 9 1) (len := 3) (p' := 236) (s' := []) (l' := vz_s1 (lv) 9 (.int (l_9 + 1))) rfl rfl (ld_inc g_9 rfl) ?_
              refine ev_x (i := .goto (-45)) (len := 3) (p' := 191) (s' := []) rfl rfl rfl ?_
              exact ih.2 _ _ _ _ _ _ _ _ _ (vg_o (i := 9) (v := .int (l_9 + 1)) g_0 (by decide) (Or.inl rfl)) (vg_o (i := 9) (v := .int (l_9 + 1)) g_2 (by decide) (Or.inl rfl)) (vg_o (i := 9) (v := .int (l_9 + 1)) g_4 (by decide) (Or.inl rfl)) (vg_s (lv) 9 (.int (l_9 + 1))) (nb_s1 hnb rfl) hr_66_9 H
            · refine ev_b0 (t := 233) (p' := 224) rfl rfl rfl (if_neg c_27) ?_
              refine ev_x (i := .aload_n 0) (len := 1) (p' := 225) (s' := [.ref 66]) rfl rfl (ld_a g_0) ?_
              refine ev_x (i := .iload_n 2) (len := 1) (p' := 226) (s' := [.int l_2, .ref 66]) rfl rfl (ld_i g_2) ?_
              refine ev_x (i := .iload 9) (len := 2) (p' := 228) (s' := [.int l_9, .int l_2, .ref 66]) rfl rfl (ld_i g_9) ?_
              refine ev_x (i := .iload 4) (len := 2) (p' := 230) (s' := [.int l_4, .int l_9, .int l_2, .ref 66]) rfl rfl (ld_i g_4) ?_
              obtain ⟨p_28, G_28, H⟩ := F_bd H
              refine ev_cv (d := d + 8) (As := [.int l_2, .int l_9, .int l_4]) (a := 66) (p' := 233) rfl rfl rfl ly_66 rfl rfl rfl rfl rfl hnb rfl (F_216_ok (d := d + 0) (hg := (Or.inl rfl)) (hr_66_9 := hr_66_9) G_28) ?_
              refine ev_st (st' := []) rfl ?_
              have e_28 := F_216_R G_28
              refine ev_x (i := .iinc 9 1) (len := 3) (p' := 236) (s' := []) (l' := vz_s1 (lv) 9 (.int (l_9 + 1))) rfl rfl (ld_inc g_9 rfl) ?_
              refine ev_x (i := .goto (-45)) (len := 3) (p' := 191) (s' := []) rfl rfl rfl ?_
              exact ih.2 _ _ _ _ _ _ _ _ _ (vg_o (i := 9) (v := .int (l_9 + 1)) g_0 (by decide) (Or.inl rfl)) (vg_o (i := 9) (v := .int (l_9 + 1)) g_2 (by decide) (Or.inl rfl)) (vg_o (i := 9) (v := .int (l_9 + 1)) g_4 (by decide) (Or.inl rfl)) (vg_s (lv) 9 (.int (l_9 + 1))) (nb_s1 hnb rfl) ((congrFun (congrFun e_28 66) 9).trans hr_66_9) H
          · refine ev_b0 (t := 239) (p' := 239) rfl rfl rfl (if_pos c_25) ?_
            obtain rfl := Option.some.inj H
            exact ev_vret rfl rfl rfl
  · intro k
    induction k with
    | zero => exact ⟨(by intro l_1 l_2 l_4 l_5 l_7 l_9 σ lv p g_0 g_1 g_2 g_4 g_5 g_7 g_9 hnb hr_66_9 H; unfold L_214 at H; cases H), (by intro l_1 l_2 l_4 l_5 l_7 l_9 σ lv p g_0 g_2 g_4 g_9 hnb hr_66_9 H; unfold L_214 at H; cases H)⟩
    | succ k ih =>
      refine ⟨?_, ?_⟩
      · intro l_1 l_2 l_4 l_5 l_7 l_9 σ lv p g_0 g_1 g_2 g_4 g_5 g_7 g_9 hnb hr_66_9 H
        unfold L_214 at H
        rw [if_pos rfl] at H
        refine ev_x (i := .iload 9) (len := 2) (p' := 89) (s' := [.int l_9]) rfl rfl (ld_i g_9) ?_
        refine ev_x (i := .aload_n 0) (len := 1) (p' := 90) (s' := [.ref 66, .int l_9]) rfl rfl (ld_a g_0) ?_
        refine ev_gr (p' := 93) (v := 115) rfl rfl rfl ly_66 rfl rfl hr_66_9 ?_
        refine ev_gc (p' := 96) (v := 140) rfl rfl rfl ly_115 rfl rfl ?_
        refine ev_x (i := .iload_n 2) (len := 1) (p' := 97) (s' := [.int l_2, .ref 140, .int l_9]) rfl rfl (ld_i g_2) ?_
        obtain ⟨b_12, H⟩ := F_gd H
        refine ev_ga (p' := 98) (v := (gE (σ) 140 (l_2 : Int32).toNatClampNeg)) rfl rfl ly_140 rfl (gd_in b_12) rfl ?_
        refine F_if H (fun c_13 H => ?_) (fun c_13 H => ?_)
        · refine ev_b2 (t := 130) (p' := 130) rfl rfl rfl (if_pos c_13) ?_
          refine ev_x (i := .lload 7) (len := 2) (p' := 132) (s' := [.long l_7]) rfl rfl (ld_l g_7) ?_
          refine ev_x (i := .lload 5) (len := 2) (p' := 134) (s' := [.long l_5, .long l_7]) rfl rfl (ld_l g_5) ?_
          refine ev_x (i := .lcmp) (len := 1) (p' := 135) (s' := [.int (lg_cmp l_7 l_5)]) rfl rfl rfl ?_
          refine F_if H (fun c_14 H => ?_) (fun c_14 H => ?_)
          · refine ev_b0 (t := 147) (p' := 147) rfl rfl rfl (if_pos c_14) ?_
            refine ev_x (i := .aload_n 0) (len := 1) (p' := 148) (s' := [.ref 66]) rfl rfl (ld_a g_0) ?_
            refine ev_gc (p' := 151) (v := 175) rfl rfl rfl ly_66 rfl rfl ?_
            refine ev_x (i := .iload_n 2) (len := 1) (p' := 152) (s' := [.int l_2, .ref 175]) rfl rfl (ld_i g_2) ?_
            obtain ⟨p_15, G_15, H⟩ := F_bd H
            refine ev_cv (d := d + 8) (As := [.int l_2]) (a := 175) (p' := 155) rfl rfl rfl ly_175 rfl rfl rfl rfl rfl hnb rfl (N_133_ok (d := d + 7) nm_175 G_15) ?_
            refine ev_st (st' := []) rfl ?_
            have e_15 := N_133_R G_15
            refine ev_x (i := .aload_n 0) (len := 1) (p' := 156) (s' := [.ref 66]) rfl rfl (ld_a g_0) ?_
            refine ev_gc (p' := 159) (v := 177) rfl rfl rfl ly_66 rfl rfl ?_
            refine ev_x (i := .aload_n 0) (len := 1) (p' := 160) (s' := [.ref 66, .ref 177]) rfl rfl (ld_a g_0) ?_
            refine ev_gi (p' := 163) (v := (gI p_15 66 38)) rfl rfl rfl ly_66 rfl rfl rfl ?_
            obtain ⟨p_16, G_16, H⟩ := F_bd H
            refine ev_cv (d := d + 8) (As := [.int (gI p_15 66 38)]) (a := 177) (p' := 166) rfl rfl rfl ly_177 rfl rfl rfl rfl rfl hnb rfl (N_133_ok (d := d + 7) nm_177 G_16) ?_
            refine ev_st (st' := []) rfl ?_
            have e_16 := N_133_R G_16
            refine ev_x (i := .aload_n 0) (len := 1) (p' := 167) (s' := [.ref 66]) rfl rfl (ld_a g_0) ?_
            refine ev_gc (p' := 170) (v := 179) rfl rfl rfl ly_66 rfl rfl ?_
            refine ev_x (i := .iconst 0) (len := 1) (p' := 171) (s' := [.int 0, .ref 179]) rfl rfl rfl ?_
            obtain ⟨p_17, G_17, H⟩ := F_bd H
            refine ev_cv (d := d + 8) (As := [.int 0]) (a := 179) (p' := 174) rfl rfl rfl ly_179 rfl rfl rfl rfl rfl hnb rfl (N_133_ok (d := d + 7) nm_179 G_17) ?_
            refine ev_st (st' := []) rfl ?_
            have e_17 := N_133_R G_17
            refine ev_x (i := .aload_n 0) (len := 1) (p' := 175) (s' := [.ref 66]) rfl rfl (ld_a g_0) ?_
            refine ev_gc (p' := 178) (v := 174) rfl rfl rfl ly_66 rfl rfl ?_
            refine ev_x (i := .iload_n 1) (len := 1) (p' := 179) (s' := [.int l_1, .ref 174]) rfl rfl (ld_i g_1) ?_
            refine ev_x (i := .aload_n 0) (len := 1) (p' := 180) (s' := [.ref 66, .int l_1, .ref 174]) rfl rfl (ld_a g_0) ?_
            refine ev_gc (p' := 183) (v := 174) rfl rfl rfl ly_66 rfl rfl ?_
            refine ev_x (i := .iload_n 1) (len := 1) (p' := 184) (s' := [.int l_1, .ref 174, .int l_1, .ref 174]) rfl rfl (ld_i g_1) ?_
            obtain ⟨b_18, H⟩ := F_gd H
            refine ev_ga (p' := 185) (v := (gE (p_17) 174 (l_1 : Int32).toNatClampNeg)) rfl rfl ly_174 rfl (gd_in b_18) rfl ?_
            refine ev_x (i := .iconst 1) (len := 1) (p' := 186) (s' := [.int 1, .int (gE (p_17) 174 (l_1 : Int32).toNatClampNeg), .int l_1, .ref 174]) rfl rfl rfl ?_
            refine ev_x (i := .iadd) (len := 1) (p' := 187) (s' := [.int ((gE (p_17) 174 (l_1 : Int32).toNatClampNeg) + 1), .int l_1, .ref 174]) rfl rfl rfl ?_
            refine ev_pa (j := (l_1 : Int32).toNatClampNeg) (p' := 188) rfl rfl ly_174 rfl (gd_in b_18) rfl ?_
            refine ev_x (i := .iconst 0) (len := 1) (p' := 189) (s' := [.int 0]) rfl rfl rfl ?_
            refine ev_x (i := .istore 9) (len := 2) (p' := 191) (s' := []) (l' := vz_s1 (lv) 9 (.int 0)) rfl rfl rfl ?_
            exact ih.2 _ _ _ _ _ _ _ _ _ (vg_o (i := 9) (v := .int 0) g_0 (by decide) (Or.inl rfl)) (vg_o (i := 9) (v := .int 0) g_2 (by decide) (Or.inl rfl)) (vg_o (i := 9) (v := .int 0) g_4 (by decide) (Or.inl rfl)) (vg_s (lv) 9 (.int 0)) (nb_s1 hnb rfl) ((congrFun (congrFun e_17 66) 9).trans ((congrFun (congrFun e_16 66) 9).trans ((congrFun (congrFun e_15 66) 9).trans hr_66_9))) H
          · refine ev_b0 (t := 147) (p' := 138) rfl rfl rfl (if_neg c_14) ?_
            refine ev_x (i := .aload_n 0) (len := 1) (p' := 139) (s' := [.ref 66]) rfl rfl (ld_a g_0) ?_
            refine ev_x (i := .bipush 11) (len := 2) (p' := 141) (s' := [.int 11, .ref 66]) rfl rfl rfl ?_
            refine ev_x (i := .iload 4) (len := 2) (p' := 143) (s' := [.int l_4, .int 11, .ref 66]) rfl rfl (ld_i g_4) ?_
            obtain ⟨p_19, G_19, H⟩ := F_bd H
            refine ev_cv (d := d + 8) (As := [.int 11, .int l_4]) (a := 66) (p' := 146) rfl rfl rfl ly_66 rfl rfl rfl rfl rfl hnb rfl (F_165_ok (d := d + 7)   G_19) ?_
            refine ev_st (st' := []) rfl ?_
            have e_19 := F_165_R G_19
            obtain rfl := Option.some.inj H
            exact ev_vret rfl rfl rfl
        · refine ev_b2 (t := 130) (p' := 101) rfl rfl rfl (if_neg c_13) ?_
          refine ev_x (i := .lload 7) (len := 2) (p' := 103) (s' := [.long l_7]) rfl rfl (ld_l g_7) ?_
          refine ev_x (i := .aload_n 0) (len := 1) (p' := 104) (s' := [.ref 66, .long l_7]) rfl rfl (ld_a g_0) ?_
          refine ev_gc (p' := 107) (v := 185) rfl rfl rfl ly_66 rfl rfl ?_
          refine ev_x (i := .iload 9) (len := 2) (p' := 109) (s' := [.int l_9, .ref 185, .long l_7]) rfl rfl (ld_i g_9) ?_
          obtain ⟨b_20, H⟩ := F_gd H
          refine ev_gL (p' := 110) (v := (gL (σ) 185 (l_9 : Int32).toNatClampNeg)) rfl rfl ly_185 rfl (gd_in b_20) rfl ?_
          refine ev_x (i := .lload 5) (len := 2) (p' := 112) (s' := [.long l_5, .long (gL (σ) 185 (l_9 : Int32).toNatClampNeg), .long l_7]) rfl rfl (ld_l g_5) ?_
          refine ev_x (i := .aload_n 0) (len := 1) (p' := 113) (s' := [.ref 66, .long l_5, .long (gL (σ) 185 (l_9 : Int32).toNatClampNeg), .long l_7]) rfl rfl (ld_a g_0) ?_
          refine ev_gc (p' := 116) (v := 186) rfl rfl rfl ly_66 rfl rfl ?_
          refine ev_x (i := .iload 9) (len := 2) (p' := 118) (s' := [.int l_9, .ref 186, .long l_5, .long (gL (σ) 185 (l_9 : Int32).toNatClampNeg), .long l_7]) rfl rfl (ld_i g_9) ?_
          obtain ⟨b_21, H⟩ := F_gd H
          refine ev_gL (p' := 119) (v := (gL (σ) 186 (l_9 : Int32).toNatClampNeg)) rfl rfl ly_186 rfl (gd_in b_21) rfl ?_
          obtain ⟨b_22, H⟩ := F_gd H
          refine ev_ldiv (p' := 120) rfl rfl b_22 rfl ?_
          refine ev_x (i := .lmul) (len := 1) (p' := 121) (s' := [.long ((gL (σ) 185 (l_9 : Int32).toNatClampNeg) * (l_5 / (gL (σ) 186 (l_9 : Int32).toNatClampNeg))), .long l_7]) rfl rfl rfl ?_
          refine ev_x (i := .ladd) (len := 1) (p' := 122) (s' := [.long (l_7 + ((gL (σ) 185 (l_9 : Int32).toNatClampNeg) * (l_5 / (gL (σ) 186 (l_9 : Int32).toNatClampNeg))))]) rfl rfl rfl ?_
          refine ev_x (i := .lstore 7) (len := 2) (p' := 124) (s' := []) (l' := vz_s2 (lv) 7 (.long (l_7 + ((gL (σ) 185 (l_9 : Int32).toNatClampNeg) * (l_5 / (gL (σ) 186 (l_9 : Int32).toNatClampNeg)))))) rfl rfl rfl ?_
          refine ev_x (i := .iinc 9 1) (len := 3) (p' := 127) (s' := []) (l' := vz_s1 (vz_s2 (lv) 7 (.long (l_7 + ((gL (σ) 185 (l_9 : Int32).toNatClampNeg) * (l_5 / (gL (σ) 186 (l_9 : Int32).toNatClampNeg)))))) 9 (.int (l_9 + 1))) rfl rfl (ld_inc (vg_o2 (i := 7) (v := .long (l_7 + ((gL (σ) 185 (l_9 : Int32).toNatClampNeg) * (l_5 / (gL (σ) 186 (l_9 : Int32).toNatClampNeg))))) g_9 (by decide) (by decide) (Or.inl rfl)) rfl) ?_
          refine ev_x (i := .goto (-40)) (len := 3) (p' := 87) (s' := []) rfl rfl rfl ?_
          exact ih.1 _ _ _ _ _ _ _ _ _ (vg_o (i := 9) (v := .int (l_9 + 1)) (vg_o2 (i := 7) (v := .long (l_7 + ((gL (σ) 185 (l_9 : Int32).toNatClampNeg) * (l_5 / (gL (σ) 186 (l_9 : Int32).toNatClampNeg))))) g_0 (by decide) (by decide) (Or.inl rfl)) (by decide) (Or.inl rfl)) (vg_o (i := 9) (v := .int (l_9 + 1)) (vg_o2 (i := 7) (v := .long (l_7 + ((gL (σ) 185 (l_9 : Int32).toNatClampNeg) * (l_5 / (gL (σ) 186 (l_9 : Int32).toNatClampNeg))))) g_1 (by decide) (by decide) (Or.inl rfl)) (by decide) (Or.inl rfl)) (vg_o (i := 9) (v := .int (l_9 + 1)) (vg_o2 (i := 7) (v := .long (l_7 + ((gL (σ) 185 (l_9 : Int32).toNatClampNeg) * (l_5 / (gL (σ) 186 (l_9 : Int32).toNatClampNeg))))) g_2 (by decide) (by decide) (Or.inl rfl)) (by decide) (Or.inl rfl)) (vg_o (i := 9) (v := .int (l_9 + 1)) (vg_o2 (i := 7) (v := .long (l_7 + ((gL (σ) 185 (l_9 : Int32).toNatClampNeg) * (l_5 / (gL (σ) 186 (l_9 : Int32).toNatClampNeg))))) g_4 (by decide) (by decide) (Or.inl rfl)) (by decide) (Or.inl rfl)) (vg_o (i := 9) (v := .int (l_9 + 1)) (vg_o2 (i := 7) (v := .long (l_7 + ((gL (σ) 185 (l_9 : Int32).toNatClampNeg) * (l_5 / (gL (σ) 186 (l_9 : Int32).toNatClampNeg))))) g_5 (by decide) (by decide) (Or.inr (by decide))) (by decide) (Or.inr (by decide))) (vg_o (i := 9) (v := .int (l_9 + 1)) (vg_s2 (lv) 7 (.long (l_7 + ((gL (σ) 185 (l_9 : Int32).toNatClampNeg) * (l_5 / (gL (σ) 186 (l_9 : Int32).toNatClampNeg)))))) (by decide) (Or.inr (by decide))) (vg_s (vz_s2 (lv) 7 (.long (l_7 + ((gL (σ) 185 (l_9 : Int32).toNatClampNeg) * (l_5 / (gL (σ) 186 (l_9 : Int32).toNatClampNeg)))))) 9 (.int (l_9 + 1))) (nb_s1 (nb_s2 hnb rfl) rfl) hr_66_9 H
      · intro l_1 l_2 l_4 l_5 l_7 l_9 σ lv p g_0 g_2 g_4 g_9 hnb hr_66_9 H
        unfold L_214 at H
        rw [if_neg (by decide)] at H
        refine ev_x (i := .iload 9) (len := 2) (p' := 193) (s' := [.int l_9]) rfl rfl (ld_i g_9) ?_
        refine ev_x (i := .aload_n 0) (len := 1) (p' := 194) (s' := [.ref 66, .int l_9]) rfl rfl (ld_a g_0) ?_
        refine ev_gr (p' := 197) (v := 115) rfl rfl rfl ly_66 rfl rfl hr_66_9 ?_
        refine ev_gc (p' := 200) (v := 140) rfl rfl rfl ly_115 rfl rfl ?_
        refine ev_x (i := .iload_n 2) (len := 1) (p' := 201) (s' := [.int l_2, .ref 140, .int l_9]) rfl rfl (ld_i g_2) ?_
        obtain ⟨b_23, H⟩ := F_gd H
        refine ev_ga (p' := 202) (v := (gE (σ) 140 (l_2 : Int32).toNatClampNeg)) rfl rfl ly_140 rfl (gd_in b_23) rfl ?_
        refine F_if H (fun c_24 H => ?_) (fun c_24 H => ?_)
        · refine ev_b2 (t := 239) (p' := 239) rfl rfl rfl (if_pos c_24) ?_
          obtain rfl := Option.some.inj H
          exact ev_vret rfl rfl rfl
        · refine ev_b2 (t := 239) (p' := 205) rfl rfl rfl (if_neg c_24) ?_
          refine ev_x (i := .aload_n 0) (len := 1) (p' := 206) (s' := [.ref 66]) rfl rfl (ld_a g_0) ?_
          refine ev_gi (p' := 209) (v := (gI σ 66 16)) rfl rfl rfl ly_66 rfl rfl rfl ?_
          refine F_if H (fun c_25 H => ?_) (fun c_25 H => ?_)
          · refine ev_b0 (t := 239) (p' := 212) rfl rfl rfl (if_neg (fun q => q c_25)) ?_
            refine ev_x (i := .aload_n 0) (len := 1) (p' := 213) (s' := [.ref 66]) rfl rfl (ld_a g_0) ?_
            refine ev_gc (p' := 216) (v := 185) rfl rfl rfl ly_66 rfl rfl ?_
            refine ev_x (i := .iload 9) (len := 2) (p' := 218) (s' := [.int l_9, .ref 185]) rfl rfl (ld_i g_9) ?_
            obtain ⟨b_26, H⟩ := F_gd H
            refine ev_gL (p' := 219) (v := (gL (σ) 185 (l_9 : Int32).toNatClampNeg)) rfl rfl ly_185 rfl (gd_in b_26) rfl ?_
            refine ev_x (i := .lconst 0) (len := 1) (p' := 220) (s' := [.long 0, .long (gL (σ) 185 (l_9 : Int32).toNatClampNeg)]) rfl rfl rfl ?_
            refine ev_x (i := .lcmp) (len := 1) (p' := 221) (s' := [.int (lg_cmp (gL (σ) 185 (l_9 : Int32).toNatClampNeg) 0)]) rfl rfl rfl ?_
            refine F_if H (fun c_27 H => ?_) (fun c_27 H => ?_)
            · refine ev_b0 (t := 233) (p' := 233) rfl rfl rfl (if_pos c_27) ?_
              refine ev_x (i := .iinc 9 1) (len := 3) (p' := 236) (s' := []) (l' := vz_s1 (lv) 9 (.int (l_9 + 1))) rfl rfl (ld_inc g_9 rfl) ?_
              refine ev_x (i := .goto (-45)) (len := 3) (p' := 191) (s' := []) rfl rfl rfl ?_
              exact ih.2 _ _ _ _ _ _ _ _ _ (vg_o (i := 9) (v := .int (l_9 + 1)) g_0 (by decide) (Or.inl rfl)) (vg_o (i := 9) (v := .int (l_9 + 1)) g_2 (by decide) (Or.inl rfl)) (vg_o (i := 9) (v := .int (l_9 + 1)) g_4 (by decide) (Or.inl rfl)) (vg_s (lv) 9 (.int (l_9 + 1))) (nb_s1 hnb rfl) hr_66_9 H
            · refine ev_b0 (t := 233) (p' := 224) rfl rfl rfl (if_neg c_27) ?_
              refine ev_x (i := .aload_n 0) (len := 1) (p' := 225) (s' := [.ref 66]) rfl rfl (ld_a g_0) ?_
              refine ev_x (i := .iload_n 2) (len := 1) (p' := 226) (s' := [.int l_2, .ref 66]) rfl rfl (ld_i g_2) ?_
              refine ev_x (i := .iload 9) (len := 2) (p' := 228) (s' := [.int l_9, .int l_2, .ref 66]) rfl rfl (ld_i g_9) ?_
              refine ev_x (i := .iload 4) (len := 2) (p' := 230) (s' := [.int l_4, .int l_9, .int l_2, .ref 66]) rfl rfl (ld_i g_4) ?_
              obtain ⟨p_28, G_28, H⟩ := F_bd H
              refine ev_cv (d := d + 8) (As := [.int l_2, .int l_9, .int l_4]) (a := 66) (p' := 233) rfl rfl rfl ly_66 rfl rfl rfl rfl rfl hnb rfl (F_216_ok (d := d + 0) (hg := (Or.inr rfl)) (hr_66_9 := hr_66_9) G_28) ?_
              refine ev_st (st' := []) rfl ?_
              have e_28 := F_216_R G_28
              refine ev_x (i := .iinc 9 1) (len := 3) (p' := 236) (s' := []) (l' := vz_s1 (lv) 9 (.int (l_9 + 1))) rfl rfl (ld_inc g_9 rfl) ?_
              refine ev_x (i := .goto (-45)) (len := 3) (p' := 191) (s' := []) rfl rfl rfl ?_
              exact ih.2 _ _ _ _ _ _ _ _ _ (vg_o (i := 9) (v := .int (l_9 + 1)) g_0 (by decide) (Or.inl rfl)) (vg_o (i := 9) (v := .int (l_9 + 1)) g_2 (by decide) (Or.inl rfl)) (vg_o (i := 9) (v := .int (l_9 + 1)) g_4 (by decide) (Or.inl rfl)) (vg_s (lv) 9 (.int (l_9 + 1))) (nb_s1 hnb rfl) ((congrFun (congrFun e_28 66) 9).trans hr_66_9) H
          · refine ev_b0 (t := 239) (p' := 239) rfl rfl rfl (if_pos c_25) ?_
            obtain rfl := Option.some.inj H
            exact ev_vret rfl rfl rfl
/-- GameTextModel.enabled(II)V -/
def F_214 (N : Nat) (g : Nat) (x_1 : Int32) (x_2 : Int32) (σ : st_S) : Option (st_S) :=
  if aB x_2 (gN σ (g + 22)) then
  if aB x_2 (gN σ (g + 23)) then
  if aB x_1 (gN σ 172) then
  if (gE (σ) 172 (x_1 : Int32).toNatClampNeg) = 0 then
    (F_215 N g x_2 (gE (σ) (g + 23) (x_2 : Int32).toNatClampNeg) (st_e (σ) 172 ((x_1 : Int32).toNatClampNeg) (if (gE (σ) (g + 22) (x_2 : Int32).toNatClampNeg) = 0 then 1 else 2 : Int32))).bind fun p_6 =>
    if (gI p_6.2 66 16) = 0 then
      L_214 N g N 87 x_1 x_2 (gE (σ) (g + 23) (x_2 : Int32).toNatClampNeg) p_6.1 0 0 (p_6.2)
    else
      some (p_6.2)
  else
    if (gE (σ) 172 (x_1 : Int32).toNatClampNeg) = (if (gE (σ) (g + 22) (x_2 : Int32).toNatClampNeg) = 0 then 1 else 2 : Int32) then
      (F_215 N g x_2 (gE (σ) (g + 23) (x_2 : Int32).toNatClampNeg) (st_e (σ) 172 ((x_1 : Int32).toNatClampNeg) (if (gE (σ) (g + 22) (x_2 : Int32).toNatClampNeg) = 0 then 1 else 2 : Int32))).bind fun p_9 =>
      if (gI p_9.2 66 16) = 0 then
        L_214 N g N 87 x_1 x_2 (gE (σ) (g + 23) (x_2 : Int32).toNatClampNeg) p_9.1 0 0 (p_9.2)
      else
        some (p_9.2)
    else
      (F_165 N 13 (gE (σ) (g + 23) (x_2 : Int32).toNatClampNeg) (σ)).bind fun p_11 =>
      some (p_11)
  else none
  else none
  else none
set_option maxRecDepth 100000 in
theorem F_214_R {N : Nat} {g : Nat} {x_1 : Int32} {x_2 : Int32} {σ : st_S} {p : st_S} (H : F_214 N g x_1 x_2 σ = some p) : gR p = gR σ := by
  unfold F_214 at H
  obtain ⟨_, H⟩ := F_gd H
  obtain ⟨_, H⟩ := F_gd H
  obtain ⟨_, H⟩ := F_gd H
  refine F_if H (fun _ H => ?_) (fun _ H => ?_)
  · obtain ⟨p_6, G_6, H⟩ := F_bd H
    refine F_if H (fun _ H => ?_) (fun _ H => ?_)
    · exact (((L_214_R _ _ _ _ _ _ _ _ _ _ H)).trans ((F_215_R G_6).trans rfl))
    · obtain rfl := Option.some.inj H
      exact ((F_215_R G_6).trans rfl)
  · refine F_if H (fun _ H => ?_) (fun _ H => ?_)
    · obtain ⟨p_9, G_9, H⟩ := F_bd H
      refine F_if H (fun _ H => ?_) (fun _ H => ?_)
      · exact (((L_214_R _ _ _ _ _ _ _ _ _ _ H)).trans ((F_215_R G_9).trans rfl))
      · obtain rfl := Option.some.inj H
        exact ((F_215_R G_9).trans rfl)
    · obtain ⟨p_11, G_11, H⟩ := F_bd H
      obtain rfl := Option.some.inj H
      exact ((F_165_R G_11).trans rfl)
set_option maxHeartbeats 4000000 in
set_option maxRecDepth 100000 in
theorem F_214_ok {N d : Nat} {g : Nat} (hg : g = 79 ∨ g = 115) {x_1 : Int32} {x_2 : Int32} {σ : st_S} {p : st_S} (hr_66_9 : gR σ 66 9 = g) (H : F_214 N g x_1 x_2 σ = some p) : vz_ev P0 (d + 9) 214 0 (lv_args 0 [.ref 66, .int x_1, .int x_2]) [] (hp σ) (.inl none, hp p) := by
  unfold F_214 at H
  rcases hg with rfl | rfl
  · refine ev_x (i := .aload_n 0) (len := 1) (p' := 1) (s' := [.ref 66]) rfl rfl rfl ?_
    refine ev_gr (p' := 4) (v := 79) rfl rfl rfl ly_66 rfl rfl hr_66_9 ?_
    refine ev_gc (p' := 7) (v := 101) rfl rfl rfl ly_79 rfl rfl ?_
    refine ev_x (i := .iload_n 2) (len := 1) (p' := 8) (s' := [.int x_2, .ref 101]) rfl rfl rfl ?_
    obtain ⟨b_1, H⟩ := F_gd H
    refine ev_gb (p' := 9) (v := (gE (σ) 101 (x_2 : Int32).toNatClampNeg)) rfl rfl ly_101 rfl (gd_in b_1) rfl ?_
    refine F_jn (A := vz_ev P0 (d + 9) 214 17 [(0, .ref 66), (1, .int x_1), (2, .int x_2)] [.int (if (gE (σ) 101 (x_2 : Int32).toNatClampNeg) = 0 then 1 else 2 : Int32)] (hp (σ)) (.inl none, hp p)) ?_ (fun J => ?_)
    · refine ev_x (i := .istore_n 3) (len := 1) (p' := 18) (s' := []) (l' := [(3, .int (if (gE (σ) 101 (x_2 : Int32).toNatClampNeg) = 0 then 1 else 2 : Int32)), (0, .ref 66), (1, .int x_1), (2, .int x_2)]) rfl rfl rfl ?_
      refine ev_x (i := .aload_n 0) (len := 1) (p' := 19) (s' := [.ref 66]) rfl rfl rfl ?_
      refine ev_gr (p' := 22) (v := 79) rfl rfl rfl ly_66 rfl rfl hr_66_9 ?_
      refine ev_gc (p' := 25) (v := 102) rfl rfl rfl ly_79 rfl rfl ?_
      refine ev_x (i := .iload_n 2) (len := 1) (p' := 26) (s' := [.int x_2, .ref 102]) rfl rfl rfl ?_
      obtain ⟨b_3, H⟩ := F_gd H
      refine ev_ga (p' := 27) (v := (gE (σ) 102 (x_2 : Int32).toNatClampNeg)) rfl rfl ly_102 rfl (gd_in b_3) rfl ?_
      refine ev_x (i := .istore 4) (len := 2) (p' := 29) (s' := []) (l' := [(4, .int (gE (σ) 102 (x_2 : Int32).toNatClampNeg)), (3, .int (if (gE (σ) 101 (x_2 : Int32).toNatClampNeg) = 0 then 1 else 2 : Int32)), (0, .ref 66), (1, .int x_1), (2, .int x_2)]) rfl rfl rfl ?_
      refine ev_x (i := .aload_n 0) (len := 1) (p' := 30) (s' := [.ref 66]) rfl rfl rfl ?_
      refine ev_gc (p' := 33) (v := 172) rfl rfl rfl ly_66 rfl rfl ?_
      refine ev_x (i := .iload_n 1) (len := 1) (p' := 34) (s' := [.int x_1, .ref 172]) rfl rfl rfl ?_
      obtain ⟨b_4, H⟩ := F_gd H
      refine ev_ga (p' := 35) (v := (gE (σ) 172 (x_1 : Int32).toNatClampNeg)) rfl rfl ly_172 rfl (gd_in b_4) rfl ?_
      refine F_if H (fun c_5 H => ?_) (fun c_5 H => ?_)
      · refine ev_b0 (t := 57) (p' := 57) rfl rfl rfl (if_pos c_5) ?_
        refine ev_x (i := .aload_n 0) (len := 1) (p' := 58) (s' := [.ref 66]) rfl rfl rfl ?_
        refine ev_gc (p' := 61) (v := 172) rfl rfl rfl ly_66 rfl rfl ?_
        refine ev_x (i := .iload_n 1) (len := 1) (p' := 62) (s' := [.int x_1, .ref 172]) rfl rfl rfl ?_
        refine ev_x (i := .iload_n 3) (len := 1) (p' := 63) (s' := [.int (if (gE (σ) 101 (x_2 : Int32).toNatClampNeg) = 0 then 1 else 2 : Int32), .int x_1, .ref 172]) rfl rfl rfl ?_
        refine ev_pa (j := (x_1 : Int32).toNatClampNeg) (p' := 64) rfl rfl ly_172 rfl (gd_in b_4) rfl ?_
        refine ev_x (i := .aload_n 0) (len := 1) (p' := 65) (s' := [.ref 66]) rfl rfl rfl ?_
        refine ev_x (i := .iload_n 2) (len := 1) (p' := 66) (s' := [.int x_2, .ref 66]) rfl rfl rfl ?_
        refine ev_x (i := .iload 4) (len := 2) (p' := 68) (s' := [.int (gE (σ) 102 (x_2 : Int32).toNatClampNeg), .int x_2, .ref 66]) rfl rfl rfl ?_
        obtain ⟨p_6, G_6, H⟩ := F_bd H
        refine ev_cv (d := d + 8) (As := [.int x_2, .int (gE (σ) 102 (x_2 : Int32).toNatClampNeg)]) (a := 66) (p' := 71) rfl rfl rfl ly_66 rfl rfl rfl rfl rfl rfl rfl (F_215_ok (d := d + 1) (hg := (Or.inl rfl)) (hr_66_9 := hr_66_9) G_6) ?_
        refine ev_st (st' := [.long p_6.1]) rfl ?_
        have e_6 := F_215_R G_6
        refine ev_x (i := .lstore 5) (len := 2) (p' := 73) (s' := []) (l' := [(5, .long p_6.1), (4, .int (gE (σ) 102 (x_2 : Int32).toNatClampNeg)), (3, .int (if (gE (σ) 101 (x_2 : Int32).toNatClampNeg) = 0 then 1 else 2 : Int32)), (0, .ref 66), (1, .int x_1), (2, .int x_2)]) rfl rfl rfl ?_
        refine ev_x (i := .aload_n 0) (len := 1) (p' := 74) (s' := [.ref 66]) rfl rfl rfl ?_
        refine ev_gi (p' := 77) (v := (gI p_6.2 66 16)) rfl rfl rfl ly_66 rfl rfl rfl ?_
        refine F_if H (fun c_7 H => ?_) (fun c_7 H => ?_)
        · refine ev_b0 (t := 81) (p' := 81) rfl rfl rfl (if_pos c_7) ?_
          refine ev_x (i := .lconst 0) (len := 1) (p' := 82) (s' := [.long 0]) rfl rfl rfl ?_
          refine ev_x (i := .lstore 7) (len := 2) (p' := 84) (s' := []) (l' := [(7, .long 0), (5, .long p_6.1), (4, .int (gE (σ) 102 (x_2 : Int32).toNatClampNeg)), (3, .int (if (gE (σ) 101 (x_2 : Int32).toNatClampNeg) = 0 then 1 else 2 : Int32)), (0, .ref 66), (1, .int x_1), (2, .int x_2)]) rfl rfl rfl ?_
          refine ev_x (i := .iconst 0) (len := 1) (p' := 85) (s' := [.int 0]) rfl rfl rfl ?_
          refine ev_x (i := .istore 9) (len := 2) (p' := 87) (s' := []) (l' := [(9, .int 0), (7, .long 0), (5, .long p_6.1), (4, .int (gE (σ) 102 (x_2 : Int32).toNatClampNeg)), (3, .int (if (gE (σ) 101 (x_2 : Int32).toNatClampNeg) = 0 then 1 else 2 : Int32)), (0, .ref 66), (1, .int x_1), (2, .int x_2)]) rfl rfl rfl ?_
          exact (L_214_ok (d := d) (Or.inl rfl) N).1 _ _ _ _ _ _ _ _ _ rfl rfl rfl rfl rfl rfl rfl rfl ((congrFun (congrFun e_6 66) 9).trans hr_66_9) H
        · refine ev_b0 (t := 81) (p' := 80) rfl rfl rfl (if_neg c_7) ?_
          obtain rfl := Option.some.inj H
          exact ev_vret rfl rfl rfl
      · refine ev_b0 (t := 57) (p' := 38) rfl rfl rfl (if_neg c_5) ?_
        refine ev_x (i := .aload_n 0) (len := 1) (p' := 39) (s' := [.ref 66]) rfl rfl rfl ?_
        refine ev_gc (p' := 42) (v := 172) rfl rfl rfl ly_66 rfl rfl ?_
        refine ev_x (i := .iload_n 1) (len := 1) (p' := 43) (s' := [.int x_1, .ref 172]) rfl rfl rfl ?_
        refine ev_ga (p' := 44) (v := (gE (σ) 172 (x_1 : Int32).toNatClampNeg)) rfl rfl ly_172 rfl (gd_in b_4) rfl ?_
        refine ev_x (i := .iload_n 3) (len := 1) (p' := 45) (s' := [.int (if (gE (σ) 101 (x_2 : Int32).toNatClampNeg) = 0 then 1 else 2 : Int32), .int (gE (σ) 172 (x_1 : Int32).toNatClampNeg)]) rfl rfl rfl ?_
        refine F_if H (fun c_8 H => ?_) (fun c_8 H => ?_)
        · refine ev_b2 (t := 57) (p' := 57) rfl rfl rfl (if_pos c_8) ?_
          refine ev_x (i := .aload_n 0) (len := 1) (p' := 58) (s' := [.ref 66]) rfl rfl rfl ?_
          refine ev_gc (p' := 61) (v := 172) rfl rfl rfl ly_66 rfl rfl ?_
          refine ev_x (i := .iload_n 1) (len := 1) (p' := 62) (s' := [.int x_1, .ref 172]) rfl rfl rfl ?_
          refine ev_x (i := .iload_n 3) (len := 1) (p' := 63) (s' := [.int (if (gE (σ) 101 (x_2 : Int32).toNatClampNeg) = 0 then 1 else 2 : Int32), .int x_1, .ref 172]) rfl rfl rfl ?_
          refine ev_pa (j := (x_1 : Int32).toNatClampNeg) (p' := 64) rfl rfl ly_172 rfl (gd_in b_4) rfl ?_
          refine ev_x (i := .aload_n 0) (len := 1) (p' := 65) (s' := [.ref 66]) rfl rfl rfl ?_
          refine ev_x (i := .iload_n 2) (len := 1) (p' := 66) (s' := [.int x_2, .ref 66]) rfl rfl rfl ?_
          refine ev_x (i := .iload 4) (len := 2) (p' := 68) (s' := [.int (gE (σ) 102 (x_2 : Int32).toNatClampNeg), .int x_2, .ref 66]) rfl rfl rfl ?_
          obtain ⟨p_9, G_9, H⟩ := F_bd H
          refine ev_cv (d := d + 8) (As := [.int x_2, .int (gE (σ) 102 (x_2 : Int32).toNatClampNeg)]) (a := 66) (p' := 71) rfl rfl rfl ly_66 rfl rfl rfl rfl rfl rfl rfl (F_215_ok (d := d + 1) (hg := (Or.inl rfl)) (hr_66_9 := hr_66_9) G_9) ?_
          refine ev_st (st' := [.long p_9.1]) rfl ?_
          have e_9 := F_215_R G_9
          refine ev_x (i := .lstore 5) (len := 2) (p' := 73) (s' := []) (l' := [(5, .long p_9.1), (4, .int (gE (σ) 102 (x_2 : Int32).toNatClampNeg)), (3, .int (if (gE (σ) 101 (x_2 : Int32).toNatClampNeg) = 0 then 1 else 2 : Int32)), (0, .ref 66), (1, .int x_1), (2, .int x_2)]) rfl rfl rfl ?_
          refine ev_x (i := .aload_n 0) (len := 1) (p' := 74) (s' := [.ref 66]) rfl rfl rfl ?_
          refine ev_gi (p' := 77) (v := (gI p_9.2 66 16)) rfl rfl rfl ly_66 rfl rfl rfl ?_
          refine F_if H (fun c_10 H => ?_) (fun c_10 H => ?_)
          · refine ev_b0 (t := 81) (p' := 81) rfl rfl rfl (if_pos c_10) ?_
            refine ev_x (i := .lconst 0) (len := 1) (p' := 82) (s' := [.long 0]) rfl rfl rfl ?_
            refine ev_x (i := .lstore 7) (len := 2) (p' := 84) (s' := []) (l' := [(7, .long 0), (5, .long p_9.1), (4, .int (gE (σ) 102 (x_2 : Int32).toNatClampNeg)), (3, .int (if (gE (σ) 101 (x_2 : Int32).toNatClampNeg) = 0 then 1 else 2 : Int32)), (0, .ref 66), (1, .int x_1), (2, .int x_2)]) rfl rfl rfl ?_
            refine ev_x (i := .iconst 0) (len := 1) (p' := 85) (s' := [.int 0]) rfl rfl rfl ?_
            refine ev_x (i := .istore 9) (len := 2) (p' := 87) (s' := []) (l' := [(9, .int 0), (7, .long 0), (5, .long p_9.1), (4, .int (gE (σ) 102 (x_2 : Int32).toNatClampNeg)), (3, .int (if (gE (σ) 101 (x_2 : Int32).toNatClampNeg) = 0 then 1 else 2 : Int32)), (0, .ref 66), (1, .int x_1), (2, .int x_2)]) rfl rfl rfl ?_
            exact (L_214_ok (d := d) (Or.inl rfl) N).1 _ _ _ _ _ _ _ _ _ rfl rfl rfl rfl rfl rfl rfl rfl ((congrFun (congrFun e_9 66) 9).trans hr_66_9) H
          · refine ev_b0 (t := 81) (p' := 80) rfl rfl rfl (if_neg c_10) ?_
            obtain rfl := Option.some.inj H
            exact ev_vret rfl rfl rfl
        · refine ev_b2 (t := 57) (p' := 48) rfl rfl rfl (if_neg c_8) ?_
          refine ev_x (i := .aload_n 0) (len := 1) (p' := 49) (s' := [.ref 66]) rfl rfl rfl ?_
          refine ev_x (i := .bipush 13) (len := 2) (p' := 51) (s' := [.int 13, .ref 66]) rfl rfl rfl ?_
          refine ev_x (i := .iload 4) (len := 2) (p' := 53) (s' := [.int (gE (σ) 102 (x_2 : Int32).toNatClampNeg), .int 13, .ref 66]) rfl rfl rfl ?_
          obtain ⟨p_11, G_11, H⟩ := F_bd H
          refine ev_cv (d := d + 8) (As := [.int 13, .int (gE (σ) 102 (x_2 : Int32).toNatClampNeg)]) (a := 66) (p' := 56) rfl rfl rfl ly_66 rfl rfl rfl rfl rfl rfl rfl (F_165_ok (d := d + 7)   G_11) ?_
          refine ev_st (st' := []) rfl ?_
          have e_11 := F_165_R G_11
          obtain rfl := Option.some.inj H
          exact ev_vret rfl rfl rfl
    · by_cases c_2 : (gE (σ) 101 (x_2 : Int32).toNatClampNeg) = 0
      · refine ev_b0 (t := 16) (p' := 16) rfl rfl rfl (if_pos c_2) ?_
        refine ev_x (i := .iconst 1) (len := 1) (p' := 17) (s' := [.int 1]) rfl rfl rfl ?_
        exact ev_st (congrArg (fun z => Value.int z :: []) (by rw [if_pos c_2])) J
      · refine ev_b0 (t := 16) (p' := 12) rfl rfl rfl (if_neg c_2) ?_
        refine ev_x (i := .iconst 2) (len := 1) (p' := 13) (s' := [.int 2]) rfl rfl rfl ?_
        refine ev_x (i := .goto 4) (len := 3) (p' := 17) (s' := [.int 2]) rfl rfl rfl ?_
        exact ev_st (congrArg (fun z => Value.int z :: []) (by rw [if_neg c_2])) J
  · refine ev_x (i := .aload_n 0) (len := 1) (p' := 1) (s' := [.ref 66]) rfl rfl rfl ?_
    refine ev_gr (p' := 4) (v := 115) rfl rfl rfl ly_66 rfl rfl hr_66_9 ?_
    refine ev_gc (p' := 7) (v := 137) rfl rfl rfl ly_115 rfl rfl ?_
    refine ev_x (i := .iload_n 2) (len := 1) (p' := 8) (s' := [.int x_2, .ref 137]) rfl rfl rfl ?_
    obtain ⟨b_1, H⟩ := F_gd H
    refine ev_gb (p' := 9) (v := (gE (σ) 137 (x_2 : Int32).toNatClampNeg)) rfl rfl ly_137 rfl (gd_in b_1) rfl ?_
    refine F_jn (A := vz_ev P0 (d + 9) 214 17 [(0, .ref 66), (1, .int x_1), (2, .int x_2)] [.int (if (gE (σ) 137 (x_2 : Int32).toNatClampNeg) = 0 then 1 else 2 : Int32)] (hp (σ)) (.inl none, hp p)) ?_ (fun J => ?_)
    · refine ev_x (i := .istore_n 3) (len := 1) (p' := 18) (s' := []) (l' := [(3, .int (if (gE (σ) 137 (x_2 : Int32).toNatClampNeg) = 0 then 1 else 2 : Int32)), (0, .ref 66), (1, .int x_1), (2, .int x_2)]) rfl rfl rfl ?_
      refine ev_x (i := .aload_n 0) (len := 1) (p' := 19) (s' := [.ref 66]) rfl rfl rfl ?_
      refine ev_gr (p' := 22) (v := 115) rfl rfl rfl ly_66 rfl rfl hr_66_9 ?_
      refine ev_gc (p' := 25) (v := 138) rfl rfl rfl ly_115 rfl rfl ?_
      refine ev_x (i := .iload_n 2) (len := 1) (p' := 26) (s' := [.int x_2, .ref 138]) rfl rfl rfl ?_
      obtain ⟨b_3, H⟩ := F_gd H
      refine ev_ga (p' := 27) (v := (gE (σ) 138 (x_2 : Int32).toNatClampNeg)) rfl rfl ly_138 rfl (gd_in b_3) rfl ?_
      refine ev_x (i := .istore 4) (len := 2) (p' := 29) (s' := []) (l' := [(4, .int (gE (σ) 138 (x_2 : Int32).toNatClampNeg)), (3, .int (if (gE (σ) 137 (x_2 : Int32).toNatClampNeg) = 0 then 1 else 2 : Int32)), (0, .ref 66), (1, .int x_1), (2, .int x_2)]) rfl rfl rfl ?_
      refine ev_x (i := .aload_n 0) (len := 1) (p' := 30) (s' := [.ref 66]) rfl rfl rfl ?_
      refine ev_gc (p' := 33) (v := 172) rfl rfl rfl ly_66 rfl rfl ?_
      refine ev_x (i := .iload_n 1) (len := 1) (p' := 34) (s' := [.int x_1, .ref 172]) rfl rfl rfl ?_
      obtain ⟨b_4, H⟩ := F_gd H
      refine ev_ga (p' := 35) (v := (gE (σ) 172 (x_1 : Int32).toNatClampNeg)) rfl rfl ly_172 rfl (gd_in b_4) rfl ?_
      refine F_if H (fun c_5 H => ?_) (fun c_5 H => ?_)
      · refine ev_b0 (t := 57) (p' := 57) rfl rfl rfl (if_pos c_5) ?_
        refine ev_x (i := .aload_n 0) (len := 1) (p' := 58) (s' := [.ref 66]) rfl rfl rfl ?_
        refine ev_gc (p' := 61) (v := 172) rfl rfl rfl ly_66 rfl rfl ?_
        refine ev_x (i := .iload_n 1) (len := 1) (p' := 62) (s' := [.int x_1, .ref 172]) rfl rfl rfl ?_
        refine ev_x (i := .iload_n 3) (len := 1) (p' := 63) (s' := [.int (if (gE (σ) 137 (x_2 : Int32).toNatClampNeg) = 0 then 1 else 2 : Int32), .int x_1, .ref 172]) rfl rfl rfl ?_
        refine ev_pa (j := (x_1 : Int32).toNatClampNeg) (p' := 64) rfl rfl ly_172 rfl (gd_in b_4) rfl ?_
        refine ev_x (i := .aload_n 0) (len := 1) (p' := 65) (s' := [.ref 66]) rfl rfl rfl ?_
        refine ev_x (i := .iload_n 2) (len := 1) (p' := 66) (s' := [.int x_2, .ref 66]) rfl rfl rfl ?_
        refine ev_x (i := .iload 4) (len := 2) (p' := 68) (s' := [.int (gE (σ) 138 (x_2 : Int32).toNatClampNeg), .int x_2, .ref 66]) rfl rfl rfl ?_
        obtain ⟨p_6, G_6, H⟩ := F_bd H
        refine ev_cv (d := d + 8) (As := [.int x_2, .int (gE (σ) 138 (x_2 : Int32).toNatClampNeg)]) (a := 66) (p' := 71) rfl rfl rfl ly_66 rfl rfl rfl rfl rfl rfl rfl (F_215_ok (d := d + 1) (hg := (Or.inr rfl)) (hr_66_9 := hr_66_9) G_6) ?_
        refine ev_st (st' := [.long p_6.1]) rfl ?_
        have e_6 := F_215_R G_6
        refine ev_x (i := .lstore 5) (len := 2) (p' := 73) (s' := []) (l' := [(5, .long p_6.1), (4, .int (gE (σ) 138 (x_2 : Int32).toNatClampNeg)), (3, .int (if (gE (σ) 137 (x_2 : Int32).toNatClampNeg) = 0 then 1 else 2 : Int32)), (0, .ref 66), (1, .int x_1), (2, .int x_2)]) rfl rfl rfl ?_
        refine ev_x (i := .aload_n 0) (len := 1) (p' := 74) (s' := [.ref 66]) rfl rfl rfl ?_
        refine ev_gi (p' := 77) (v := (gI p_6.2 66 16)) rfl rfl rfl ly_66 rfl rfl rfl ?_
        refine F_if H (fun c_7 H => ?_) (fun c_7 H => ?_)
        · refine ev_b0 (t := 81) (p' := 81) rfl rfl rfl (if_pos c_7) ?_
          refine ev_x (i := .lconst 0) (len := 1) (p' := 82) (s' := [.long 0]) rfl rfl rfl ?_
          refine ev_x (i := .lstore 7) (len := 2) (p' := 84) (s' := []) (l' := [(7, .long 0), (5, .long p_6.1), (4, .int (gE (σ) 138 (x_2 : Int32).toNatClampNeg)), (3, .int (if (gE (σ) 137 (x_2 : Int32).toNatClampNeg) = 0 then 1 else 2 : Int32)), (0, .ref 66), (1, .int x_1), (2, .int x_2)]) rfl rfl rfl ?_
          refine ev_x (i := .iconst 0) (len := 1) (p' := 85) (s' := [.int 0]) rfl rfl rfl ?_
          refine ev_x (i := .istore 9) (len := 2) (p' := 87) (s' := []) (l' := [(9, .int 0), (7, .long 0), (5, .long p_6.1), (4, .int (gE (σ) 138 (x_2 : Int32).toNatClampNeg)), (3, .int (if (gE (σ) 137 (x_2 : Int32).toNatClampNeg) = 0 then 1 else 2 : Int32)), (0, .ref 66), (1, .int x_1), (2, .int x_2)]) rfl rfl rfl ?_
          exact (L_214_ok (d := d) (Or.inr rfl) N).1 _ _ _ _ _ _ _ _ _ rfl rfl rfl rfl rfl rfl rfl rfl ((congrFun (congrFun e_6 66) 9).trans hr_66_9) H
        · refine ev_b0 (t := 81) (p' := 80) rfl rfl rfl (if_neg c_7) ?_
          obtain rfl := Option.some.inj H
          exact ev_vret rfl rfl rfl
      · refine ev_b0 (t := 57) (p' := 38) rfl rfl rfl (if_neg c_5) ?_
        refine ev_x (i := .aload_n 0) (len := 1) (p' := 39) (s' := [.ref 66]) rfl rfl rfl ?_
        refine ev_gc (p' := 42) (v := 172) rfl rfl rfl ly_66 rfl rfl ?_
        refine ev_x (i := .iload_n 1) (len := 1) (p' := 43) (s' := [.int x_1, .ref 172]) rfl rfl rfl ?_
        refine ev_ga (p' := 44) (v := (gE (σ) 172 (x_1 : Int32).toNatClampNeg)) rfl rfl ly_172 rfl (gd_in b_4) rfl ?_
        refine ev_x (i := .iload_n 3) (len := 1) (p' := 45) (s' := [.int (if (gE (σ) 137 (x_2 : Int32).toNatClampNeg) = 0 then 1 else 2 : Int32), .int (gE (σ) 172 (x_1 : Int32).toNatClampNeg)]) rfl rfl rfl ?_
        refine F_if H (fun c_8 H => ?_) (fun c_8 H => ?_)
        · refine ev_b2 (t := 57) (p' := 57) rfl rfl rfl (if_pos c_8) ?_
          refine ev_x (i := .aload_n 0) (len := 1) (p' := 58) (s' := [.ref 66]) rfl rfl rfl ?_
          refine ev_gc (p' := 61) (v := 172) rfl rfl rfl ly_66 rfl rfl ?_
          refine ev_x (i := .iload_n 1) (len := 1) (p' := 62) (s' := [.int x_1, .ref 172]) rfl rfl rfl ?_
          refine ev_x (i := .iload_n 3) (len := 1) (p' := 63) (s' := [.int (if (gE (σ) 137 (x_2 : Int32).toNatClampNeg) = 0 then 1 else 2 : Int32), .int x_1, .ref 172]) rfl rfl rfl ?_
          refine ev_pa (j := (x_1 : Int32).toNatClampNeg) (p' := 64) rfl rfl ly_172 rfl (gd_in b_4) rfl ?_
          refine ev_x (i := .aload_n 0) (len := 1) (p' := 65) (s' := [.ref 66]) rfl rfl rfl ?_
          refine ev_x (i := .iload_n 2) (len := 1) (p' := 66) (s' := [.int x_2, .ref 66]) rfl rfl rfl ?_
          refine ev_x (i := .iload 4) (len := 2) (p' := 68) (s' := [.int (gE (σ) 138 (x_2 : Int32).toNatClampNeg), .int x_2, .ref 66]) rfl rfl rfl ?_
          obtain ⟨p_9, G_9, H⟩ := F_bd H
          refine ev_cv (d := d + 8) (As := [.int x_2, .int (gE (σ) 138 (x_2 : Int32).toNatClampNeg)]) (a := 66) (p' := 71) rfl rfl rfl ly_66 rfl rfl rfl rfl rfl rfl rfl (F_215_ok (d := d + 1) (hg := (Or.inr rfl)) (hr_66_9 := hr_66_9) G_9) ?_
          refine ev_st (st' := [.long p_9.1]) rfl ?_
          have e_9 := F_215_R G_9
          refine ev_x (i := .lstore 5) (len := 2) (p' := 73) (s' := []) (l' := [(5, .long p_9.1), (4, .int (gE (σ) 138 (x_2 : Int32).toNatClampNeg)), (3, .int (if (gE (σ) 137 (x_2 : Int32).toNatClampNeg) = 0 then 1 else 2 : Int32)), (0, .ref 66), (1, .int x_1), (2, .int x_2)]) rfl rfl rfl ?_
          refine ev_x (i := .aload_n 0) (len := 1) (p' := 74) (s' := [.ref 66]) rfl rfl rfl ?_
          refine ev_gi (p' := 77) (v := (gI p_9.2 66 16)) rfl rfl rfl ly_66 rfl rfl rfl ?_
          refine F_if H (fun c_10 H => ?_) (fun c_10 H => ?_)
          · refine ev_b0 (t := 81) (p' := 81) rfl rfl rfl (if_pos c_10) ?_
            refine ev_x (i := .lconst 0) (len := 1) (p' := 82) (s' := [.long 0]) rfl rfl rfl ?_
            refine ev_x (i := .lstore 7) (len := 2) (p' := 84) (s' := []) (l' := [(7, .long 0), (5, .long p_9.1), (4, .int (gE (σ) 138 (x_2 : Int32).toNatClampNeg)), (3, .int (if (gE (σ) 137 (x_2 : Int32).toNatClampNeg) = 0 then 1 else 2 : Int32)), (0, .ref 66), (1, .int x_1), (2, .int x_2)]) rfl rfl rfl ?_
            refine ev_x (i := .iconst 0) (len := 1) (p' := 85) (s' := [.int 0]) rfl rfl rfl ?_
            refine ev_x (i := .istore 9) (len := 2) (p' := 87) (s' := []) (l' := [(9, .int 0), (7, .long 0), (5, .long p_9.1), (4, .int (gE (σ) 138 (x_2 : Int32).toNatClampNeg)), (3, .int (if (gE (σ) 137 (x_2 : Int32).toNatClampNeg) = 0 then 1 else 2 : Int32)), (0, .ref 66), (1, .int x_1), (2, .int x_2)]) rfl rfl rfl ?_
            exact (L_214_ok (d := d) (Or.inr rfl) N).1 _ _ _ _ _ _ _ _ _ rfl rfl rfl rfl rfl rfl rfl rfl ((congrFun (congrFun e_9 66) 9).trans hr_66_9) H
          · refine ev_b0 (t := 81) (p' := 80) rfl rfl rfl (if_neg c_10) ?_
            obtain rfl := Option.some.inj H
            exact ev_vret rfl rfl rfl
        · refine ev_b2 (t := 57) (p' := 48) rfl rfl rfl (if_neg c_8) ?_
          refine ev_x (i := .aload_n 0) (len := 1) (p' := 49) (s' := [.ref 66]) rfl rfl rfl ?_
          refine ev_x (i := .bipush 13) (len := 2) (p' := 51) (s' := [.int 13, .ref 66]) rfl rfl rfl ?_
          refine ev_x (i := .iload 4) (len := 2) (p' := 53) (s' := [.int (gE (σ) 138 (x_2 : Int32).toNatClampNeg), .int 13, .ref 66]) rfl rfl rfl ?_
          obtain ⟨p_11, G_11, H⟩ := F_bd H
          refine ev_cv (d := d + 8) (As := [.int 13, .int (gE (σ) 138 (x_2 : Int32).toNatClampNeg)]) (a := 66) (p' := 56) rfl rfl rfl ly_66 rfl rfl rfl rfl rfl rfl rfl (F_165_ok (d := d + 7)   G_11) ?_
          refine ev_st (st' := []) rfl ?_
          have e_11 := F_165_R G_11
          obtain rfl := Option.some.inj H
          exact ev_vret rfl rfl rfl
    · by_cases c_2 : (gE (σ) 137 (x_2 : Int32).toNatClampNeg) = 0
      · refine ev_b0 (t := 16) (p' := 16) rfl rfl rfl (if_pos c_2) ?_
        refine ev_x (i := .iconst 1) (len := 1) (p' := 17) (s' := [.int 1]) rfl rfl rfl ?_
        exact ev_st (congrArg (fun z => Value.int z :: []) (by rw [if_pos c_2])) J
      · refine ev_b0 (t := 16) (p' := 12) rfl rfl rfl (if_neg c_2) ?_
        refine ev_x (i := .iconst 2) (len := 1) (p' := 13) (s' := [.int 2]) rfl rfl rfl ?_
        refine ev_x (i := .goto 4) (len := 3) (p' := 17) (s' := [.int 2]) rfl rfl rfl ?_
        exact ev_st (congrArg (fun z => Value.int z :: []) (by rw [if_neg c_2])) J
/-- GameTextModel.state(I)V, its loops -/
def L_211 (N : Nat) (g : Nat) : Nat → Int32 → Int32 → st_S → Option (st_S)
  | 0, _, _, _ => none
  | k + 1, l_1, l_2, σ =>
      if (gI σ g 18) ≤ l_2 then
        some (σ)
      else
        if (gI σ 66 16) = 0 then
          if aB l_2 (gN σ (g + 24)) then
          (F_213 N g (gE (σ) (g + 24) (l_2 : Int32).toNatClampNeg) (σ)).bind fun p_13 =>
          if (gI p_13 66 16) = 0 then
            if aB 0 (gN p_13 163) then
            if (lg_cmp (gL (p_13) 163 (0 : Int32).toNatClampNeg) 1) = 0 then
              (F_214 N g l_1 l_2 (p_13)).bind fun p_17 =>
              L_211 N g k l_1 (l_2 + 1) (p_17)
            else
              L_211 N g k l_1 (l_2 + 1) (p_13)
            else none
          else
            L_211 N g k l_1 (l_2 + 1) (p_13)
          else none
        else
          some (σ)
set_option maxRecDepth 100000 in
theorem L_211_R {N : Nat} {g : Nat} : ∀ (k : Nat) (l_1 : Int32) (l_2 : Int32) (σ : st_S) (p : st_S), L_211 N g k l_1 l_2 σ = some p → gR p = gR σ := by
  intro k
  induction k with
  | zero => intro l_1 l_2 σ p H; unfold L_211 at H; cases H
  | succ k ih =>
    intro l_1 l_2 σ p H
    unfold L_211 at H
    refine F_if H (fun _ H => ?_) (fun _ H => ?_)
    · obtain rfl := Option.some.inj H
      exact rfl
    · refine F_if H (fun _ H => ?_) (fun _ H => ?_)
      · obtain ⟨_, H⟩ := F_gd H
        obtain ⟨p_13, G_13, H⟩ := F_bd H
        refine F_if H (fun _ H => ?_) (fun _ H => ?_)
        · obtain ⟨_, H⟩ := F_gd H
          refine F_if H (fun _ H => ?_) (fun _ H => ?_)
          · obtain ⟨p_17, G_17, H⟩ := F_bd H
            exact (((ih _ _ _ _ H)).trans ((F_214_R G_17).trans ((F_213_R G_13).trans rfl)))
          · exact (((ih _ _ _ _ H)).trans ((F_213_R G_13).trans rfl))
        · exact (((ih _ _ _ _ H)).trans ((F_213_R G_13).trans rfl))
      · obtain rfl := Option.some.inj H
        exact rfl
set_option maxHeartbeats 4000000 in
set_option maxRecDepth 100000 in
theorem L_211_ok {N d : Nat} {g : Nat} (hg : g = 79 ∨ g = 115) : ∀ k : Nat, ∀ (l_1 : Int32) (l_2 : Int32) (σ : st_S) (lv : vz_L) (p : st_S), vz_g lv 0 = some (.ref 66) → vz_g lv 1 = some (.int l_1) → vz_g lv 2 = some (.int l_2) → vz_nbL (vz_gr P0) lv = true → gR σ 66 9 = g → L_211 N g k l_1 l_2 σ = some p → vz_ev P0 (d + 10) 211 72 lv [] (hp σ) (.inl none, hp p) := by
  rcases hg with rfl | rfl
  · intro k
    induction k with
    | zero => intro l_1 l_2 σ lv p g_0 g_1 g_2 hnb hr_66_9 H; unfold L_211 at H; cases H
    | succ k ih =>
      intro l_1 l_2 σ lv p g_0 g_1 g_2 hnb hr_66_9 H
      unfold L_211 at H
      refine ev_x (i := .iload_n 2) (len := 1) (p' := 73) (s' := [.int l_2]) rfl rfl (ld_i g_2) ?_
      refine ev_x (i := .aload_n 0) (len := 1) (p' := 74) (s' := [.ref 66, .int l_2]) rfl rfl (ld_a g_0) ?_
      refine ev_gr (p' := 77) (v := 79) rfl rfl rfl ly_66 rfl rfl hr_66_9 ?_
      refine ev_gi (p' := 80) (v := (gI σ 79 18)) rfl rfl rfl ly_79 rfl rfl rfl ?_
      refine F_if H (fun c_10 H => ?_) (fun c_10 H => ?_)
      · refine ev_b2 (t := 133) (p' := 133) rfl rfl rfl (if_pos c_10) ?_
        obtain rfl := Option.some.inj H
        exact ev_vret rfl rfl rfl
      · refine ev_b2 (t := 133) (p' := 83) rfl rfl rfl (if_neg c_10) ?_
        refine ev_x (i := .aload_n 0) (len := 1) (p' := 84) (s' := [.ref 66]) rfl rfl (ld_a g_0) ?_
        refine ev_gi (p' := 87) (v := (gI σ 66 16)) rfl rfl rfl ly_66 rfl rfl rfl ?_
        refine F_if H (fun c_11 H => ?_) (fun c_11 H => ?_)
        · refine ev_b0 (t := 133) (p' := 90) rfl rfl rfl (if_neg (fun q => q c_11)) ?_
          refine ev_x (i := .aload_n 0) (len := 1) (p' := 91) (s' := [.ref 66]) rfl rfl (ld_a g_0) ?_
          refine ev_x (i := .aload_n 0) (len := 1) (p' := 92) (s' := [.ref 66, .ref 66]) rfl rfl (ld_a g_0) ?_
          refine ev_gr (p' := 95) (v := 79) rfl rfl rfl ly_66 rfl rfl hr_66_9 ?_
          refine ev_gc (p' := 98) (v := 103) rfl rfl rfl ly_79 rfl rfl ?_
          refine ev_x (i := .iload_n 2) (len := 1) (p' := 99) (s' := [.int l_2, .ref 103, .ref 66]) rfl rfl (ld_i g_2) ?_
          obtain ⟨b_12, H⟩ := F_gd H
          refine ev_ga (p' := 100) (v := (gE (σ) 103 (l_2 : Int32).toNatClampNeg)) rfl rfl ly_103 rfl (gd_in b_12) rfl ?_
          obtain ⟨p_13, G_13, H⟩ := F_bd H
          refine ev_cv (d := d + 9) (As := [.int (gE (σ) 103 (l_2 : Int32).toNatClampNeg)]) (a := 66) (p' := 103) rfl rfl rfl ly_66 rfl rfl rfl rfl rfl hnb rfl (F_213_ok (d := d + 3) (hg := (Or.inl rfl)) (hr_66_9 := hr_66_9) G_13) ?_
          refine ev_st (st' := []) rfl ?_
          have e_13 := F_213_R G_13
          refine ev_x (i := .aload_n 0) (len := 1) (p' := 104) (s' := [.ref 66]) rfl rfl (ld_a g_0) ?_
          refine ev_gi (p' := 107) (v := (gI p_13 66 16)) rfl rfl rfl ly_66 rfl rfl rfl ?_
          refine F_if H (fun c_14 H => ?_) (fun c_14 H => ?_)
          · refine ev_b0 (t := 127) (p' := 110) rfl rfl rfl (if_neg (fun q => q c_14)) ?_
            refine ev_x (i := .aload_n 0) (len := 1) (p' := 111) (s' := [.ref 66]) rfl rfl (ld_a g_0) ?_
            refine ev_gc (p' := 114) (v := 163) rfl rfl rfl ly_66 rfl rfl ?_
            refine ev_x (i := .iconst 0) (len := 1) (p' := 115) (s' := [.int 0, .ref 163]) rfl rfl rfl ?_
            obtain ⟨b_15, H⟩ := F_gd H
            refine ev_gL (p' := 116) (v := (gL (p_13) 163 (0 : Int32).toNatClampNeg)) rfl rfl ly_163 rfl (gd_in b_15) rfl ?_
            refine ev_x (i := .lconst 1) (len := 1) (p' := 117) (s' := [.long 1, .long (gL (p_13) 163 (0 : Int32).toNatClampNeg)]) rfl rfl rfl ?_
            refine ev_x (i := .lcmp) (len := 1) (p' := 118) (s' := [.int (lg_cmp (gL (p_13) 163 (0 : Int32).toNatClampNeg) 1)]) rfl rfl rfl ?_
            refine F_if H (fun c_16 H => ?_) (fun c_16 H => ?_)
            · refine ev_b0 (t := 127) (p' := 121) rfl rfl rfl (if_neg (fun q => q c_16)) ?_
              refine ev_x (i := .aload_n 0) (len := 1) (p' := 122) (s' := [.ref 66]) rfl rfl (ld_a g_0) ?_
              refine ev_x (i := .iload_n 1) (len := 1) (p' := 123) (s' := [.int l_1, .ref 66]) rfl rfl (ld_i g_1) ?_
              refine ev_x (i := .iload_n 2) (len := 1) (p' := 124) (s' := [.int l_2, .int l_1, .ref 66]) rfl rfl (ld_i g_2) ?_
              obtain ⟨p_17, G_17, H⟩ := F_bd H
              refine ev_cv (d := d + 9) (As := [.int l_1, .int l_2]) (a := 66) (p' := 127) rfl rfl rfl ly_66 rfl rfl rfl rfl rfl hnb rfl (F_214_ok (d := d + 0) (hg := (Or.inl rfl)) (hr_66_9 := ((congrFun (congrFun e_13 66) 9).trans hr_66_9)) G_17) ?_
              refine ev_st (st' := []) rfl ?_
              have e_17 := F_214_R G_17
              refine ev_x (i := .iinc 2 1) (len := 3) (p' := 130) (s' := []) (l' := vz_s1 (lv) 2 (.int (l_2 + 1))) rfl rfl (ld_inc g_2 rfl) ?_
              refine ev_x (i := .goto (-58)) (len := 3) (p' := 72) (s' := []) rfl rfl rfl ?_
              exact ih _ _ _ _ _ (vg_o (i := 2) (v := .int (l_2 + 1)) g_0 (by decide) (Or.inl rfl)) (vg_o (i := 2) (v := .int (l_2 + 1)) g_1 (by decide) (Or.inl rfl)) (vg_s (lv) 2 (.int (l_2 + 1))) (nb_s1 hnb rfl) ((congrFun (congrFun e_17 66) 9).trans ((congrFun (congrFun e_13 66) 9).trans hr_66_9)) H
            · refine ev_b0 (t := 127) (p' := 127) rfl rfl rfl (if_pos c_16) ?_
              refine ev_x (i := .iinc 2 1) (len := 3) (p' := 130) (s' := []) (l' := vz_s1 (lv) 2 (.int (l_2 + 1))) rfl rfl (ld_inc g_2 rfl) ?_
              refine ev_x (i := .goto (-58)) (len := 3) (p' := 72) (s' := []) rfl rfl rfl ?_
              exact ih _ _ _ _ _ (vg_o (i := 2) (v := .int (l_2 + 1)) g_0 (by decide) (Or.inl rfl)) (vg_o (i := 2) (v := .int (l_2 + 1)) g_1 (by decide) (Or.inl rfl)) (vg_s (lv) 2 (.int (l_2 + 1))) (nb_s1 hnb rfl) ((congrFun (congrFun e_13 66) 9).trans hr_66_9) H
          · refine ev_b0 (t := 127) (p' := 127) rfl rfl rfl (if_pos c_14) ?_
            refine ev_x (i := .iinc 2 1) (len := 3) (p' := 130) (s' := []) (l' := vz_s1 (lv) 2 (.int (l_2 + 1))) rfl rfl (ld_inc g_2 rfl) ?_
            refine ev_x (i := .goto (-58)) (len := 3) (p' := 72) (s' := []) rfl rfl rfl ?_
            exact ih _ _ _ _ _ (vg_o (i := 2) (v := .int (l_2 + 1)) g_0 (by decide) (Or.inl rfl)) (vg_o (i := 2) (v := .int (l_2 + 1)) g_1 (by decide) (Or.inl rfl)) (vg_s (lv) 2 (.int (l_2 + 1))) (nb_s1 hnb rfl) ((congrFun (congrFun e_13 66) 9).trans hr_66_9) H
        · refine ev_b0 (t := 133) (p' := 133) rfl rfl rfl (if_pos c_11) ?_
          obtain rfl := Option.some.inj H
          exact ev_vret rfl rfl rfl
  · intro k
    induction k with
    | zero => intro l_1 l_2 σ lv p g_0 g_1 g_2 hnb hr_66_9 H; unfold L_211 at H; cases H
    | succ k ih =>
      intro l_1 l_2 σ lv p g_0 g_1 g_2 hnb hr_66_9 H
      unfold L_211 at H
      refine ev_x (i := .iload_n 2) (len := 1) (p' := 73) (s' := [.int l_2]) rfl rfl (ld_i g_2) ?_
      refine ev_x (i := .aload_n 0) (len := 1) (p' := 74) (s' := [.ref 66, .int l_2]) rfl rfl (ld_a g_0) ?_
      refine ev_gr (p' := 77) (v := 115) rfl rfl rfl ly_66 rfl rfl hr_66_9 ?_
      refine ev_gi (p' := 80) (v := (gI σ 115 18)) rfl rfl rfl ly_115 rfl rfl rfl ?_
      refine F_if H (fun c_10 H => ?_) (fun c_10 H => ?_)
      · refine ev_b2 (t := 133) (p' := 133) rfl rfl rfl (if_pos c_10) ?_
        obtain rfl := Option.some.inj H
        exact ev_vret rfl rfl rfl
      · refine ev_b2 (t := 133) (p' := 83) rfl rfl rfl (if_neg c_10) ?_
        refine ev_x (i := .aload_n 0) (len := 1) (p' := 84) (s' := [.ref 66]) rfl rfl (ld_a g_0) ?_
        refine ev_gi (p' := 87) (v := (gI σ 66 16)) rfl rfl rfl ly_66 rfl rfl rfl ?_
        refine F_if H (fun c_11 H => ?_) (fun c_11 H => ?_)
        · refine ev_b0 (t := 133) (p' := 90) rfl rfl rfl (if_neg (fun q => q c_11)) ?_
          refine ev_x (i := .aload_n 0) (len := 1) (p' := 91) (s' := [.ref 66]) rfl rfl (ld_a g_0) ?_
          refine ev_x (i := .aload_n 0) (len := 1) (p' := 92) (s' := [.ref 66, .ref 66]) rfl rfl (ld_a g_0) ?_
          refine ev_gr (p' := 95) (v := 115) rfl rfl rfl ly_66 rfl rfl hr_66_9 ?_
          refine ev_gc (p' := 98) (v := 139) rfl rfl rfl ly_115 rfl rfl ?_
          refine ev_x (i := .iload_n 2) (len := 1) (p' := 99) (s' := [.int l_2, .ref 139, .ref 66]) rfl rfl (ld_i g_2) ?_
          obtain ⟨b_12, H⟩ := F_gd H
          refine ev_ga (p' := 100) (v := (gE (σ) 139 (l_2 : Int32).toNatClampNeg)) rfl rfl ly_139 rfl (gd_in b_12) rfl ?_
          obtain ⟨p_13, G_13, H⟩ := F_bd H
          refine ev_cv (d := d + 9) (As := [.int (gE (σ) 139 (l_2 : Int32).toNatClampNeg)]) (a := 66) (p' := 103) rfl rfl rfl ly_66 rfl rfl rfl rfl rfl hnb rfl (F_213_ok (d := d + 3) (hg := (Or.inr rfl)) (hr_66_9 := hr_66_9) G_13) ?_
          refine ev_st (st' := []) rfl ?_
          have e_13 := F_213_R G_13
          refine ev_x (i := .aload_n 0) (len := 1) (p' := 104) (s' := [.ref 66]) rfl rfl (ld_a g_0) ?_
          refine ev_gi (p' := 107) (v := (gI p_13 66 16)) rfl rfl rfl ly_66 rfl rfl rfl ?_
          refine F_if H (fun c_14 H => ?_) (fun c_14 H => ?_)
          · refine ev_b0 (t := 127) (p' := 110) rfl rfl rfl (if_neg (fun q => q c_14)) ?_
            refine ev_x (i := .aload_n 0) (len := 1) (p' := 111) (s' := [.ref 66]) rfl rfl (ld_a g_0) ?_
            refine ev_gc (p' := 114) (v := 163) rfl rfl rfl ly_66 rfl rfl ?_
            refine ev_x (i := .iconst 0) (len := 1) (p' := 115) (s' := [.int 0, .ref 163]) rfl rfl rfl ?_
            obtain ⟨b_15, H⟩ := F_gd H
            refine ev_gL (p' := 116) (v := (gL (p_13) 163 (0 : Int32).toNatClampNeg)) rfl rfl ly_163 rfl (gd_in b_15) rfl ?_
            refine ev_x (i := .lconst 1) (len := 1) (p' := 117) (s' := [.long 1, .long (gL (p_13) 163 (0 : Int32).toNatClampNeg)]) rfl rfl rfl ?_
            refine ev_x (i := .lcmp) (len := 1) (p' := 118) (s' := [.int (lg_cmp (gL (p_13) 163 (0 : Int32).toNatClampNeg) 1)]) rfl rfl rfl ?_
            refine F_if H (fun c_16 H => ?_) (fun c_16 H => ?_)
            · refine ev_b0 (t := 127) (p' := 121) rfl rfl rfl (if_neg (fun q => q c_16)) ?_
              refine ev_x (i := .aload_n 0) (len := 1) (p' := 122) (s' := [.ref 66]) rfl rfl (ld_a g_0) ?_
              refine ev_x (i := .iload_n 1) (len := 1) (p' := 123) (s' := [.int l_1, .ref 66]) rfl rfl (ld_i g_1) ?_
              refine ev_x (i := .iload_n 2) (len := 1) (p' := 124) (s' := [.int l_2, .int l_1, .ref 66]) rfl rfl (ld_i g_2) ?_
              obtain ⟨p_17, G_17, H⟩ := F_bd H
              refine ev_cv (d := d + 9) (As := [.int l_1, .int l_2]) (a := 66) (p' := 127) rfl rfl rfl ly_66 rfl rfl rfl rfl rfl hnb rfl (F_214_ok (d := d + 0) (hg := (Or.inr rfl)) (hr_66_9 := ((congrFun (congrFun e_13 66) 9).trans hr_66_9)) G_17) ?_
              refine ev_st (st' := []) rfl ?_
              have e_17 := F_214_R G_17
              refine ev_x (i := .iinc 2 1) (len := 3) (p' := 130) (s' := []) (l' := vz_s1 (lv) 2 (.int (l_2 + 1))) rfl rfl (ld_inc g_2 rfl) ?_
              refine ev_x (i := .goto (-58)) (len := 3) (p' := 72) (s' := []) rfl rfl rfl ?_
              exact ih _ _ _ _ _ (vg_o (i := 2) (v := .int (l_2 + 1)) g_0 (by decide) (Or.inl rfl)) (vg_o (i := 2) (v := .int (l_2 + 1)) g_1 (by decide) (Or.inl rfl)) (vg_s (lv) 2 (.int (l_2 + 1))) (nb_s1 hnb rfl) ((congrFun (congrFun e_17 66) 9).trans ((congrFun (congrFun e_13 66) 9).trans hr_66_9)) H
            · refine ev_b0 (t := 127) (p' := 127) rfl rfl rfl (if_pos c_16) ?_
              refine ev_x (i := .iinc 2 1) (len := 3) (p' := 130) (s' := []) (l' := vz_s1 (lv) 2 (.int (l_2 + 1))) rfl rfl (ld_inc g_2 rfl) ?_
              refine ev_x (i := .goto (-58)) (len := 3) (p' := 72) (s' := []) rfl rfl rfl ?_
              exact ih _ _ _ _ _ (vg_o (i := 2) (v := .int (l_2 + 1)) g_0 (by decide) (Or.inl rfl)) (vg_o (i := 2) (v := .int (l_2 + 1)) g_1 (by decide) (Or.inl rfl)) (vg_s (lv) 2 (.int (l_2 + 1))) (nb_s1 hnb rfl) ((congrFun (congrFun e_13 66) 9).trans hr_66_9) H
          · refine ev_b0 (t := 127) (p' := 127) rfl rfl rfl (if_pos c_14) ?_
            refine ev_x (i := .iinc 2 1) (len := 3) (p' := 130) (s' := []) (l' := vz_s1 (lv) 2 (.int (l_2 + 1))) rfl rfl (ld_inc g_2 rfl) ?_
            refine ev_x (i := .goto (-58)) (len := 3) (p' := 72) (s' := []) rfl rfl rfl ?_
            exact ih _ _ _ _ _ (vg_o (i := 2) (v := .int (l_2 + 1)) g_0 (by decide) (Or.inl rfl)) (vg_o (i := 2) (v := .int (l_2 + 1)) g_1 (by decide) (Or.inl rfl)) (vg_s (lv) 2 (.int (l_2 + 1))) (nb_s1 hnb rfl) ((congrFun (congrFun e_13 66) 9).trans hr_66_9) H
        · refine ev_b0 (t := 133) (p' := 133) rfl rfl rfl (if_pos c_11) ?_
          obtain rfl := Option.some.inj H
          exact ev_vret rfl rfl rfl
/-- GameTextModel.state(I)V -/
def F_211 (N : Nat) (g : Nat) (x_1 : Int32) (σ : st_S) : Option (st_S) :=
  (F_212 N g x_1 (σ)).bind fun p_1 =>
  if aB x_1 (gN p_1 172) then
  if aB x_1 (gN p_1 173) then
  if aB x_1 (gN p_1 174) then
  (F_213 N g (gI p_1 g 17) (st_e (st_e (st_e (p_1) 172 ((x_1 : Int32).toNatClampNeg) 0) 173 ((x_1 : Int32).toNatClampNeg) (gI p_1 175 1)) 174 ((x_1 : Int32).toNatClampNeg) 0)).bind fun p_5 =>
  if (gI p_5 66 16) = 0 then
    if aB 0 (gN p_5 163) then
    if (lg_cmp (gL (p_5) 163 (0 : Int32).toNatClampNeg) 1) = 0 then
      if aB x_1 (gN p_5 172) then
      some (st_e (p_5) 172 ((x_1 : Int32).toNatClampNeg) 3)
      else none
    else
      L_211 N g N x_1 0 (p_5)
    else none
  else
    some (p_5)
  else none
  else none
  else none
set_option maxRecDepth 100000 in
theorem F_211_R {N : Nat} {g : Nat} {x_1 : Int32} {σ : st_S} {p : st_S} (H : F_211 N g x_1 σ = some p) : gR p = gR σ := by
  unfold F_211 at H
  obtain ⟨p_1, G_1, H⟩ := F_bd H
  obtain ⟨_, H⟩ := F_gd H
  obtain ⟨_, H⟩ := F_gd H
  obtain ⟨_, H⟩ := F_gd H
  obtain ⟨p_5, G_5, H⟩ := F_bd H
  refine F_if H (fun _ H => ?_) (fun _ H => ?_)
  · obtain ⟨_, H⟩ := F_gd H
    refine F_if H (fun _ H => ?_) (fun _ H => ?_)
    · obtain ⟨_, H⟩ := F_gd H
      obtain rfl := Option.some.inj H
      exact ((F_213_R G_5).trans ((F_212_R G_1).trans rfl))
    · exact (((L_211_R _ _ _ _ _ H)).trans ((F_213_R G_5).trans ((F_212_R G_1).trans rfl)))
  · obtain rfl := Option.some.inj H
    exact ((F_213_R G_5).trans ((F_212_R G_1).trans rfl))
set_option maxHeartbeats 4000000 in
set_option maxRecDepth 100000 in
theorem F_211_ok {N d : Nat} {g : Nat} (hg : g = 79 ∨ g = 115) {x_1 : Int32} {σ : st_S} {p : st_S} (hr_66_9 : gR σ 66 9 = g) (H : F_211 N g x_1 σ = some p) : vz_ev P0 (d + 10) 211 0 (lv_args 0 [.ref 66, .int x_1]) [] (hp σ) (.inl none, hp p) := by
  unfold F_211 at H
  rcases hg with rfl | rfl
  · refine ev_x (i := .aload_n 0) (len := 1) (p' := 1) (s' := [.ref 66]) rfl rfl rfl ?_
    refine ev_x (i := .iload_n 1) (len := 1) (p' := 2) (s' := [.int x_1, .ref 66]) rfl rfl rfl ?_
    obtain ⟨p_1, G_1, H⟩ := F_bd H
    refine ev_cv (d := d + 9) (As := [.int x_1]) (a := 66) (p' := 5) rfl rfl rfl ly_66 rfl rfl rfl rfl rfl rfl rfl (F_212_ok (d := d + 8) (hg := (Or.inl rfl)) (hr_66_9 := hr_66_9) G_1) ?_
    refine ev_st (st' := []) rfl ?_
    have e_1 := F_212_R G_1
    refine ev_x (i := .aload_n 0) (len := 1) (p' := 6) (s' := [.ref 66]) rfl rfl rfl ?_
    refine ev_gc (p' := 9) (v := 172) rfl rfl rfl ly_66 rfl rfl ?_
    refine ev_x (i := .iload_n 1) (len := 1) (p' := 10) (s' := [.int x_1, .ref 172]) rfl rfl rfl ?_
    refine ev_x (i := .iconst 0) (len := 1) (p' := 11) (s' := [.int 0, .int x_1, .ref 172]) rfl rfl rfl ?_
    obtain ⟨b_2, H⟩ := F_gd H
    refine ev_pa (j := (x_1 : Int32).toNatClampNeg) (p' := 12) rfl rfl ly_172 rfl (gd_in b_2) rfl ?_
    refine ev_x (i := .aload_n 0) (len := 1) (p' := 13) (s' := [.ref 66]) rfl rfl rfl ?_
    refine ev_gc (p' := 16) (v := 173) rfl rfl rfl ly_66 rfl rfl ?_
    refine ev_x (i := .iload_n 1) (len := 1) (p' := 17) (s' := [.int x_1, .ref 173]) rfl rfl rfl ?_
    refine ev_x (i := .aload_n 0) (len := 1) (p' := 18) (s' := [.ref 66, .int x_1, .ref 173]) rfl rfl rfl ?_
    refine ev_gc (p' := 21) (v := 175) rfl rfl rfl ly_66 rfl rfl ?_
    refine ev_gi (p' := 24) (v := (gI p_1 175 1)) rfl rfl rfl ly_175 rfl rfl rfl ?_
    obtain ⟨b_3, H⟩ := F_gd H
    refine ev_pa (j := (x_1 : Int32).toNatClampNeg) (p' := 25) rfl rfl ly_173 rfl (gd_in b_3) rfl ?_
    refine ev_x (i := .aload_n 0) (len := 1) (p' := 26) (s' := [.ref 66]) rfl rfl rfl ?_
    refine ev_gc (p' := 29) (v := 174) rfl rfl rfl ly_66 rfl rfl ?_
    refine ev_x (i := .iload_n 1) (len := 1) (p' := 30) (s' := [.int x_1, .ref 174]) rfl rfl rfl ?_
    refine ev_x (i := .iconst 0) (len := 1) (p' := 31) (s' := [.int 0, .int x_1, .ref 174]) rfl rfl rfl ?_
    obtain ⟨b_4, H⟩ := F_gd H
    refine ev_pa (j := (x_1 : Int32).toNatClampNeg) (p' := 32) rfl rfl ly_174 rfl (gd_in b_4) rfl ?_
    refine ev_x (i := .aload_n 0) (len := 1) (p' := 33) (s' := [.ref 66]) rfl rfl rfl ?_
    refine ev_x (i := .aload_n 0) (len := 1) (p' := 34) (s' := [.ref 66, .ref 66]) rfl rfl rfl ?_
    refine ev_gr (p' := 37) (v := 79) rfl rfl rfl ly_66 rfl rfl ((congrFun (congrFun e_1 66) 9).trans hr_66_9) ?_
    refine ev_gi (p' := 40) (v := (gI p_1 79 17)) rfl rfl rfl ly_79 rfl rfl rfl ?_
    obtain ⟨p_5, G_5, H⟩ := F_bd H
    refine ev_cv (d := d + 9) (As := [.int (gI p_1 79 17)]) (a := 66) (p' := 43) rfl rfl rfl ly_66 rfl rfl rfl rfl rfl rfl rfl (F_213_ok (d := d + 3) (hg := (Or.inl rfl)) (hr_66_9 := ((congrFun (congrFun e_1 66) 9).trans hr_66_9)) G_5) ?_
    refine ev_st (st' := []) rfl ?_
    have e_5 := F_213_R G_5
    refine ev_x (i := .aload_n 0) (len := 1) (p' := 44) (s' := [.ref 66]) rfl rfl rfl ?_
    refine ev_gi (p' := 47) (v := (gI p_5 66 16)) rfl rfl rfl ly_66 rfl rfl rfl ?_
    refine F_if H (fun c_6 H => ?_) (fun c_6 H => ?_)
    · refine ev_b0 (t := 51) (p' := 51) rfl rfl rfl (if_pos c_6) ?_
      refine ev_x (i := .aload_n 0) (len := 1) (p' := 52) (s' := [.ref 66]) rfl rfl rfl ?_
      refine ev_gc (p' := 55) (v := 163) rfl rfl rfl ly_66 rfl rfl ?_
      refine ev_x (i := .iconst 0) (len := 1) (p' := 56) (s' := [.int 0, .ref 163]) rfl rfl rfl ?_
      obtain ⟨b_7, H⟩ := F_gd H
      refine ev_gL (p' := 57) (v := (gL (p_5) 163 (0 : Int32).toNatClampNeg)) rfl rfl ly_163 rfl (gd_in b_7) rfl ?_
      refine ev_x (i := .lconst 1) (len := 1) (p' := 58) (s' := [.long 1, .long (gL (p_5) 163 (0 : Int32).toNatClampNeg)]) rfl rfl rfl ?_
      refine ev_x (i := .lcmp) (len := 1) (p' := 59) (s' := [.int (lg_cmp (gL (p_5) 163 (0 : Int32).toNatClampNeg) 1)]) rfl rfl rfl ?_
      refine F_if H (fun c_8 H => ?_) (fun c_8 H => ?_)
      · refine ev_b0 (t := 70) (p' := 62) rfl rfl rfl (if_neg (fun q => q c_8)) ?_
        refine ev_x (i := .aload_n 0) (len := 1) (p' := 63) (s' := [.ref 66]) rfl rfl rfl ?_
        refine ev_gc (p' := 66) (v := 172) rfl rfl rfl ly_66 rfl rfl ?_
        refine ev_x (i := .iload_n 1) (len := 1) (p' := 67) (s' := [.int x_1, .ref 172]) rfl rfl rfl ?_
        refine ev_x (i := .iconst 3) (len := 1) (p' := 68) (s' := [.int 3, .int x_1, .ref 172]) rfl rfl rfl ?_
        obtain ⟨b_9, H⟩ := F_gd H
        refine ev_pa (j := (x_1 : Int32).toNatClampNeg) (p' := 69) rfl rfl ly_172 rfl (gd_in b_9) rfl ?_
        obtain rfl := Option.some.inj H
        exact ev_vret rfl rfl rfl
      · refine ev_b0 (t := 70) (p' := 70) rfl rfl rfl (if_pos c_8) ?_
        refine ev_x (i := .iconst 0) (len := 1) (p' := 71) (s' := [.int 0]) rfl rfl rfl ?_
        refine ev_x (i := .istore_n 2) (len := 1) (p' := 72) (s' := []) (l' := [(2, .int 0), (0, .ref 66), (1, .int x_1)]) rfl rfl rfl ?_
        exact (L_211_ok (d := d) (Or.inl rfl) N) _ _ _ _ _ rfl rfl rfl rfl ((congrFun (congrFun e_5 66) 9).trans ((congrFun (congrFun e_1 66) 9).trans hr_66_9)) H
    · refine ev_b0 (t := 51) (p' := 50) rfl rfl rfl (if_neg c_6) ?_
      obtain rfl := Option.some.inj H
      exact ev_vret rfl rfl rfl
  · refine ev_x (i := .aload_n 0) (len := 1) (p' := 1) (s' := [.ref 66]) rfl rfl rfl ?_
    refine ev_x (i := .iload_n 1) (len := 1) (p' := 2) (s' := [.int x_1, .ref 66]) rfl rfl rfl ?_
    obtain ⟨p_1, G_1, H⟩ := F_bd H
    refine ev_cv (d := d + 9) (As := [.int x_1]) (a := 66) (p' := 5) rfl rfl rfl ly_66 rfl rfl rfl rfl rfl rfl rfl (F_212_ok (d := d + 8) (hg := (Or.inr rfl)) (hr_66_9 := hr_66_9) G_1) ?_
    refine ev_st (st' := []) rfl ?_
    have e_1 := F_212_R G_1
    refine ev_x (i := .aload_n 0) (len := 1) (p' := 6) (s' := [.ref 66]) rfl rfl rfl ?_
    refine ev_gc (p' := 9) (v := 172) rfl rfl rfl ly_66 rfl rfl ?_
    refine ev_x (i := .iload_n 1) (len := 1) (p' := 10) (s' := [.int x_1, .ref 172]) rfl rfl rfl ?_
    refine ev_x (i := .iconst 0) (len := 1) (p' := 11) (s' := [.int 0, .int x_1, .ref 172]) rfl rfl rfl ?_
    obtain ⟨b_2, H⟩ := F_gd H
    refine ev_pa (j := (x_1 : Int32).toNatClampNeg) (p' := 12) rfl rfl ly_172 rfl (gd_in b_2) rfl ?_
    refine ev_x (i := .aload_n 0) (len := 1) (p' := 13) (s' := [.ref 66]) rfl rfl rfl ?_
    refine ev_gc (p' := 16) (v := 173) rfl rfl rfl ly_66 rfl rfl ?_
    refine ev_x (i := .iload_n 1) (len := 1) (p' := 17) (s' := [.int x_1, .ref 173]) rfl rfl rfl ?_
    refine ev_x (i := .aload_n 0) (len := 1) (p' := 18) (s' := [.ref 66, .int x_1, .ref 173]) rfl rfl rfl ?_
    refine ev_gc (p' := 21) (v := 175) rfl rfl rfl ly_66 rfl rfl ?_
    refine ev_gi (p' := 24) (v := (gI p_1 175 1)) rfl rfl rfl ly_175 rfl rfl rfl ?_
    obtain ⟨b_3, H⟩ := F_gd H
    refine ev_pa (j := (x_1 : Int32).toNatClampNeg) (p' := 25) rfl rfl ly_173 rfl (gd_in b_3) rfl ?_
    refine ev_x (i := .aload_n 0) (len := 1) (p' := 26) (s' := [.ref 66]) rfl rfl rfl ?_
    refine ev_gc (p' := 29) (v := 174) rfl rfl rfl ly_66 rfl rfl ?_
    refine ev_x (i := .iload_n 1) (len := 1) (p' := 30) (s' := [.int x_1, .ref 174]) rfl rfl rfl ?_
    refine ev_x (i := .iconst 0) (len := 1) (p' := 31) (s' := [.int 0, .int x_1, .ref 174]) rfl rfl rfl ?_
    obtain ⟨b_4, H⟩ := F_gd H
    refine ev_pa (j := (x_1 : Int32).toNatClampNeg) (p' := 32) rfl rfl ly_174 rfl (gd_in b_4) rfl ?_
    refine ev_x (i := .aload_n 0) (len := 1) (p' := 33) (s' := [.ref 66]) rfl rfl rfl ?_
    refine ev_x (i := .aload_n 0) (len := 1) (p' := 34) (s' := [.ref 66, .ref 66]) rfl rfl rfl ?_
    refine ev_gr (p' := 37) (v := 115) rfl rfl rfl ly_66 rfl rfl ((congrFun (congrFun e_1 66) 9).trans hr_66_9) ?_
    refine ev_gi (p' := 40) (v := (gI p_1 115 17)) rfl rfl rfl ly_115 rfl rfl rfl ?_
    obtain ⟨p_5, G_5, H⟩ := F_bd H
    refine ev_cv (d := d + 9) (As := [.int (gI p_1 115 17)]) (a := 66) (p' := 43) rfl rfl rfl ly_66 rfl rfl rfl rfl rfl rfl rfl (F_213_ok (d := d + 3) (hg := (Or.inr rfl)) (hr_66_9 := ((congrFun (congrFun e_1 66) 9).trans hr_66_9)) G_5) ?_
    refine ev_st (st' := []) rfl ?_
    have e_5 := F_213_R G_5
    refine ev_x (i := .aload_n 0) (len := 1) (p' := 44) (s' := [.ref 66]) rfl rfl rfl ?_
    refine ev_gi (p' := 47) (v := (gI p_5 66 16)) rfl rfl rfl ly_66 rfl rfl rfl ?_
    refine F_if H (fun c_6 H => ?_) (fun c_6 H => ?_)
    · refine ev_b0 (t := 51) (p' := 51) rfl rfl rfl (if_pos c_6) ?_
      refine ev_x (i := .aload_n 0) (len := 1) (p' := 52) (s' := [.ref 66]) rfl rfl rfl ?_
      refine ev_gc (p' := 55) (v := 163) rfl rfl rfl ly_66 rfl rfl ?_
      refine ev_x (i := .iconst 0) (len := 1) (p' := 56) (s' := [.int 0, .ref 163]) rfl rfl rfl ?_
      obtain ⟨b_7, H⟩ := F_gd H
      refine ev_gL (p' := 57) (v := (gL (p_5) 163 (0 : Int32).toNatClampNeg)) rfl rfl ly_163 rfl (gd_in b_7) rfl ?_
      refine ev_x (i := .lconst 1) (len := 1) (p' := 58) (s' := [.long 1, .long (gL (p_5) 163 (0 : Int32).toNatClampNeg)]) rfl rfl rfl ?_
      refine ev_x (i := .lcmp) (len := 1) (p' := 59) (s' := [.int (lg_cmp (gL (p_5) 163 (0 : Int32).toNatClampNeg) 1)]) rfl rfl rfl ?_
      refine F_if H (fun c_8 H => ?_) (fun c_8 H => ?_)
      · refine ev_b0 (t := 70) (p' := 62) rfl rfl rfl (if_neg (fun q => q c_8)) ?_
        refine ev_x (i := .aload_n 0) (len := 1) (p' := 63) (s' := [.ref 66]) rfl rfl rfl ?_
        refine ev_gc (p' := 66) (v := 172) rfl rfl rfl ly_66 rfl rfl ?_
        refine ev_x (i := .iload_n 1) (len := 1) (p' := 67) (s' := [.int x_1, .ref 172]) rfl rfl rfl ?_
        refine ev_x (i := .iconst 3) (len := 1) (p' := 68) (s' := [.int 3, .int x_1, .ref 172]) rfl rfl rfl ?_
        obtain ⟨b_9, H⟩ := F_gd H
        refine ev_pa (j := (x_1 : Int32).toNatClampNeg) (p' := 69) rfl rfl ly_172 rfl (gd_in b_9) rfl ?_
        obtain rfl := Option.some.inj H
        exact ev_vret rfl rfl rfl
      · refine ev_b0 (t := 70) (p' := 70) rfl rfl rfl (if_pos c_8) ?_
        refine ev_x (i := .iconst 0) (len := 1) (p' := 71) (s' := [.int 0]) rfl rfl rfl ?_
        refine ev_x (i := .istore_n 2) (len := 1) (p' := 72) (s' := []) (l' := [(2, .int 0), (0, .ref 66), (1, .int x_1)]) rfl rfl rfl ?_
        exact (L_211_ok (d := d) (Or.inr rfl) N) _ _ _ _ _ rfl rfl rfl rfl ((congrFun (congrFun e_5 66) 9).trans ((congrFun (congrFun e_1 66) 9).trans hr_66_9)) H
    · refine ev_b0 (t := 51) (p' := 50) rfl rfl rfl (if_neg c_6) ?_
      obtain rfl := Option.some.inj H
      exact ev_vret rfl rfl rfl
/-- GameTextModel.explore()I, from 126 -/
def J_210_126 (N : Nat) (g : Nat) (l_1 : Int32) (σ : st_S) : Option (Int32 × st_S) :=
  some ((gI σ 66 16), st_i (st_i (st_i (σ) 66 30 (if (gI σ 66 16) = 0 then (-1) else (l_1 - 1) : Int32)) 66 12 (if (gI σ 66 16) = 0 then (-1) else (gI σ 66 17) : Int32)) 66 29 (if (gI σ 66 16) = 0 then (gI σ 66 29) else 0 : Int32))
set_option maxRecDepth 100000 in
theorem J_210_126_R {N : Nat} {g : Nat} {l_1 : Int32} {σ : st_S} {p : Int32 × st_S} (H : J_210_126 N g l_1 σ = some p) : gR p.2 = gR σ := by
  unfold J_210_126 at H
  obtain rfl := Option.some.inj H
  exact rfl
set_option maxHeartbeats 4000000 in
set_option maxRecDepth 100000 in
theorem J_210_126_ok {N d : Nat} {g : Nat} (hg : g = 79 ∨ g = 115) {l_1 : Int32} {σ : st_S} {lv : vz_L} {p : Int32 × st_S} (g_0 : vz_g lv 0 = some (.ref 66)) (g_1 : vz_g lv 1 = some (.int l_1)) (hnb : vz_nbL (vz_gr P0) lv = true) (hr_66_9 : gR σ 66 9 = g) (H : J_210_126 N g l_1 σ = some p) : vz_ev P0 (d + 11) 210 126 lv [] (hp σ) (.inl (some (.int p.1)), hp p.2) := by
  unfold J_210_126 at H
  refine ev_x (i := .aload_n 0) (len := 1) (p' := 127) (s' := [.ref 66]) rfl rfl (ld_a g_0) ?_
  refine ev_x (i := .aload_n 0) (len := 1) (p' := 128) (s' := [.ref 66, .ref 66]) rfl rfl (ld_a g_0) ?_
  refine ev_gi (p' := 131) (v := (gI σ 66 16)) rfl rfl rfl ly_66 rfl rfl rfl ?_
  refine F_jn (A := vz_ev P0 (d + 11) 210 141 (lv) [.int (if (gI σ 66 16) = 0 then (-1) else (l_1 - 1) : Int32), .ref 66] (hp (σ)) (.inl (some (.int p.1)), hp p.2)) ?_ (fun J => ?_)
  · refine ev_pi (p' := 144) rfl rfl rfl ly_66 rfl rfl rfl rfl ?_
    refine ev_x (i := .aload_n 0) (len := 1) (p' := 145) (s' := [.ref 66]) rfl rfl (ld_a g_0) ?_
    refine ev_x (i := .aload_n 0) (len := 1) (p' := 146) (s' := [.ref 66, .ref 66]) rfl rfl (ld_a g_0) ?_
    refine ev_gi (p' := 149) (v := (gI σ 66 16)) rfl rfl rfl ly_66 rfl rfl rfl ?_
    refine F_jn (A := vz_ev P0 (d + 11) 210 160 (lv) [.int (if (gI σ 66 16) = 0 then (-1) else (gI σ 66 17) : Int32), .ref 66] (hp (st_i (σ) 66 30 (if (gI σ 66 16) = 0 then (-1) else (l_1 - 1) : Int32))) (.inl (some (.int p.1)), hp p.2)) ?_ (fun J => ?_)
    · refine ev_pi (p' := 163) rfl rfl rfl ly_66 rfl rfl rfl rfl ?_
      refine ev_x (i := .aload_n 0) (len := 1) (p' := 164) (s' := [.ref 66]) rfl rfl (ld_a g_0) ?_
      refine ev_x (i := .aload_n 0) (len := 1) (p' := 165) (s' := [.ref 66, .ref 66]) rfl rfl (ld_a g_0) ?_
      refine ev_gi (p' := 168) (v := (gI σ 66 16)) rfl rfl rfl ly_66 rfl rfl rfl ?_
      refine F_jn (A := vz_ev P0 (d + 11) 210 179 (lv) [.int (if (gI σ 66 16) = 0 then (gI σ 66 29) else 0 : Int32), .ref 66] (hp (st_i (st_i (σ) 66 30 (if (gI σ 66 16) = 0 then (-1) else (l_1 - 1) : Int32)) 66 12 (if (gI σ 66 16) = 0 then (-1) else (gI σ 66 17) : Int32))) (.inl (some (.int p.1)), hp p.2)) ?_ (fun J => ?_)
      · refine ev_pi (p' := 182) rfl rfl rfl ly_66 rfl rfl rfl rfl ?_
        refine ev_x (i := .aload_n 0) (len := 1) (p' := 183) (s' := [.ref 66]) rfl rfl (ld_a g_0) ?_
        refine ev_gi (p' := 186) (v := (gI σ 66 16)) rfl rfl rfl ly_66 rfl rfl rfl ?_
        obtain rfl := Option.some.inj H
        exact ev_iret rfl rfl rfl rfl
      · by_cases c_11 : (gI σ 66 16) = 0
        · refine ev_b0 (t := 178) (p' := 171) rfl rfl rfl (if_neg (fun q => q c_11)) ?_
          refine ev_x (i := .aload_n 0) (len := 1) (p' := 172) (s' := [.ref 66, .ref 66]) rfl rfl (ld_a g_0) ?_
          refine ev_gi (p' := 175) (v := (gI σ 66 29)) rfl rfl rfl ly_66 rfl rfl rfl ?_
          refine ev_x (i := .goto 4) (len := 3) (p' := 179) (s' := [.int (gI σ 66 29), .ref 66]) rfl rfl rfl ?_
          exact ev_st (congrArg (fun z => Value.int z :: [.ref 66]) (by rw [if_pos c_11])) J
        · refine ev_b0 (t := 178) (p' := 178) rfl rfl rfl (if_pos c_11) ?_
          refine ev_x (i := .iconst 0) (len := 1) (p' := 179) (s' := [.int 0, .ref 66]) rfl rfl rfl ?_
          exact ev_st (congrArg (fun z => Value.int z :: [.ref 66]) (by rw [if_neg c_11])) J
    · by_cases c_10 : (gI σ 66 16) = 0
      · refine ev_b0 (t := 156) (p' := 152) rfl rfl rfl (if_neg (fun q => q c_10)) ?_
        refine ev_x (i := .iconst (-1)) (len := 1) (p' := 153) (s' := [.int (-1), .ref 66]) rfl rfl rfl ?_
        refine ev_x (i := .goto 7) (len := 3) (p' := 160) (s' := [.int (-1), .ref 66]) rfl rfl rfl ?_
        exact ev_st (congrArg (fun z => Value.int z :: [.ref 66]) (by rw [if_pos c_10])) J
      · refine ev_b0 (t := 156) (p' := 156) rfl rfl rfl (if_pos c_10) ?_
        refine ev_x (i := .aload_n 0) (len := 1) (p' := 157) (s' := [.ref 66, .ref 66]) rfl rfl (ld_a g_0) ?_
        refine ev_gi (p' := 160) (v := (gI σ 66 17)) rfl rfl rfl ly_66 rfl rfl rfl ?_
        exact ev_st (congrArg (fun z => Value.int z :: [.ref 66]) (by rw [if_neg c_10])) J
  · by_cases c_9 : (gI σ 66 16) = 0
    · refine ev_b0 (t := 138) (p' := 134) rfl rfl rfl (if_neg (fun q => q c_9)) ?_
      refine ev_x (i := .iconst (-1)) (len := 1) (p' := 135) (s' := [.int (-1), .ref 66]) rfl rfl rfl ?_
      refine ev_x (i := .goto 6) (len := 3) (p' := 141) (s' := [.int (-1), .ref 66]) rfl rfl rfl ?_
      exact ev_st (congrArg (fun z => Value.int z :: [.ref 66]) (by rw [if_pos c_9])) J
    · refine ev_b0 (t := 138) (p' := 138) rfl rfl rfl (if_pos c_9) ?_
      refine ev_x (i := .iload_n 1) (len := 1) (p' := 139) (s' := [.int l_1, .ref 66]) rfl rfl (ld_i g_1) ?_
      refine ev_x (i := .iconst 1) (len := 1) (p' := 140) (s' := [.int 1, .int l_1, .ref 66]) rfl rfl rfl ?_
      refine ev_x (i := .isub) (len := 1) (p' := 141) (s' := [.int (l_1 - 1), .ref 66]) rfl rfl rfl ?_
      exact ev_st (congrArg (fun z => Value.int z :: [.ref 66]) (by rw [if_neg c_9])) J
/-- GameTextModel.explore()I, its loops -/
def L_210 (N : Nat) (g : Nat) : Nat → Nat → Int32 → st_S → Option (Int32 × st_S)
  | 0, _, _, _ => none
  | k + 1, w, l_1, σ =>
    if w = 66 then
      if (gI σ g 12) ≤ l_1 then
        L_210 N g k 100 0 (σ)
      else
        if aB l_1 (gN σ (g + 21)) then
        if aB l_1 (gN σ 171) then
        L_210 N g k 66 (l_1 + 1) (st_e (σ) 171 ((l_1 : Int32).toNatClampNeg) (gE (σ) (g + 21) (l_1 : Int32).toNatClampNeg))
        else none
        else none
    else
      if (gI σ 66 29) ≤ l_1 then
        J_210_126 N g l_1 (σ)
      else
        if (gI σ 66 16) = 0 then
          (F_211 N g l_1 (σ)).bind fun p_8 =>
          L_210 N g k 100 (l_1 + 1) (p_8)
        else
          J_210_126 N g l_1 (σ)
set_option maxRecDepth 100000 in
theorem L_210_R {N : Nat} {g : Nat} : ∀ (k : Nat) (w : Nat) (l_1 : Int32) (σ : st_S) (p : Int32 × st_S), L_210 N g k w l_1 σ = some p → gR p.2 = gR σ := by
  intro k
  induction k with
  | zero => intro w l_1 σ p H; unfold L_210 at H; cases H
  | succ k ih =>
    intro w l_1 σ p H
    unfold L_210 at H
    refine F_if H (fun _ H => ?_) (fun _ H => ?_)
    · refine F_if H (fun _ H => ?_) (fun _ H => ?_)
      · exact (((ih _ _ _ _ H)).trans rfl)
      · obtain ⟨_, H⟩ := F_gd H
        obtain ⟨_, H⟩ := F_gd H
        exact (((ih _ _ _ _ H)).trans rfl)
    · skip
      refine F_if H (fun _ H => ?_) (fun _ H => ?_)
      · exact (((J_210_126_R H)).trans rfl)
      · refine F_if H (fun _ H => ?_) (fun _ H => ?_)
        · obtain ⟨p_8, G_8, H⟩ := F_bd H
          exact (((ih _ _ _ _ H)).trans ((F_211_R G_8).trans rfl))
        · exact (((J_210_126_R H)).trans rfl)
set_option maxHeartbeats 4000000 in
set_option maxRecDepth 100000 in
theorem L_210_ok {N d : Nat} {g : Nat} (hg : g = 79 ∨ g = 115) : ∀ k : Nat, (∀ (l_1 : Int32) (σ : st_S) (lv : vz_L) (p : Int32 × st_S), vz_g lv 0 = some (.ref 66) → vz_g lv 1 = some (.int l_1) → vz_nbL (vz_gr P0) lv = true → gR σ 66 9 = g → L_210 N g k 66 l_1 σ = some p → vz_ev P0 (d + 11) 210 66 lv [] (hp σ) (.inl (some (.int p.1)), hp p.2)) ∧ (∀ (l_1 : Int32) (σ : st_S) (lv : vz_L) (p : Int32 × st_S), vz_g lv 0 = some (.ref 66) → vz_g lv 1 = some (.int l_1) → vz_nbL (vz_gr P0) lv = true → gR σ 66 9 = g → L_210 N g k 100 l_1 σ = some p → vz_ev P0 (d + 11) 210 100 lv [] (hp σ) (.inl (some (.int p.1)), hp p.2)) := by
  rcases hg with rfl | rfl
  · intro k
    induction k with
    | zero => exact ⟨(by intro l_1 σ lv p g_0 g_1 hnb hr_66_9 H; unfold L_210 at H; cases H), (by intro l_1 σ lv p g_0 g_1 hnb hr_66_9 H; unfold L_210 at H; cases H)⟩
    | succ k ih =>
      refine ⟨?_, ?_⟩
      · intro l_1 σ lv p g_0 g_1 hnb hr_66_9 H
        unfold L_210 at H
        rw [if_pos rfl] at H
        refine ev_x (i := .iload_n 1) (len := 1) (p' := 67) (s' := [.int l_1]) rfl rfl (ld_i g_1) ?_
        refine ev_x (i := .aload_n 0) (len := 1) (p' := 68) (s' := [.ref 66, .int l_1]) rfl rfl (ld_a g_0) ?_
        refine ev_gr (p' := 71) (v := 79) rfl rfl rfl ly_66 rfl rfl hr_66_9 ?_
        refine ev_gi (p' := 74) (v := (gI σ 79 12)) rfl rfl rfl ly_79 rfl rfl rfl ?_
        refine F_if H (fun c_3 H => ?_) (fun c_3 H => ?_)
        · refine ev_b2 (t := 98) (p' := 98) rfl rfl rfl (if_pos c_3) ?_
          refine ev_x (i := .iconst 0) (len := 1) (p' := 99) (s' := [.int 0]) rfl rfl rfl ?_
          refine ev_x (i := .istore_n 1) (len := 1) (p' := 100) (s' := []) (l' := vz_s1 (lv) 1 (.int 0)) rfl rfl rfl ?_
          exact ih.2 _ _ _ _ (vg_o (i := 1) (v := .int 0) g_0 (by decide) (Or.inl rfl)) (vg_s (lv) 1 (.int 0)) (nb_s1 hnb rfl) hr_66_9 H
        · refine ev_b2 (t := 98) (p' := 77) rfl rfl rfl (if_neg c_3) ?_
          refine ev_x (i := .aload_n 0) (len := 1) (p' := 78) (s' := [.ref 66]) rfl rfl (ld_a g_0) ?_
          refine ev_gc (p' := 81) (v := 171) rfl rfl rfl ly_66 rfl rfl ?_
          refine ev_x (i := .iload_n 1) (len := 1) (p' := 82) (s' := [.int l_1, .ref 171]) rfl rfl (ld_i g_1) ?_
          refine ev_x (i := .aload_n 0) (len := 1) (p' := 83) (s' := [.ref 66, .int l_1, .ref 171]) rfl rfl (ld_a g_0) ?_
          refine ev_gr (p' := 86) (v := 79) rfl rfl rfl ly_66 rfl rfl hr_66_9 ?_
          refine ev_gc (p' := 89) (v := 100) rfl rfl rfl ly_79 rfl rfl ?_
          refine ev_x (i := .iload_n 1) (len := 1) (p' := 90) (s' := [.int l_1, .ref 100, .int l_1, .ref 171]) rfl rfl (ld_i g_1) ?_
          obtain ⟨b_4, H⟩ := F_gd H
          refine ev_ga (p' := 91) (v := (gE (σ) 100 (l_1 : Int32).toNatClampNeg)) rfl rfl ly_100 rfl (gd_in b_4) rfl ?_
          obtain ⟨b_5, H⟩ := F_gd H
          refine ev_pa (j := (l_1 : Int32).toNatClampNeg) (p' := 92) rfl rfl ly_171 rfl (gd_in b_5) rfl ?_
          refine ev_x (i := .iinc 1 1) (len := 3) (p' := 95) (s' := []) (l' := vz_s1 (lv) 1 (.int (l_1 + 1))) rfl rfl (ld_inc g_1 rfl) ?_
          refine ev_x (i := .goto (-29)) (len := 3) (p' := 66) (s' := []) rfl rfl rfl ?_
          exact ih.1 _ _ _ _ (vg_o (i := 1) (v := .int (l_1 + 1)) g_0 (by decide) (Or.inl rfl)) (vg_s (lv) 1 (.int (l_1 + 1))) (nb_s1 hnb rfl) hr_66_9 H
      · intro l_1 σ lv p g_0 g_1 hnb hr_66_9 H
        unfold L_210 at H
        rw [if_neg (by decide)] at H
        refine ev_x (i := .iload_n 1) (len := 1) (p' := 101) (s' := [.int l_1]) rfl rfl (ld_i g_1) ?_
        refine ev_x (i := .aload_n 0) (len := 1) (p' := 102) (s' := [.ref 66, .int l_1]) rfl rfl (ld_a g_0) ?_
        refine ev_gi (p' := 105) (v := (gI σ 66 29)) rfl rfl rfl ly_66 rfl rfl rfl ?_
        refine F_if H (fun c_6 H => ?_) (fun c_6 H => ?_)
        · refine ev_b2 (t := 126) (p' := 126) rfl rfl rfl (if_pos c_6) ?_
          exact J_210_126_ok (d := d) (Or.inl rfl) g_0 g_1 hnb hr_66_9 H
        · refine ev_b2 (t := 126) (p' := 108) rfl rfl rfl (if_neg c_6) ?_
          refine ev_x (i := .aload_n 0) (len := 1) (p' := 109) (s' := [.ref 66]) rfl rfl (ld_a g_0) ?_
          refine ev_gi (p' := 112) (v := (gI σ 66 16)) rfl rfl rfl ly_66 rfl rfl rfl ?_
          refine F_if H (fun c_7 H => ?_) (fun c_7 H => ?_)
          · refine ev_b0 (t := 126) (p' := 115) rfl rfl rfl (if_neg (fun q => q c_7)) ?_
            refine ev_x (i := .aload_n 0) (len := 1) (p' := 116) (s' := [.ref 66]) rfl rfl (ld_a g_0) ?_
            refine ev_x (i := .iload_n 1) (len := 1) (p' := 117) (s' := [.int l_1, .ref 66]) rfl rfl (ld_i g_1) ?_
            obtain ⟨p_8, G_8, H⟩ := F_bd H
            refine ev_cv (d := d + 10) (As := [.int l_1]) (a := 66) (p' := 120) rfl rfl rfl ly_66 rfl rfl rfl rfl rfl hnb rfl (F_211_ok (d := d + 0) (hg := (Or.inl rfl)) (hr_66_9 := hr_66_9) G_8) ?_
            refine ev_st (st' := []) rfl ?_
            have e_8 := F_211_R G_8
            refine ev_x (i := .iinc 1 1) (len := 3) (p' := 123) (s' := []) (l' := vz_s1 (lv) 1 (.int (l_1 + 1))) rfl rfl (ld_inc g_1 rfl) ?_
            refine ev_x (i := .goto (-23)) (len := 3) (p' := 100) (s' := []) rfl rfl rfl ?_
            exact ih.2 _ _ _ _ (vg_o (i := 1) (v := .int (l_1 + 1)) g_0 (by decide) (Or.inl rfl)) (vg_s (lv) 1 (.int (l_1 + 1))) (nb_s1 hnb rfl) ((congrFun (congrFun e_8 66) 9).trans hr_66_9) H
          · refine ev_b0 (t := 126) (p' := 126) rfl rfl rfl (if_pos c_7) ?_
            exact J_210_126_ok (d := d) (Or.inl rfl) g_0 g_1 hnb hr_66_9 H
  · intro k
    induction k with
    | zero => exact ⟨(by intro l_1 σ lv p g_0 g_1 hnb hr_66_9 H; unfold L_210 at H; cases H), (by intro l_1 σ lv p g_0 g_1 hnb hr_66_9 H; unfold L_210 at H; cases H)⟩
    | succ k ih =>
      refine ⟨?_, ?_⟩
      · intro l_1 σ lv p g_0 g_1 hnb hr_66_9 H
        unfold L_210 at H
        rw [if_pos rfl] at H
        refine ev_x (i := .iload_n 1) (len := 1) (p' := 67) (s' := [.int l_1]) rfl rfl (ld_i g_1) ?_
        refine ev_x (i := .aload_n 0) (len := 1) (p' := 68) (s' := [.ref 66, .int l_1]) rfl rfl (ld_a g_0) ?_
        refine ev_gr (p' := 71) (v := 115) rfl rfl rfl ly_66 rfl rfl hr_66_9 ?_
        refine ev_gi (p' := 74) (v := (gI σ 115 12)) rfl rfl rfl ly_115 rfl rfl rfl ?_
        refine F_if H (fun c_3 H => ?_) (fun c_3 H => ?_)
        · refine ev_b2 (t := 98) (p' := 98) rfl rfl rfl (if_pos c_3) ?_
          refine ev_x (i := .iconst 0) (len := 1) (p' := 99) (s' := [.int 0]) rfl rfl rfl ?_
          refine ev_x (i := .istore_n 1) (len := 1) (p' := 100) (s' := []) (l' := vz_s1 (lv) 1 (.int 0)) rfl rfl rfl ?_
          exact ih.2 _ _ _ _ (vg_o (i := 1) (v := .int 0) g_0 (by decide) (Or.inl rfl)) (vg_s (lv) 1 (.int 0)) (nb_s1 hnb rfl) hr_66_9 H
        · refine ev_b2 (t := 98) (p' := 77) rfl rfl rfl (if_neg c_3) ?_
          refine ev_x (i := .aload_n 0) (len := 1) (p' := 78) (s' := [.ref 66]) rfl rfl (ld_a g_0) ?_
          refine ev_gc (p' := 81) (v := 171) rfl rfl rfl ly_66 rfl rfl ?_
          refine ev_x (i := .iload_n 1) (len := 1) (p' := 82) (s' := [.int l_1, .ref 171]) rfl rfl (ld_i g_1) ?_
          refine ev_x (i := .aload_n 0) (len := 1) (p' := 83) (s' := [.ref 66, .int l_1, .ref 171]) rfl rfl (ld_a g_0) ?_
          refine ev_gr (p' := 86) (v := 115) rfl rfl rfl ly_66 rfl rfl hr_66_9 ?_
          refine ev_gc (p' := 89) (v := 136) rfl rfl rfl ly_115 rfl rfl ?_
          refine ev_x (i := .iload_n 1) (len := 1) (p' := 90) (s' := [.int l_1, .ref 136, .int l_1, .ref 171]) rfl rfl (ld_i g_1) ?_
          obtain ⟨b_4, H⟩ := F_gd H
          refine ev_ga (p' := 91) (v := (gE (σ) 136 (l_1 : Int32).toNatClampNeg)) rfl rfl ly_136 rfl (gd_in b_4) rfl ?_
          obtain ⟨b_5, H⟩ := F_gd H
          refine ev_pa (j := (l_1 : Int32).toNatClampNeg) (p' := 92) rfl rfl ly_171 rfl (gd_in b_5) rfl ?_
          refine ev_x (i := .iinc 1 1) (len := 3) (p' := 95) (s' := []) (l' := vz_s1 (lv) 1 (.int (l_1 + 1))) rfl rfl (ld_inc g_1 rfl) ?_
          refine ev_x (i := .goto (-29)) (len := 3) (p' := 66) (s' := []) rfl rfl rfl ?_
          exact ih.1 _ _ _ _ (vg_o (i := 1) (v := .int (l_1 + 1)) g_0 (by decide) (Or.inl rfl)) (vg_s (lv) 1 (.int (l_1 + 1))) (nb_s1 hnb rfl) hr_66_9 H
      · intro l_1 σ lv p g_0 g_1 hnb hr_66_9 H
        unfold L_210 at H
        rw [if_neg (by decide)] at H
        refine ev_x (i := .iload_n 1) (len := 1) (p' := 101) (s' := [.int l_1]) rfl rfl (ld_i g_1) ?_
        refine ev_x (i := .aload_n 0) (len := 1) (p' := 102) (s' := [.ref 66, .int l_1]) rfl rfl (ld_a g_0) ?_
        refine ev_gi (p' := 105) (v := (gI σ 66 29)) rfl rfl rfl ly_66 rfl rfl rfl ?_
        refine F_if H (fun c_6 H => ?_) (fun c_6 H => ?_)
        · refine ev_b2 (t := 126) (p' := 126) rfl rfl rfl (if_pos c_6) ?_
          exact J_210_126_ok (d := d) (Or.inr rfl) g_0 g_1 hnb hr_66_9 H
        · refine ev_b2 (t := 126) (p' := 108) rfl rfl rfl (if_neg c_6) ?_
          refine ev_x (i := .aload_n 0) (len := 1) (p' := 109) (s' := [.ref 66]) rfl rfl (ld_a g_0) ?_
          refine ev_gi (p' := 112) (v := (gI σ 66 16)) rfl rfl rfl ly_66 rfl rfl rfl ?_
          refine F_if H (fun c_7 H => ?_) (fun c_7 H => ?_)
          · refine ev_b0 (t := 126) (p' := 115) rfl rfl rfl (if_neg (fun q => q c_7)) ?_
            refine ev_x (i := .aload_n 0) (len := 1) (p' := 116) (s' := [.ref 66]) rfl rfl (ld_a g_0) ?_
            refine ev_x (i := .iload_n 1) (len := 1) (p' := 117) (s' := [.int l_1, .ref 66]) rfl rfl (ld_i g_1) ?_
            obtain ⟨p_8, G_8, H⟩ := F_bd H
            refine ev_cv (d := d + 10) (As := [.int l_1]) (a := 66) (p' := 120) rfl rfl rfl ly_66 rfl rfl rfl rfl rfl hnb rfl (F_211_ok (d := d + 0) (hg := (Or.inr rfl)) (hr_66_9 := hr_66_9) G_8) ?_
            refine ev_st (st' := []) rfl ?_
            have e_8 := F_211_R G_8
            refine ev_x (i := .iinc 1 1) (len := 3) (p' := 123) (s' := []) (l' := vz_s1 (lv) 1 (.int (l_1 + 1))) rfl rfl (ld_inc g_1 rfl) ?_
            refine ev_x (i := .goto (-23)) (len := 3) (p' := 100) (s' := []) rfl rfl rfl ?_
            exact ih.2 _ _ _ _ (vg_o (i := 1) (v := .int (l_1 + 1)) g_0 (by decide) (Or.inl rfl)) (vg_s (lv) 1 (.int (l_1 + 1))) (nb_s1 hnb rfl) ((congrFun (congrFun e_8 66) 9).trans hr_66_9) H
          · refine ev_b0 (t := 126) (p' := 126) rfl rfl rfl (if_pos c_7) ?_
            exact J_210_126_ok (d := d) (Or.inr rfl) g_0 g_1 hnb hr_66_9 H
/-- GameTextModel.explore()I -/
def F_210 (N : Nat) (g : Nat) (σ : st_S) : Option (Int32 × st_S) :=
  if (if (gI σ 66 11) = 0 then 1 else 0 : Int32) ≤ 0 then
    L_210 N g N 66 0 (st_i (st_i (st_i (st_i (st_i (st_i (st_i (σ) 66 0 (if (gI σ 66 11) = 0 then 1 else 0 : Int32)) 66 29 1) 66 38 0) 175 1 0) 177 1 0) 179 1 0) 66 16 0)
  else
    some (0, st_i (σ) 66 0 (if (gI σ 66 11) = 0 then 1 else 0 : Int32))
set_option maxRecDepth 100000 in
theorem F_210_R {N : Nat} {g : Nat} {σ : st_S} {p : Int32 × st_S} (H : F_210 N g σ = some p) : gR p.2 = gR σ := by
  unfold F_210 at H
  refine F_if H (fun _ H => ?_) (fun _ H => ?_)
  · exact (((L_210_R _ _ _ _ _ H)).trans rfl)
  · obtain rfl := Option.some.inj H
    exact rfl
set_option maxHeartbeats 4000000 in
set_option maxRecDepth 100000 in
theorem F_210_ok {N d : Nat} {g : Nat} (hg : g = 79 ∨ g = 115) {σ : st_S} {p : Int32 × st_S} (hr_66_9 : gR σ 66 9 = g) (H : F_210 N g σ = some p) : vz_ev P0 (d + 11) 210 0 (lv_args 0 [.ref 66]) [] (hp σ) (.inl (some (.int p.1)), hp p.2) := by
  unfold F_210 at H
  refine ev_x (i := .aload_n 0) (len := 1) (p' := 1) (s' := [.ref 66]) rfl rfl rfl ?_
  refine ev_x (i := .aload_n 0) (len := 1) (p' := 2) (s' := [.ref 66, .ref 66]) rfl rfl rfl ?_
  refine ev_gi (p' := 5) (v := (gI σ 66 11)) rfl rfl rfl ly_66 rfl rfl rfl ?_
  refine F_jn (A := vz_ev P0 (d + 11) 210 13 [(0, .ref 66)] [.int (if (gI σ 66 11) = 0 then 1 else 0 : Int32), .ref 66] (hp (σ)) (.inl (some (.int p.1)), hp p.2)) ?_ (fun J => ?_)
  · refine ev_pi (p' := 16) rfl rfl rfl ly_66 rfl rfl rfl rfl ?_
    refine ev_x (i := .aload_n 0) (len := 1) (p' := 17) (s' := [.ref 66]) rfl rfl rfl ?_
    refine ev_gi (p' := 20) (v := (if (gI σ 66 11) = 0 then 1 else 0 : Int32)) rfl rfl rfl ly_66 rfl rfl rfl ?_
    refine F_if H (fun c_2 H => ?_) (fun c_2 H => ?_)
    · refine ev_b0 (t := 25) (p' := 25) rfl rfl rfl (if_pos c_2) ?_
      refine ev_x (i := .aload_n 0) (len := 1) (p' := 26) (s' := [.ref 66]) rfl rfl rfl ?_
      refine ev_x (i := .iconst 1) (len := 1) (p' := 27) (s' := [.int 1, .ref 66]) rfl rfl rfl ?_
      refine ev_pi (p' := 30) rfl rfl rfl ly_66 rfl rfl rfl rfl ?_
      refine ev_x (i := .aload_n 0) (len := 1) (p' := 31) (s' := [.ref 66]) rfl rfl rfl ?_
      refine ev_x (i := .iconst 0) (len := 1) (p' := 32) (s' := [.int 0, .ref 66]) rfl rfl rfl ?_
      refine ev_pi (p' := 35) rfl rfl rfl ly_66 rfl rfl rfl rfl ?_
      refine ev_x (i := .aload_n 0) (len := 1) (p' := 36) (s' := [.ref 66]) rfl rfl rfl ?_
      refine ev_gc (p' := 39) (v := 175) rfl rfl rfl ly_66 rfl rfl ?_
      refine ev_x (i := .iconst 0) (len := 1) (p' := 40) (s' := [.int 0, .ref 175]) rfl rfl rfl ?_
      refine ev_pi (p' := 43) rfl rfl rfl ly_175 rfl rfl rfl rfl ?_
      refine ev_x (i := .aload_n 0) (len := 1) (p' := 44) (s' := [.ref 66]) rfl rfl rfl ?_
      refine ev_gc (p' := 47) (v := 177) rfl rfl rfl ly_66 rfl rfl ?_
      refine ev_x (i := .iconst 0) (len := 1) (p' := 48) (s' := [.int 0, .ref 177]) rfl rfl rfl ?_
      refine ev_pi (p' := 51) rfl rfl rfl ly_177 rfl rfl rfl rfl ?_
      refine ev_x (i := .aload_n 0) (len := 1) (p' := 52) (s' := [.ref 66]) rfl rfl rfl ?_
      refine ev_gc (p' := 55) (v := 179) rfl rfl rfl ly_66 rfl rfl ?_
      refine ev_x (i := .iconst 0) (len := 1) (p' := 56) (s' := [.int 0, .ref 179]) rfl rfl rfl ?_
      refine ev_pi (p' := 59) rfl rfl rfl ly_179 rfl rfl rfl rfl ?_
      refine ev_x (i := .aload_n 0) (len := 1) (p' := 60) (s' := [.ref 66]) rfl rfl rfl ?_
      refine ev_x (i := .iconst 0) (len := 1) (p' := 61) (s' := [.int 0, .ref 66]) rfl rfl rfl ?_
      refine ev_pi (p' := 64) rfl rfl rfl ly_66 rfl rfl rfl rfl ?_
      refine ev_x (i := .iconst 0) (len := 1) (p' := 65) (s' := [.int 0]) rfl rfl rfl ?_
      refine ev_x (i := .istore_n 1) (len := 1) (p' := 66) (s' := []) (l' := [(1, .int 0), (0, .ref 66)]) rfl rfl rfl ?_
      exact (L_210_ok (d := d) hg N).1 _ _ _ _ rfl rfl rfl hr_66_9 H
    · refine ev_b0 (t := 25) (p' := 23) rfl rfl rfl (if_neg c_2) ?_
      refine ev_x (i := .iconst 0) (len := 1) (p' := 24) (s' := [.int 0]) rfl rfl rfl ?_
      obtain rfl := Option.some.inj H
      exact ev_iret rfl rfl rfl rfl
  · by_cases c_1 : (gI σ 66 11) = 0
    · refine ev_b0 (t := 12) (p' := 12) rfl rfl rfl (if_pos c_1) ?_
      refine ev_x (i := .iconst 1) (len := 1) (p' := 13) (s' := [.int 1, .ref 66]) rfl rfl rfl ?_
      exact ev_st (congrArg (fun z => Value.int z :: [.ref 66]) (by rw [if_pos c_1])) J
    · refine ev_b0 (t := 12) (p' := 8) rfl rfl rfl (if_neg c_1) ?_
      refine ev_x (i := .iconst 0) (len := 1) (p' := 9) (s' := [.int 0, .ref 66]) rfl rfl rfl ?_
      refine ev_x (i := .goto 4) (len := 3) (p' := 13) (s' := [.int 0, .ref 66]) rfl rfl rfl ?_
      exact ev_st (congrArg (fun z => Value.int z :: [.ref 66]) (by rw [if_neg c_1])) J
