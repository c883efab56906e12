/-! methods as functions of the store. Written by wip/prog/dec2.py, gen_all.py -/
/-- GameText$Graph.begin(I)V -/
def F_109 (N : Nat) (x_1 : Int32) (σ : st_S) : Option (st_S) :=
  (F_91 N (σ)).bind fun p_1 =>
  if 0 < gN p_1 53 ∧ gN p_1 53 < 2 ^ 31 then
  some (st_fl (st_i (p_1) 52 9 x_1) 53 0)
  else none
set_option maxRecDepth 100000 in
theorem F_109_R {N : Nat} {x_1 : Int32} {σ : st_S} {p : st_S} (H : F_109 N x_1 σ = some p) : gR p = gR σ := by
  unfold F_109 at H
  obtain ⟨p_1, G_1, H⟩ := F_bd H
  obtain ⟨_, H⟩ := F_gd H
  obtain rfl := Option.some.inj H
  exact ((F_91_R G_1).trans rfl)
set_option maxHeartbeats 4000000 in
set_option maxRecDepth 100000 in
theorem F_109_ok {N d : Nat} {x_1 : Int32} {σ : st_S} {p : st_S}  (H : F_109 N x_1 σ = some p) : vz_ev P0 (d + 2) 109 0 (lv_args 0 [.ref 52, .int x_1]) [] (hp σ) (.inl none, hp p) := by
  unfold F_109 at H
  refine ev_x (i := .aload_n 0) (len := 1) (p' := 1) (s' := [.ref 52]) rfl rfl rfl ?_
  obtain ⟨p_1, G_1, H⟩ := F_bd H
  refine ev_cv (d := d + 1) (As := []) (a := 52) (p' := 4) rfl rfl rfl ly_52 rfl rfl rfl rfl rfl rfl rfl (F_91_ok (d := d + 0)   G_1) ?_
  refine ev_st (st' := []) rfl ?_
  have e_1 := F_91_R G_1
  refine ev_x (i := .aload_n 0) (len := 1) (p' := 5) (s' := [.ref 52]) rfl rfl rfl ?_
  refine ev_x (i := .iload_n 1) (len := 1) (p' := 6) (s' := [.int x_1, .ref 52]) rfl rfl rfl ?_
  refine ev_pi (p' := 9) rfl rfl rfl ly_52 rfl rfl rfl rfl ?_
  refine ev_x (i := .aload_n 0) (len := 1) (p' := 10) (s' := [.ref 52]) rfl rfl rfl ?_
  refine ev_gc (p' := 13) (v := 53) rfl rfl rfl ly_52 rfl rfl ?_
  refine ev_x (i := .iconst 0) (len := 1) (p' := 14) (s' := [.int 0, .ref 53]) rfl rfl rfl ?_
  obtain ⟨b_2, H⟩ := F_gd H
  refine ev_callS (d := d + 1) (As := [.ref 53, .int 0]) rfl rfl rfl (by decide) rfl rfl rfl rfl rfl (fl_ok (d := d + 1) ly_53 rfl b_2.2 b_2.1) ?_
  refine ev_st (st' := []) rfl ?_
  refine ev_pc (pc' := 17) rfl ?_
  obtain rfl := Option.some.inj H
  exact ev_vret rfl rfl rfl
/-- GameText$Graph.slotOf([I)I, its loops -/
def L_111 (N : Nat) : Nat → Int32 → Int32 → st_S → Option (Int32 × st_S)
  | 0, _, _, _ => none
  | k + 1, l_2, l_3, σ =>
      if (gI σ 52 9) ≤ l_3 then
        some (((l_2 ^^^ ((l_2).toUInt32 >>> ((16 : Int32).toUInt32 &&& Int32.toUInt32 31)).toInt32) &&& 1023), σ)
      else
        if aB l_3 (gN σ 65) then
        L_111 N k ((l_2 + (gE (σ) 65 (l_3 : Int32).toNatClampNeg)) * (-1640531535)) (l_3 + 1) (σ)
        else none
set_option maxRecDepth 100000 in
theorem L_111_R {N : Nat} : ∀ (k : Nat) (l_2 : Int32) (l_3 : Int32) (σ : st_S) (p : Int32 × st_S), L_111 N k l_2 l_3 σ = some p → gR p.2 = gR σ := by
  intro k
  induction k with
  | zero => intro l_2 l_3 σ p H; unfold L_111 at H; cases H
  | succ k ih =>
    intro l_2 l_3 σ p H
    unfold L_111 at H
    refine F_if H (fun _ H => ?_) (fun _ H => ?_)
    · obtain rfl := Option.some.inj H
      exact rfl
    · obtain ⟨_, H⟩ := F_gd H
      exact (((ih _ _ _ _ H)).trans rfl)
set_option maxHeartbeats 4000000 in
set_option maxRecDepth 100000 in
theorem L_111_ok {N d : Nat} : ∀ k : Nat, ∀ (l_2 : Int32) (l_3 : Int32) (σ : st_S) (lv : vz_L) (p : Int32 × st_S), vz_g lv 0 = some (.ref 52) → vz_g lv 1 = some (.ref 65) → vz_g lv 2 = some (.int l_2) → vz_g lv 3 = some (.int l_3) → vz_nbL (vz_gr P0) lv = true → L_111 N k l_2 l_3 σ = some p → vz_ev P0 (d + 1) 111 4 lv [] (hp σ) (.inl (some (.int p.1)), hp p.2) := by
  intro k
  induction k with
  | zero => intro l_2 l_3 σ lv p g_0 g_1 g_2 g_3 hnb H; unfold L_111 at H; cases H
  | succ k ih =>
    intro l_2 l_3 σ lv p g_0 g_1 g_2 g_3 hnb H
    unfold L_111 at H
    refine ev_x (i := .iload_n 3) (len := 1) (p' := 5) (s' := [.int l_3]) rfl rfl (ld_i g_3) ?_
    refine ev_x (i := .aload_n 0) (len := 1) (p' := 6) (s' := [.ref 52, .int l_3]) rfl rfl (ld_a g_0) ?_
    refine ev_gi (p' := 9) (v := (gI σ 52 9)) rfl rfl rfl ly_52 rfl rfl rfl ?_
    refine F_if H (fun c_1 H => ?_) (fun c_1 H => ?_)
    · refine ev_b2 (t := 27) (p' := 27) rfl rfl rfl (if_pos c_1) ?_
      refine ev_x (i := .iload_n 2) (len := 1) (p' := 28) (s' := [.int l_2]) rfl rfl (ld_i g_2) ?_
      refine ev_x (i := .iload_n 2) (len := 1) (p' := 29) (s' := [.int l_2, .int l_2]) rfl rfl (ld_i g_2) ?_
      refine ev_x (i := .bipush 16) (len := 2) (p' := 31) (s' := [.int 16, .int l_2, .int l_2]) rfl rfl rfl ?_
      refine ev_x (i := .iushr) (len := 1) (p' := 32) (s' := [.int ((l_2).toUInt32 >>> ((16 : Int32).toUInt32 &&& Int32.toUInt32 31)).toInt32, .int l_2]) rfl rfl rfl ?_
      refine ev_x (i := .ixor) (len := 1) (p' := 33) (s' := [.int (l_2 ^^^ ((l_2).toUInt32 >>> ((16 : Int32).toUInt32 &&& Int32.toUInt32 31)).toInt32)]) rfl rfl rfl ?_
      refine ev_x (i := .sipush 1023) (len := 3) (p' := 36) (s' := [.int 1023, .int (l_2 ^^^ ((l_2).toUInt32 >>> ((16 : Int32).toUInt32 &&& Int32.toUInt32 31)).toInt32)]) rfl rfl rfl ?_
      refine ev_x (i := .iand) (len := 1) (p' := 37) (s' := [.int ((l_2 ^^^ ((l_2).toUInt32 >>> ((16 : Int32).toUInt32 &&& Int32.toUInt32 31)).toInt32) &&& 1023)]) rfl rfl rfl ?_
      obtain rfl := Option.some.inj H
      exact ev_iret rfl rfl rfl rfl
    · refine ev_b2 (t := 27) (p' := 12) rfl rfl rfl (if_neg c_1) ?_
      refine ev_x (i := .iload_n 2) (len := 1) (p' := 13) (s' := [.int l_2]) rfl rfl (ld_i g_2) ?_
      refine ev_x (i := .aload_n 1) (len := 1) (p' := 14) (s' := [.ref 65, .int l_2]) rfl rfl (ld_a g_1) ?_
      refine ev_x (i := .iload_n 3) (len := 1) (p' := 15) (s' := [.int l_3, .ref 65, .int l_2]) rfl rfl (ld_i g_3) ?_
      obtain ⟨b_2, H⟩ := F_gd H
      refine ev_ga (p' := 16) (v := (gE (σ) 65 (l_3 : Int32).toNatClampNeg)) rfl rfl ly_65 rfl (gd_in b_2) rfl ?_
      refine ev_x (i := .iadd) (len := 1) (p' := 17) (s' := [.int (l_2 + (gE (σ) 65 (l_3 : Int32).toNatClampNeg))]) rfl rfl rfl ?_
      refine ev_x (i := .ldc 81) (len := 2) (p' := 19) (s' := [.int (-1640531535), .int (l_2 + (gE (σ) 65 (l_3 : Int32).toNatClampNeg))]) rfl rfl rfl ?_
      refine ev_x (i := .imul) (len := 1) (p' := 20) (s' := [.int ((l_2 + (gE (σ) 65 (l_3 : Int32).toNatClampNeg)) * (-1640531535))]) rfl rfl rfl ?_
      refine ev_x (i := .istore_n 2) (len := 1) (p' := 21) (s' := []) (l' := vz_s1 (lv) 2 (.int ((l_2 + (gE (σ) 65 (l_3 : Int32).toNatClampNeg)) * (-1640531535)))) rfl rfl rfl ?_
      refine ev_x (i := .iinc 3 1) (len := 3) (p' := 24) (s' := []) (l' := vz_s1 (vz_s1 (lv) 2 (.int ((l_2 + (gE (σ) 65 (l_3 : Int32).toNatClampNeg)) * (-1640531535)))) 3 (.int (l_3 + 1))) rfl rfl (ld_inc (vg_o (i := 2) (v := .int ((l_2 + (gE (σ) 65 (l_3 : Int32).toNatClampNeg)) * (-1640531535))) g_3 (by decide) (Or.inl rfl)) rfl) ?_
      refine ev_x (i := .goto (-20)) (len := 3) (p' := 4) (s' := []) rfl rfl rfl ?_
      exact ih _ _ _ _ _ (vg_o (i := 3) (v := .int (l_3 + 1)) (vg_o (i := 2) (v := .int ((l_2 + (gE (σ) 65 (l_3 : Int32).toNatClampNeg)) * (-1640531535))) g_0 (by decide) (Or.inl rfl)) (by decide) (Or.inl rfl)) (vg_o (i := 3) (v := .int (l_3 + 1)) (vg_o (i := 2) (v := .int ((l_2 + (gE (σ) 65 (l_3 : Int32).toNatClampNeg)) * (-1640531535))) g_1 (by decide) (Or.inl rfl)) (by decide) (Or.inl rfl)) (vg_o (i := 3) (v := .int (l_3 + 1)) (vg_s (lv) 2 (.int ((l_2 + (gE (σ) 65 (l_3 : Int32).toNatClampNeg)) * (-1640531535)))) (by decide) (Or.inl rfl)) (vg_s (vz_s1 (lv) 2 (.int ((l_2 + (gE (σ) 65 (l_3 : Int32).toNatClampNeg)) * (-1640531535)))) 3 (.int (l_3 + 1))) (nb_s1 (nb_s1 hnb rfl) rfl)  H
/-- GameText$Graph.slotOf([I)I -/
def F_111 (N : Nat) (σ : st_S) : Option (Int32 × st_S) :=
  L_111 N N 0 0 (σ)
set_option maxRecDepth 100000 in
theorem F_111_R {N : Nat} {σ : st_S} {p : Int32 × st_S} (H : F_111 N σ = some p) : gR p.2 = gR σ := by
  unfold F_111 at H
  exact (((L_111_R _ _ _ _ _ H)).trans rfl)
set_option maxHeartbeats 4000000 in
set_option maxRecDepth 100000 in
theorem F_111_ok {N d : Nat} {σ : st_S} {p : Int32 × st_S}  (H : F_111 N σ = some p) : vz_ev P0 (d + 1) 111 0 (lv_args 0 [.ref 52, .ref 65]) [] (hp σ) (.inl (some (.int p.1)), hp p.2) := by
  unfold F_111 at H
  refine ev_x (i := .iconst 0) (len := 1) (p' := 1) (s' := [.int 0]) rfl rfl rfl ?_
  refine ev_x (i := .istore_n 2) (len := 1) (p' := 2) (s' := []) (l' := [(2, .int 0), (0, .ref 52), (1, .ref 65)]) rfl rfl rfl ?_
  refine ev_x (i := .iconst 0) (len := 1) (p' := 3) (s' := [.int 0]) rfl rfl rfl ?_
  refine ev_x (i := .istore_n 3) (len := 1) (p' := 4) (s' := []) (l' := [(3, .int 0), (2, .int 0), (0, .ref 52), (1, .ref 65)]) rfl rfl rfl ?_
  exact (L_111_ok (d := d) N) _ _ _ _ _ rfl rfl rfl rfl rfl  H
/-- GameText$Graph.isHeld(I[I)Z, its loops -/
def L_112 (N : Nat) : Nat → Int32 → Int32 → st_S → Option (Int32 × st_S)
  | 0, _, _, _ => none
  | k + 1, l_3, l_4, σ =>
      if (gI σ 52 9) ≤ l_4 then
        some (1, σ)
      else
        if aB (l_3 + l_4) (gN σ 54) then
        if aB l_4 (gN σ 65) then
        if (gE (σ) 54 ((l_3 + l_4) : Int32).toNatClampNeg) = (gE (σ) 65 (l_4 : Int32).toNatClampNeg) then
          L_112 N k l_3 (l_4 + 1) (σ)
        else
          some (0, σ)
        else none
        else none
set_option maxRecDepth 100000 in
theorem L_112_R {N : Nat} : ∀ (k : Nat) (l_3 : Int32) (l_4 : Int32) (σ : st_S) (p : Int32 × st_S), L_112 N k l_3 l_4 σ = some p → gR p.2 = gR σ := by
  intro k
  induction k with
  | zero => intro l_3 l_4 σ p H; unfold L_112 at H; cases H
  | succ k ih =>
    intro l_3 l_4 σ p H
    unfold L_112 at H
    refine F_if H (fun _ H => ?_) (fun _ H => ?_)
    · obtain rfl := Option.some.inj H
      exact rfl
    · obtain ⟨_, H⟩ := F_gd H
      obtain ⟨_, H⟩ := F_gd H
      refine F_if H (fun _ H => ?_) (fun _ H => ?_)
      · exact (((ih _ _ _ _ H)).trans rfl)
      · obtain rfl := Option.some.inj H
        exact rfl
set_option maxHeartbeats 4000000 in
set_option maxRecDepth 100000 in
theorem L_112_ok {N d : Nat} : ∀ k : Nat, ∀ (l_3 : Int32) (l_4 : Int32) (σ : st_S) (lv : vz_L) (p : Int32 × st_S), vz_g lv 0 = some (.ref 52) → vz_g lv 2 = some (.ref 65) → vz_g lv 3 = some (.int l_3) → vz_g lv 4 = some (.int l_4) → vz_nbL (vz_gr P0) lv = true → L_112 N k l_3 l_4 σ = some p → vz_ev P0 (d + 1) 112 8 lv [] (hp σ) (.inl (some (.int p.1)), hp p.2) := by
  intro k
  induction k with
  | zero => intro l_3 l_4 σ lv p g_0 g_2 g_3 g_4 hnb H; unfold L_112 at H; cases H
  | succ k ih =>
    intro l_3 l_4 σ lv p g_0 g_2 g_3 g_4 hnb H
    unfold L_112 at H
    refine ev_x (i := .iload 4) (len := 2) (p' := 10) (s' := [.int l_4]) rfl rfl (ld_i g_4) ?_
    refine ev_x (i := .aload_n 0) (len := 1) (p' := 11) (s' := [.ref 52, .int l_4]) rfl rfl (ld_a g_0) ?_
    refine ev_gi (p' := 14) (v := (gI σ 52 9)) rfl rfl rfl ly_52 rfl rfl rfl ?_
    refine F_if H (fun c_1 H => ?_) (fun c_1 H => ?_)
    · refine ev_b2 (t := 41) (p' := 41) rfl rfl rfl (if_pos c_1) ?_
      refine ev_x (i := .iconst 1) (len := 1) (p' := 42) (s' := [.int 1]) rfl rfl rfl ?_
      obtain rfl := Option.some.inj H
      exact ev_iret rfl rfl rfl rfl
    · refine ev_b2 (t := 41) (p' := 17) rfl rfl rfl (if_neg c_1) ?_
      refine ev_x (i := .aload_n 0) (len := 1) (p' := 18) (s' := [.ref 52]) rfl rfl (ld_a g_0) ?_
      refine ev_gc (p' := 21) (v := 54) rfl rfl rfl ly_52 rfl rfl ?_
      refine ev_x (i := .iload_n 3) (len := 1) (p' := 22) (s' := [.int l_3, .ref 54]) rfl rfl (ld_i g_3) ?_
      refine ev_x (i := .iload 4) (len := 2) (p' := 24) (s' := [.int l_4, .int l_3, .ref 54]) rfl rfl (ld_i g_4) ?_
      refine ev_x (i := .iadd) (len := 1) (p' := 25) (s' := [.int (l_3 + l_4), .ref 54]) rfl rfl rfl ?_
      obtain ⟨b_2, H⟩ := F_gd H
      refine ev_ga (p' := 26) (v := (gE (σ) 54 ((l_3 + l_4) : Int32).toNatClampNeg)) rfl rfl ly_54 rfl (gd_in b_2) rfl ?_
      refine ev_x (i := .aload_n 2) (len := 1) (p' := 27) (s' := [.ref 65, .int (gE (σ) 54 ((l_3 + l_4) : Int32).toNatClampNeg)]) rfl rfl (ld_a g_2) ?_
      refine ev_x (i := .iload 4) (len := 2) (p' := 29) (s' := [.int l_4, .ref 65, .int (gE (σ) 54 ((l_3 + l_4) : Int32).toNatClampNeg)]) rfl rfl (ld_i g_4) ?_
      obtain ⟨b_3, H⟩ := F_gd H
      refine ev_ga (p' := 30) (v := (gE (σ) 65 (l_4 : Int32).toNatClampNeg)) rfl rfl ly_65 rfl (gd_in b_3) rfl ?_
      refine F_if H (fun c_4 H => ?_) (fun c_4 H => ?_)
      · refine ev_b2 (t := 35) (p' := 35) rfl rfl rfl (if_pos c_4) ?_
        refine ev_x (i := .iinc 4 1) (len := 3) (p' := 38) (s' := []) (l' := vz_s1 (lv) 4 (.int (l_4 + 1))) rfl rfl (ld_inc g_4 rfl) ?_
        refine ev_x (i := .goto (-30)) (len := 3) (p' := 8) (s' := []) rfl rfl rfl ?_
        exact ih _ _ _ _ _ (vg_o (i := 4) (v := .int (l_4 + 1)) g_0 (by decide) (Or.inl rfl)) (vg_o (i := 4) (v := .int (l_4 + 1)) g_2 (by decide) (Or.inl rfl)) (vg_o (i := 4) (v := .int (l_4 + 1)) g_3 (by decide) (Or.inl rfl)) (vg_s (lv) 4 (.int (l_4 + 1))) (nb_s1 hnb rfl)  H
      · refine ev_b2 (t := 35) (p' := 33) rfl rfl rfl (if_neg c_4) ?_
        refine ev_x (i := .iconst 0) (len := 1) (p' := 34) (s' := [.int 0]) rfl rfl rfl ?_
        obtain rfl := Option.some.inj H
        exact ev_iret rfl rfl rfl rfl
/-- GameText$Graph.isHeld(I[I)Z -/
def F_112 (N : Nat) (x_1 : Int32) (σ : st_S) : Option (Int32 × st_S) :=
  L_112 N N (x_1 * 12) 0 (σ)
set_option maxRecDepth 100000 in
theorem F_112_R {N : Nat} {x_1 : Int32} {σ : st_S} {p : Int32 × st_S} (H : F_112 N x_1 σ = some p) : gR p.2 = gR σ := by
  unfold F_112 at H
  exact (((L_112_R _ _ _ _ _ H)).trans rfl)
set_option maxHeartbeats 4000000 in
set_option maxRecDepth 100000 in
theorem F_112_ok {N d : Nat} {x_1 : Int32} {σ : st_S} {p : Int32 × st_S}  (H : F_112 N x_1 σ = some p) : vz_ev P0 (d + 1) 112 0 (lv_args 0 [.ref 52, .int x_1, .ref 65]) [] (hp σ) (.inl (some (.int p.1)), hp p.2) := by
  unfold F_112 at H
  refine ev_x (i := .iload_n 1) (len := 1) (p' := 1) (s' := [.int x_1]) rfl rfl rfl ?_
  refine ev_x (i := .bipush 12) (len := 2) (p' := 3) (s' := [.int 12, .int x_1]) rfl rfl rfl ?_
  refine ev_x (i := .imul) (len := 1) (p' := 4) (s' := [.int (x_1 * 12)]) rfl rfl rfl ?_
  refine ev_x (i := .istore_n 3) (len := 1) (p' := 5) (s' := []) (l' := [(3, .int (x_1 * 12)), (0, .ref 52), (1, .int x_1), (2, .ref 65)]) rfl rfl rfl ?_
  refine ev_x (i := .iconst 0) (len := 1) (p' := 6) (s' := [.int 0]) rfl rfl rfl ?_
  refine ev_x (i := .istore 4) (len := 2) (p' := 8) (s' := []) (l' := [(4, .int 0), (3, .int (x_1 * 12)), (0, .ref 52), (1, .int x_1), (2, .ref 65)]) rfl rfl rfl ?_
  exact (L_112_ok (d := d) N) _ _ _ _ _ rfl rfl rfl rfl rfl  H
/-- GameText$Graph.hold([I)V, from 61 -/
def J_113_61 (N : Nat) (σ : st_S) : Option (st_S) :=
  if acB (gN σ 65) (gN σ 54) 0 ((gI σ 52 10) * 12) (gI σ 52 9) then
  if aB (gI σ 52 10) (gN σ 55) then
  some (st_i (st_e (st_ac (σ) 65 (0 : Int32).toNatClampNeg 54 (((gI σ 52 10) * 12) : Int32).toNatClampNeg ((gI σ 52 9) : Int32).toNatClampNeg) 55 (((gI σ 52 10) : Int32).toNatClampNeg) 0) 52 10 ((gI σ 52 10) + 1))
  else none
  else none
set_option maxRecDepth 100000 in
theorem J_113_61_R {N : Nat} {σ : st_S} {p : st_S} (H : J_113_61 N σ = some p) : gR p = gR σ := by
  unfold J_113_61 at H
  obtain ⟨_, H⟩ := F_gd H
  obtain ⟨_, H⟩ := F_gd H
  obtain rfl := Option.some.inj H
  exact rfl
set_option maxHeartbeats 4000000 in
set_option maxRecDepth 100000 in
theorem J_113_61_ok {N d : Nat} {σ : st_S} {lv : vz_L} {p : st_S} (g_0 : vz_g lv 0 = some (.ref 52)) (g_1 : vz_g lv 1 = some (.ref 65)) (hnb : vz_nbL (vz_gr P0) lv = true)  (H : J_113_61 N σ = some p) : vz_ev P0 (d + 5) 113 61 lv [] (hp σ) (.inl none, hp p) := by
  unfold J_113_61 at H
  refine ev_x (i := .aload_n 1) (len := 1) (p' := 62) (s' := [.ref 65]) rfl rfl (ld_a g_1) ?_
  refine ev_x (i := .iconst 0) (len := 1) (p' := 63) (s' := [.int 0, .ref 65]) rfl rfl rfl ?_
  refine ev_x (i := .aload_n 0) (len := 1) (p' := 64) (s' := [.ref 52, .int 0, .ref 65]) rfl rfl (ld_a g_0) ?_
  refine ev_gc (p' := 67) (v := 54) rfl rfl rfl ly_52 rfl rfl ?_
  refine ev_x (i := .aload_n 0) (len := 1) (p' := 68) (s' := [.ref 52, .ref 54, .int 0, .ref 65]) rfl rfl (ld_a g_0) ?_
  refine ev_gi (p' := 71) (v := (gI σ 52 10)) rfl rfl rfl ly_52 rfl rfl rfl ?_
  refine ev_x (i := .bipush 12) (len := 2) (p' := 73) (s' := [.int 12, .int (gI σ 52 10), .ref 54, .int 0, .ref 65]) rfl rfl rfl ?_
  refine ev_x (i := .imul) (len := 1) (p' := 74) (s' := [.int ((gI σ 52 10) * 12), .ref 54, .int 0, .ref 65]) rfl rfl rfl ?_
  refine ev_x (i := .aload_n 0) (len := 1) (p' := 75) (s' := [.ref 52, .int ((gI σ 52 10) * 12), .ref 54, .int 0, .ref 65]) rfl rfl (ld_a g_0) ?_
  refine ev_gi (p' := 78) (v := (gI σ 52 9)) rfl rfl rfl ly_52 rfl rfl rfl ?_
  obtain ⟨b_5, H⟩ := F_gd H
  refine ev_ac (d := d + 4) (src := 65) (dst := 54) (p' := 81) rfl rfl rfl ly_65 ly_54 b_5 rfl rfl ?_
  refine ev_x (i := .aload_n 0) (len := 1) (p' := 82) (s' := [.ref 52]) rfl rfl (ld_a g_0) ?_
  refine ev_gc (p' := 85) (v := 55) rfl rfl rfl ly_52 rfl rfl ?_
  refine ev_x (i := .aload_n 0) (len := 1) (p' := 86) (s' := [.ref 52, .ref 55]) rfl rfl (ld_a g_0) ?_
  refine ev_gi (p' := 89) (v := (gI σ 52 10)) rfl rfl rfl ly_52 rfl rfl rfl ?_
  refine ev_x (i := .iconst 0) (len := 1) (p' := 90) (s' := [.int 0, .int (gI σ 52 10), .ref 55]) rfl rfl rfl ?_
  obtain ⟨b_6, H⟩ := F_gd H
  refine ev_pa (j := ((gI σ 52 10) : Int32).toNatClampNeg) (p' := 91) rfl rfl ly_55 rfl (gd_in b_6) rfl ?_
  refine ev_x (i := .aload_n 0) (len := 1) (p' := 92) (s' := [.ref 52]) rfl rfl (ld_a g_0) ?_
  refine ev_x (i := .dup) (len := 1) (p' := 93) (s' := [.ref 52, .ref 52]) rfl rfl rfl ?_
  refine ev_gi (p' := 96) (v := (gI σ 52 10)) rfl rfl rfl ly_52 rfl rfl rfl ?_
  refine ev_x (i := .iconst 1) (len := 1) (p' := 97) (s' := [.int 1, .int (gI σ 52 10), .ref 52]) rfl rfl rfl ?_
  refine ev_x (i := .iadd) (len := 1) (p' := 98) (s' := [.int ((gI σ 52 10) + 1), .ref 52]) rfl rfl rfl ?_
  refine ev_pi (p' := 101) rfl rfl rfl ly_52 rfl rfl rfl rfl ?_
  obtain rfl := Option.some.inj H
  exact ev_vret rfl rfl rfl
/-- GameText$Graph.hold([I)V -/
def F_113 (N : Nat) (σ : st_S) : Option (st_S) :=
  if (gI σ 52 10) < (nI (gN σ 55)) then
    J_113_61 N (σ)
  else
    if gwB (σ) 54 ((2 * (nI (gN σ 55))) * 12) then
    if gwB (st_gw (σ) 54 (gN σ 54) (((2 * (nI (gN σ 55))) * 12) : Int32).toNatClampNeg) 55 (2 * (nI (gN σ 55))) then
    if gwB (st_gw (st_gw (σ) 54 (gN σ 54) (((2 * (nI (gN σ 55))) * 12) : Int32).toNatClampNeg) 55 (gN σ 55) ((2 * (nI (gN σ 55))) : Int32).toNatClampNeg) 56 ((2 * (nI (gN σ 55))) + 1) then
    J_113_61 N (st_gw (st_gw (st_gw (σ) 54 (gN σ 54) (((2 * (nI (gN σ 55))) * 12) : Int32).toNatClampNeg) 55 (gN σ 55) ((2 * (nI (gN σ 55))) : Int32).toNatClampNeg) 56 (gN σ 56) (((2 * (nI (gN σ 55))) + 1) : Int32).toNatClampNeg)
    else none
    else none
    else none
set_option maxRecDepth 100000 in
theorem F_113_R {N : Nat} {σ : st_S} {p : st_S} (H : F_113 N σ = some p) : gR p = gR σ := by
  unfold F_113 at H
  refine F_if H (fun _ H => ?_) (fun _ H => ?_)
  · exact (((J_113_61_R H)).trans rfl)
  · obtain ⟨_, H⟩ := F_gd H
    obtain ⟨_, H⟩ := F_gd H
    obtain ⟨_, H⟩ := F_gd H
    exact (((J_113_61_R H)).trans ((gR_gw _ _ _ _).trans ((gR_gw _ _ _ _).trans ((gR_gw _ _ _ _).trans rfl))))
set_option maxHeartbeats 4000000 in
set_option maxRecDepth 100000 in
theorem F_113_ok {N d : Nat} {σ : st_S} {p : st_S}  (H : F_113 N σ = some p) : vz_ev P0 (d + 5) 113 0 (lv_args 0 [.ref 52, .ref 65]) [] (hp σ) (.inl none, hp p) := by
  unfold F_113 at H
  refine ev_x (i := .aload_n 0) (len := 1) (p' := 1) (s' := [.ref 52]) rfl rfl rfl ?_
  refine ev_gi (p' := 4) (v := (gI σ 52 10)) rfl rfl rfl ly_52 rfl rfl rfl ?_
  refine ev_x (i := .aload_n 0) (len := 1) (p' := 5) (s' := [.ref 52, .int (gI σ 52 10)]) rfl rfl rfl ?_
  refine ev_gc (p' := 8) (v := 55) rfl rfl rfl ly_52 rfl rfl ?_
  refine ev_al (p' := 9) (v := (nI (gN σ 55))) rfl rfl ly_55 (by decide) (by decide) rfl rfl ?_
  refine F_if H (fun c_1 H => ?_) (fun c_1 H => ?_)
  · refine ev_b2 (t := 61) (p' := 61) rfl rfl rfl (if_pos c_1) ?_
    exact J_113_61_ok (d := d) rfl rfl rfl  H
  · refine ev_b2 (t := 61) (p' := 12) rfl rfl rfl (if_neg c_1) ?_
    refine ev_x (i := .iconst 2) (len := 1) (p' := 13) (s' := [.int 2]) rfl rfl rfl ?_
    refine ev_x (i := .aload_n 0) (len := 1) (p' := 14) (s' := [.ref 52, .int 2]) rfl rfl rfl ?_
    refine ev_gc (p' := 17) (v := 55) rfl rfl rfl ly_52 rfl rfl ?_
    refine ev_al (p' := 18) (v := (nI (gN σ 55))) rfl rfl ly_55 (by decide) (by decide) rfl rfl ?_
    refine ev_x (i := .imul) (len := 1) (p' := 19) (s' := [.int (2 * (nI (gN σ 55)))]) rfl rfl rfl ?_
    refine ev_x (i := .istore_n 2) (len := 1) (p' := 20) (s' := []) (l' := [(2, .int (2 * (nI (gN σ 55)))), (0, .ref 52), (1, .ref 65)]) rfl rfl rfl ?_
    refine ev_x (i := .aload_n 0) (len := 1) (p' := 21) (s' := [.ref 52]) rfl rfl rfl ?_
    refine ev_x (i := .aload_n 0) (len := 1) (p' := 22) (s' := [.ref 52, .ref 52]) rfl rfl rfl ?_
    refine ev_gc (p' := 25) (v := 54) rfl rfl rfl ly_52 rfl rfl ?_
    refine ev_x (i := .iload_n 2) (len := 1) (p' := 26) (s' := [.int (2 * (nI (gN σ 55))), .ref 54, .ref 52]) rfl rfl rfl ?_
    refine ev_x (i := .bipush 12) (len := 2) (p' := 28) (s' := [.int 12, .int (2 * (nI (gN σ 55))), .ref 54, .ref 52]) rfl rfl rfl ?_
    refine ev_x (i := .imul) (len := 1) (p' := 29) (s' := [.int ((2 * (nI (gN σ 55))) * 12), .ref 54, .ref 52]) rfl rfl rfl ?_
    obtain ⟨b_2, H⟩ := F_gd H
    refine ev_gw (d := d + 0) (k := 54) (p' := 35) rfl rfl rfl rfl rfl rfl ly_52 rfl ly_54 (fun _ => rfl) rfl rfl rfl rfl rfl b_2 rfl ?_
    refine ev_x (i := .aload_n 0) (len := 1) (p' := 36) (s' := [.ref 52]) rfl rfl rfl ?_
    refine ev_x (i := .aload_n 0) (len := 1) (p' := 37) (s' := [.ref 52, .ref 52]) rfl rfl rfl ?_
    refine ev_gc (p' := 40) (v := 55) rfl rfl rfl ly_52 rfl rfl ?_
    refine ev_x (i := .iload_n 2) (len := 1) (p' := 41) (s' := [.int (2 * (nI (gN σ 55))), .ref 55, .ref 52]) rfl rfl rfl ?_
    obtain ⟨b_3, H⟩ := F_gd H
    refine ev_gw (d := d + 0) (k := 55) (p' := 47) rfl rfl rfl rfl rfl rfl ly_52 rfl ly_55 (fun _ => rfl) rfl rfl rfl rfl rfl b_3 rfl ?_
    refine ev_x (i := .aload_n 0) (len := 1) (p' := 48) (s' := [.ref 52]) rfl rfl rfl ?_
    refine ev_x (i := .aload_n 0) (len := 1) (p' := 49) (s' := [.ref 52, .ref 52]) rfl rfl rfl ?_
    refine ev_gc (p' := 52) (v := 56) rfl rfl rfl ly_52 rfl rfl ?_
    refine ev_x (i := .iload_n 2) (len := 1) (p' := 53) (s' := [.int (2 * (nI (gN σ 55))), .ref 56, .ref 52]) rfl rfl rfl ?_
    refine ev_x (i := .iconst 1) (len := 1) (p' := 54) (s' := [.int 1, .int (2 * (nI (gN σ 55))), .ref 56, .ref 52]) rfl rfl rfl ?_
    refine ev_x (i := .iadd) (len := 1) (p' := 55) (s' := [.int ((2 * (nI (gN σ 55))) + 1), .ref 56, .ref 52]) rfl rfl rfl ?_
    obtain ⟨b_4, H⟩ := F_gd H
    refine ev_gw (d := d + 0) (k := 56) (p' := 61) rfl rfl rfl rfl rfl rfl ly_52 rfl ly_56 (fun _ => rfl) rfl rfl rfl rfl rfl b_4 rfl ?_
    exact J_113_61_ok (d := d) rfl rfl rfl  H
/-- GameText$Graph.find([I)I, from 63 -/
def J_110_63 (N : Nat) (l_2 : Int32) (σ : st_S) : Option (Int32 × st_S) :=
  if (gI σ 52 10) < 512 then
    if aB l_2 (gN σ 53) then
    (F_113 N (st_e (σ) 53 ((l_2 : Int32).toNatClampNeg) ((gI σ 52 10) + 1))).bind fun p_10 =>
    some (((gI p_10 52 10) - 1), p_10)
    else none
  else
    some ((-1), σ)
set_option maxRecDepth 100000 in
theorem J_110_63_R {N : Nat} {l_2 : Int32} {σ : st_S} {p : Int32 × st_S} (H : J_110_63 N l_2 σ = some p) : gR p.2 = gR σ := by
  unfold J_110_63 at H
  refine F_if H (fun _ H => ?_) (fun _ H => ?_)
  · obtain ⟨_, H⟩ := F_gd H
    obtain ⟨p_10, G_10, H⟩ := F_bd H
    obtain rfl := Option.some.inj H
    exact ((F_113_R G_10).trans rfl)
  · obtain rfl := Option.some.inj H
    exact rfl
set_option maxHeartbeats 4000000 in
set_option maxRecDepth 100000 in
theorem J_110_63_ok {N d : Nat} {l_2 : Int32} {σ : st_S} {lv : vz_L} {p : Int32 × st_S} (g_0 : vz_g lv 0 = some (.ref 52)) (g_1 : vz_g lv 1 = some (.ref 65)) (g_2 : vz_g lv 2 = some (.int l_2)) (hnb : vz_nbL (vz_gr P0) lv = true)  (H : J_110_63 N l_2 σ = some p) : vz_ev P0 (d + 6) 110 63 lv [] (hp σ) (.inl (some (.int p.1)), hp p.2) := by
  unfold J_110_63 at H
  refine ev_x (i := .aload_n 0) (len := 1) (p' := 64) (s' := [.ref 52]) rfl rfl (ld_a g_0) ?_
  refine ev_gi (p' := 67) (v := (gI σ 52 10)) rfl rfl rfl ly_52 rfl rfl rfl ?_
  refine ev_x (i := .sipush 512) (len := 3) (p' := 70) (s' := [.int 512, .int (gI σ 52 10)]) rfl rfl rfl ?_
  refine F_if H (fun c_8 H => ?_) (fun c_8 H => ?_)
  · refine ev_b2 (t := 75) (p' := 75) rfl rfl rfl (if_pos c_8) ?_
    refine ev_x (i := .aload_n 0) (len := 1) (p' := 76) (s' := [.ref 52]) rfl rfl (ld_a g_0) ?_
    refine ev_gc (p' := 79) (v := 53) rfl rfl rfl ly_52 rfl rfl ?_
    refine ev_x (i := .iload_n 2) (len := 1) (p' := 80) (s' := [.int l_2, .ref 53]) rfl rfl (ld_i g_2) ?_
    refine ev_x (i := .aload_n 0) (len := 1) (p' := 81) (s' := [.ref 52, .int l_2, .ref 53]) rfl rfl (ld_a g_0) ?_
    refine ev_gi (p' := 84) (v := (gI σ 52 10)) rfl rfl rfl ly_52 rfl rfl rfl ?_
    refine ev_x (i := .iconst 1) (len := 1) (p' := 85) (s' := [.int 1, .int (gI σ 52 10), .int l_2, .ref 53]) rfl rfl rfl ?_
    refine ev_x (i := .iadd) (len := 1) (p' := 86) (s' := [.int ((gI σ 52 10) + 1), .int l_2, .ref 53]) rfl rfl rfl ?_
    obtain ⟨b_9, H⟩ := F_gd H
    refine ev_pa (j := (l_2 : Int32).toNatClampNeg) (p' := 87) rfl rfl ly_53 rfl (gd_in b_9) rfl ?_
    refine ev_x (i := .aload_n 0) (len := 1) (p' := 88) (s' := [.ref 52]) rfl rfl (ld_a g_0) ?_
    refine ev_x (i := .aload_n 1) (len := 1) (p' := 89) (s' := [.ref 65, .ref 52]) rfl rfl (ld_a g_1) ?_
    obtain ⟨p_10, G_10, H⟩ := F_bd H
    refine ev_cv (d := d + 5) (As := [.ref 65]) (a := 52) (p' := 92) rfl rfl rfl ly_52 rfl rfl rfl rfl rfl hnb rfl (F_113_ok (d := d + 0)   G_10) ?_
    refine ev_st (st' := []) rfl ?_
    have e_10 := F_113_R G_10
    refine ev_x (i := .aload_n 0) (len := 1) (p' := 93) (s' := [.ref 52]) rfl rfl (ld_a g_0) ?_
    refine ev_gi (p' := 96) (v := (gI p_10 52 10)) rfl rfl rfl ly_52 rfl rfl rfl ?_
    refine ev_x (i := .iconst 1) (len := 1) (p' := 97) (s' := [.int 1, .int (gI p_10 52 10)]) rfl rfl rfl ?_
    refine ev_x (i := .isub) (len := 1) (p' := 98) (s' := [.int ((gI p_10 52 10) - 1)]) rfl rfl rfl ?_
    obtain rfl := Option.some.inj H
    exact ev_iret rfl rfl rfl rfl
  · refine ev_b2 (t := 75) (p' := 73) rfl rfl rfl (if_neg c_8) ?_
    refine ev_x (i := .iconst (-1)) (len := 1) (p' := 74) (s' := [.int (-1)]) rfl rfl rfl ?_
    obtain rfl := Option.some.inj H
    exact ev_iret rfl rfl rfl rfl
/-- GameText$Graph.find([I)I, its loops -/
def L_110 (N : Nat) : Nat → Int32 → Int32 → st_S → Option (Int32 × st_S)
  | 0, _, _, _ => none
  | k + 1, l_2, l_3, σ =>
      if 1024 ≤ l_3 then
        J_110_63 N l_2 (σ)
      else
        if aB l_2 (gN σ 53) then
        if (gE (σ) 53 (l_2 : Int32).toNatClampNeg) = 0 then
          J_110_63 N l_2 (σ)
        else
          (F_112 N ((gE (σ) 53 (l_2 : Int32).toNatClampNeg) - 1) (σ)).bind fun p_5 =>
          if p_5.1 = 0 then
            L_110 N k ((l_2 + 1) &&& 1023) (l_3 + 1) (p_5.2)
          else
            if aB l_2 (gN p_5.2 53) then
            some (((gE (p_5.2) 53 (l_2 : Int32).toNatClampNeg) - 1), p_5.2)
            else none
        else none
set_option maxRecDepth 100000 in
theorem L_110_R {N : Nat} : ∀ (k : Nat) (l_2 : Int32) (l_3 : Int32) (σ : st_S) (p : Int32 × st_S), L_110 N k l_2 l_3 σ = some p → gR p.2 = gR σ := by
  intro k
  induction k with
  | zero => intro l_2 l_3 σ p H; unfold L_110 at H; cases H
  | succ k ih =>
    intro l_2 l_3 σ p H
    unfold L_110 at H
    refine F_if H (fun _ H => ?_) (fun _ H => ?_)
    · exact (((J_110_63_R H)).trans rfl)
    · obtain ⟨_, H⟩ := F_gd H
      refine F_if H (fun _ H => ?_) (fun _ H => ?_)
      · exact (((J_110_63_R H)).trans rfl)
      · obtain ⟨p_5, G_5, H⟩ := F_bd H
        refine F_if H (fun _ H => ?_) (fun _ H => ?_)
        · exact (((ih _ _ _ _ H)).trans ((F_112_R G_5).trans rfl))
        · obtain ⟨_, H⟩ := F_gd H
          obtain rfl := Option.some.inj H
          exact ((F_112_R G_5).trans rfl)
set_option maxHeartbeats 4000000 in
set_option maxRecDepth 100000 in
theorem L_110_ok {N d : Nat} : ∀ k : Nat, ∀ (l_2 : Int32) (l_3 : Int32) (σ : st_S) (lv : vz_L) (p : Int32 × st_S), vz_g lv 0 = some (.ref 52) → vz_g lv 1 = some (.ref 65) → vz_g lv 2 = some (.int l_2) → vz_g lv 3 = some (.int l_3) → vz_nbL (vz_gr P0) lv = true → L_110 N k l_2 l_3 σ = some p → vz_ev P0 (d + 6) 110 8 lv [] (hp σ) (.inl (some (.int p.1)), hp p.2) := by
  intro k
  induction k with
  | zero => intro l_2 l_3 σ lv p g_0 g_1 g_2 g_3 hnb H; unfold L_110 at H; cases H
  | succ k ih =>
    intro l_2 l_3 σ lv p g_0 g_1 g_2 g_3 hnb H
    unfold L_110 at H
    refine ev_x (i := .iload_n 3) (len := 1) (p' := 9) (s' := [.int l_3]) rfl rfl (ld_i g_3) ?_
    refine ev_x (i := .sipush 1024) (len := 3) (p' := 12) (s' := [.int 1024, .int l_3]) rfl rfl rfl ?_
    refine F_if H (fun c_2 H => ?_) (fun c_2 H => ?_)
    · refine ev_b2 (t := 63) (p' := 63) rfl rfl rfl (if_pos c_2) ?_
      exact J_110_63_ok (d := d) g_0 g_1 g_2 hnb  H
    · refine ev_b2 (t := 63) (p' := 15) rfl rfl rfl (if_neg c_2) ?_
      refine ev_x (i := .aload_n 0) (len := 1) (p' := 16) (s' := [.ref 52]) rfl rfl (ld_a g_0) ?_
      refine ev_gc (p' := 19) (v := 53) rfl rfl rfl ly_52 rfl rfl ?_
      refine ev_x (i := .iload_n 2) (len := 1) (p' := 20) (s' := [.int l_2, .ref 53]) rfl rfl (ld_i g_2) ?_
      obtain ⟨b_3, H⟩ := F_gd H
      refine ev_ga (p' := 21) (v := (gE (σ) 53 (l_2 : Int32).toNatClampNeg)) rfl rfl ly_53 rfl (gd_in b_3) rfl ?_
      refine F_if H (fun c_4 H => ?_) (fun c_4 H => ?_)
      · refine ev_b0 (t := 63) (p' := 63) rfl rfl rfl (if_pos c_4) ?_
        exact J_110_63_ok (d := d) g_0 g_1 g_2 hnb  H
      · refine ev_b0 (t := 63) (p' := 24) rfl rfl rfl (if_neg c_4) ?_
        refine ev_x (i := .aload_n 0) (len := 1) (p' := 25) (s' := [.ref 52]) rfl rfl (ld_a g_0) ?_
        refine ev_x (i := .aload_n 0) (len := 1) (p' := 26) (s' := [.ref 52, .ref 52]) rfl rfl (ld_a g_0) ?_
        refine ev_gc (p' := 29) (v := 53) rfl rfl rfl ly_52 rfl rfl ?_
        refine ev_x (i := .iload_n 2) (len := 1) (p' := 30) (s' := [.int l_2, .ref 53, .ref 52]) rfl rfl (ld_i g_2) ?_
        refine ev_ga (p' := 31) (v := (gE (σ) 53 (l_2 : Int32).toNatClampNeg)) rfl rfl ly_53 rfl (gd_in b_3) rfl ?_
        refine ev_x (i := .iconst 1) (len := 1) (p' := 32) (s' := [.int 1, .int (gE (σ) 53 (l_2 : Int32).toNatClampNeg), .ref 52]) rfl rfl rfl ?_
        refine ev_x (i := .isub) (len := 1) (p' := 33) (s' := [.int ((gE (σ) 53 (l_2 : Int32).toNatClampNeg) - 1), .ref 52]) rfl rfl rfl ?_
        refine ev_x (i := .aload_n 1) (len := 1) (p' := 34) (s' := [.ref 65, .int ((gE (σ) 53 (l_2 : Int32).toNatClampNeg) - 1), .ref 52]) rfl rfl (ld_a g_1) ?_
        obtain ⟨p_5, G_5, H⟩ := F_bd H
        refine ev_cv (d := d + 5) (As := [.int ((gE (σ) 53 (l_2 : Int32).toNatClampNeg) - 1), .ref 65]) (a := 52) (p' := 37) rfl rfl rfl ly_52 rfl rfl rfl rfl rfl hnb rfl (F_112_ok (d := d + 4)   G_5) ?_
        refine ev_st (st' := [.int p_5.1]) rfl ?_
        have e_5 := F_112_R G_5
        refine F_if H (fun c_6 H => ?_) (fun c_6 H => ?_)
        · refine ev_b0 (t := 49) (p' := 49) rfl rfl rfl (if_pos c_6) ?_
          refine ev_x (i := .iload_n 2) (len := 1) (p' := 50) (s' := [.int l_2]) rfl rfl (ld_i g_2) ?_
          refine ev_x (i := .iconst 1) (len := 1) (p' := 51) (s' := [.int 1, .int l_2]) rfl rfl rfl ?_
          refine ev_x (i := .iadd) (len := 1) (p' := 52) (s' := [.int (l_2 + 1)]) rfl rfl rfl ?_
          refine ev_x (i := .sipush 1023) (len := 3) (p' := 55) (s' := [.int 1023, .int (l_2 + 1)]) rfl rfl rfl ?_
          refine ev_x (i := .iand) (len := 1) (p' := 56) (s' := [.int ((l_2 + 1) &&& 1023)]) rfl rfl rfl ?_
          refine ev_x (i := .istore_n 2) (len := 1) (p' := 57) (s' := []) (l' := vz_s1 (lv) 2 (.int ((l_2 + 1) &&& 1023))) rfl rfl rfl ?_
          refine ev_x (i := .iinc 3 1) (len := 3) (p' := 60) (s' := []) (l' := vz_s1 (vz_s1 (lv) 2 (.int ((l_2 + 1) &&& 1023))) 3 (.int (l_3 + 1))) rfl rfl (ld_inc (vg_o (i := 2) (v := .int ((l_2 + 1) &&& 1023)) g_3 (by decide) (Or.inl rfl)) rfl) ?_
          refine ev_x (i := .goto (-52)) (len := 3) (p' := 8) (s' := []) rfl rfl rfl ?_
          exact ih _ _ _ _ _ (vg_o (i := 3) (v := .int (l_3 + 1)) (vg_o (i := 2) (v := .int ((l_2 + 1) &&& 1023)) g_0 (by decide) (Or.inl rfl)) (by decide) (Or.inl rfl)) (vg_o (i := 3) (v := .int (l_3 + 1)) (vg_o (i := 2) (v := .int ((l_2 + 1) &&& 1023)) g_1 (by decide) (Or.inl rfl)) (by decide) (Or.inl rfl)) (vg_o (i := 3) (v := .int (l_3 + 1)) (vg_s (lv) 2 (.int ((l_2 + 1) &&& 1023))) (by decide) (Or.inl rfl)) (vg_s (vz_s1 (lv) 2 (.int ((l_2 + 1) &&& 1023))) 3 (.int (l_3 + 1))) (nb_s1 (nb_s1 hnb rfl) rfl)  H
        · refine ev_b0 (t := 49) (p' := 40) rfl rfl rfl (if_neg c_6) ?_
          refine ev_x (i := .aload_n 0) (len := 1) (p' := 41) (s' := [.ref 52]) rfl rfl (ld_a g_0) ?_
          refine ev_gc (p' := 44) (v := 53) rfl rfl rfl ly_52 rfl rfl ?_
          refine ev_x (i := .iload_n 2) (len := 1) (p' := 45) (s' := [.int l_2, .ref 53]) rfl rfl (ld_i g_2) ?_
          obtain ⟨b_7, H⟩ := F_gd H
          refine ev_ga (p' := 46) (v := (gE (p_5.2) 53 (l_2 : Int32).toNatClampNeg)) rfl rfl ly_53 rfl (gd_in b_7) rfl ?_
          refine ev_x (i := .iconst 1) (len := 1) (p' := 47) (s' := [.int 1, .int (gE (p_5.2) 53 (l_2 : Int32).toNatClampNeg)]) rfl rfl rfl ?_
          refine ev_x (i := .isub) (len := 1) (p' := 48) (s' := [.int ((gE (p_5.2) 53 (l_2 : Int32).toNatClampNeg) - 1)]) rfl rfl rfl ?_
          obtain rfl := Option.some.inj H
          exact ev_iret rfl rfl rfl rfl
/-- GameText$Graph.find([I)I -/
def F_110 (N : Nat) (σ : st_S) : Option (Int32 × st_S) :=
  (F_111 N (σ)).bind fun p_1 =>
  L_110 N N p_1.1 0 (p_1.2)
set_option maxRecDepth 100000 in
theorem F_110_R {N : Nat} {σ : st_S} {p : Int32 × st_S} (H : F_110 N σ = some p) : gR p.2 = gR σ := by
  unfold F_110 at H
  obtain ⟨p_1, G_1, H⟩ := F_bd H
  exact (((L_110_R _ _ _ _ _ H)).trans ((F_111_R G_1).trans rfl))
set_option maxHeartbeats 4000000 in
set_option maxRecDepth 100000 in
theorem F_110_ok {N d : Nat} {σ : st_S} {p : Int32 × st_S}  (H : F_110 N σ = some p) : vz_ev P0 (d + 6) 110 0 (lv_args 0 [.ref 52, .ref 65]) [] (hp σ) (.inl (some (.int p.1)), hp p.2) := by
  unfold F_110 at H
  refine ev_x (i := .aload_n 0) (len := 1) (p' := 1) (s' := [.ref 52]) rfl rfl rfl ?_
  refine ev_x (i := .aload_n 1) (len := 1) (p' := 2) (s' := [.ref 65, .ref 52]) rfl rfl rfl ?_
  obtain ⟨p_1, G_1, H⟩ := F_bd H
  refine ev_cv (d := d + 5) (As := [.ref 65]) (a := 52) (p' := 5) rfl rfl rfl ly_52 rfl rfl rfl rfl rfl rfl rfl (F_111_ok (d := d + 4)   G_1) ?_
  refine ev_st (st' := [.int p_1.1]) rfl ?_
  have e_1 := F_111_R G_1
  refine ev_x (i := .istore_n 2) (len := 1) (p' := 6) (s' := []) (l' := [(2, .int p_1.1), (0, .ref 52), (1, .ref 65)]) rfl rfl rfl ?_
  refine ev_x (i := .iconst 0) (len := 1) (p' := 7) (s' := [.int 0]) rfl rfl rfl ?_
  refine ev_x (i := .istore_n 3) (len := 1) (p' := 8) (s' := []) (l' := [(3, .int 0), (2, .int p_1.1), (0, .ref 52), (1, .ref 65)]) rfl rfl rfl ?_
  exact (L_110_ok (d := d) N) _ _ _ _ _ rfl rfl rfl rfl rfl  H
/-- GameText$Graph.slotOf([I)I, its loops -/
def L_111b (N : Nat) (t : Nat) : Nat → Int32 → Int32 → st_S → Option (Int32 × st_S)
  | 0, _, _, _ => none
  | k + 1, l_2, l_3, σ =>
      if (gI σ 52 9) ≤ l_3 then
        some (((l_2 ^^^ ((l_2).toUInt32 >>> ((16 : Int32).toUInt32 &&& Int32.toUInt32 31)).toInt32) &&& 1023), σ)
      else
        if aB l_3 (gN σ (t + 12)) then
        L_111b N t k ((l_2 + (gE (σ) (t + 12) (l_3 : Int32).toNatClampNeg)) * (-1640531535)) (l_3 + 1) (σ)
        else none
set_option maxRecDepth 100000 in
theorem L_111b_R {N : Nat} {t : Nat} : ∀ (k : Nat) (l_2 : Int32) (l_3 : Int32) (σ : st_S) (p : Int32 × st_S), L_111b N t k l_2 l_3 σ = some p → gR p.2 = gR σ := by
  intro k
  induction k with
  | zero => intro l_2 l_3 σ p H; unfold L_111b at H; cases H
  | succ k ih =>
    intro l_2 l_3 σ p H
    unfold L_111b at H
    refine F_if H (fun _ H => ?_) (fun _ H => ?_)
    · obtain rfl := Option.some.inj H
      exact rfl
    · obtain ⟨_, H⟩ := F_gd H
      exact (((ih _ _ _ _ H)).trans rfl)
set_option maxHeartbeats 4000000 in
set_option maxRecDepth 100000 in
theorem L_111b_ok {N d : Nat} {t : Nat} (ht : t = 4 ∨ t = 20) : ∀ k : Nat, ∀ (l_2 : Int32) (l_3 : Int32) (σ : st_S) (lv : vz_L) (p : Int32 × st_S), vz_g lv 0 = some (.ref 52) → vz_g lv 1 = some (.ref (t + 12)) → vz_g lv 2 = some (.int l_2) → vz_g lv 3 = some (.int l_3) → vz_nbL (vz_gr P0) lv = true → L_111b N t k l_2 l_3 σ = some p → vz_ev P0 (d + 1) 111 4 lv [] (hp σ) (.inl (some (.int p.1)), hp p.2) := by
  rcases ht with rfl | rfl
  · intro k
    induction k with
    | zero => intro l_2 l_3 σ lv p g_0 g_1 g_2 g_3 hnb H; unfold L_111b at H; cases H
    | succ k ih =>
      intro l_2 l_3 σ lv p g_0 g_1 g_2 g_3 hnb H
      unfold L_111b at H
      refine ev_x (i := .iload_n 3) (len := 1) (p' := 5) (s' := [.int l_3]) rfl rfl (ld_i g_3) ?_
      refine ev_x (i := .aload_n 0) (len := 1) (p' := 6) (s' := [.ref 52, .int l_3]) rfl rfl (ld_a g_0) ?_
      refine ev_gi (p' := 9) (v := (gI σ 52 9)) rfl rfl rfl ly_52 rfl rfl rfl ?_
      refine F_if H (fun c_1 H => ?_) (fun c_1 H => ?_)
      · refine ev_b2 (t := 27) (p' := 27) rfl rfl rfl (if_pos c_1) ?_
        refine ev_x (i := .iload_n 2) (len := 1) (p' := 28) (s' := [.int l_2]) rfl rfl (ld_i g_2) ?_
        refine ev_x (i := .iload_n 2) (len := 1) (p' := 29) (s' := [.int l_2, .int l_2]) rfl rfl (ld_i g_2) ?_
        refine ev_x (i := .bipush 16) (len := 2) (p' := 31) (s' := [.int 16, .int l_2, .int l_2]) rfl rfl rfl ?_
        refine ev_x (i := .iushr) (len := 1) (p' := 32) (s' := [.int ((l_2).toUInt32 >>> ((16 : Int32).toUInt32 &&& Int32.toUInt32 31)).toInt32, .int l_2]) rfl rfl rfl ?_
        refine ev_x (i := .ixor) (len := 1) (p' := 33) (s' := [.int (l_2 ^^^ ((l_2).toUInt32 >>> ((16 : Int32).toUInt32 &&& Int32.toUInt32 31)).toInt32)]) rfl rfl rfl ?_
        refine ev_x (i := .sipush 1023) (len := 3) (p' := 36) (s' := [.int 1023, .int (l_2 ^^^ ((l_2).toUInt32 >>> ((16 : Int32).toUInt32 &&& Int32.toUInt32 31)).toInt32)]) rfl rfl rfl ?_
        refine ev_x (i := .iand) (len := 1) (p' := 37) (s' := [.int ((l_2 ^^^ ((l_2).toUInt32 >>> ((16 : Int32).toUInt32 &&& Int32.toUInt32 31)).toInt32) &&& 1023)]) rfl rfl rfl ?_
        obtain rfl := Option.some.inj H
        exact ev_iret rfl rfl rfl rfl
      · refine ev_b2 (t := 27) (p' := 12) rfl rfl rfl (if_neg c_1) ?_
        refine ev_x (i := .iload_n 2) (len := 1) (p' := 13) (s' := [.int l_2]) rfl rfl (ld_i g_2) ?_
        refine ev_x (i := .aload_n 1) (len := 1) (p' := 14) (s' := [.ref 16, .int l_2]) rfl rfl (ld_a g_1) ?_
        refine ev_x (i := .iload_n 3) (len := 1) (p' := 15) (s' := [.int l_3, .ref 16, .int l_2]) rfl rfl (ld_i g_3) ?_
        obtain ⟨b_2, H⟩ := F_gd H
        refine ev_ga (p' := 16) (v := (gE (σ) 16 (l_3 : Int32).toNatClampNeg)) rfl rfl ly_16 rfl (gd_in b_2) rfl ?_
        refine ev_x (i := .iadd) (len := 1) (p' := 17) (s' := [.int (l_2 + (gE (σ) 16 (l_3 : Int32).toNatClampNeg))]) rfl rfl rfl ?_
        refine ev_x (i := .ldc 81) (len := 2) (p' := 19) (s' := [.int (-1640531535), .int (l_2 + (gE (σ) 16 (l_3 : Int32).toNatClampNeg))]) rfl rfl rfl ?_
        refine ev_x (i := .imul) (len := 1) (p' := 20) (s' := [.int ((l_2 + (gE (σ) 16 (l_3 : Int32).toNatClampNeg)) * (-1640531535))]) rfl rfl rfl ?_
        refine ev_x (i := .istore_n 2) (len := 1) (p' := 21) (s' := []) (l' := vz_s1 (lv) 2 (.int ((l_2 + (gE (σ) 16 (l_3 : Int32).toNatClampNeg)) * (-1640531535)))) rfl rfl rfl ?_
        refine ev_x (i := .iinc 3 1) (len := 3) (p' := 24) (s' := []) (l' := vz_s1 (vz_s1 (lv) 2 (.int ((l_2 + (gE (σ) 16 (l_3 : Int32).toNatClampNeg)) * (-1640531535)))) 3 (.int (l_3 + 1))) rfl rfl (ld_inc (vg_o (i := 2) (v := .int ((l_2 + (gE (σ) 16 (l_3 : Int32).toNatClampNeg)) * (-1640531535))) g_3 (by decide) (Or.inl rfl)) rfl) ?_
        refine ev_x (i := .goto (-20)) (len := 3) (p' := 4) (s' := []) rfl rfl rfl ?_
        exact ih _ _ _ _ _ (vg_o (i := 3) (v := .int (l_3 + 1)) (vg_o (i := 2) (v := .int ((l_2 + (gE (σ) 16 (l_3 : Int32).toNatClampNeg)) * (-1640531535))) g_0 (by decide) (Or.inl rfl)) (by decide) (Or.inl rfl)) (vg_o (i := 3) (v := .int (l_3 + 1)) (vg_o (i := 2) (v := .int ((l_2 + (gE (σ) 16 (l_3 : Int32).toNatClampNeg)) * (-1640531535))) g_1 (by decide) (Or.inl rfl)) (by decide) (Or.inl rfl)) (vg_o (i := 3) (v := .int (l_3 + 1)) (vg_s (lv) 2 (.int ((l_2 + (gE (σ) 16 (l_3 : Int32).toNatClampNeg)) * (-1640531535)))) (by decide) (Or.inl rfl)) (vg_s (vz_s1 (lv) 2 (.int ((l_2 + (gE (σ) 16 (l_3 : Int32).toNatClampNeg)) * (-1640531535)))) 3 (.int (l_3 + 1))) (nb_s1 (nb_s1 hnb rfl) rfl)  H
  · intro k
    induction k with
    | zero => intro l_2 l_3 σ lv p g_0 g_1 g_2 g_3 hnb H; unfold L_111b at H; cases H
    | succ k ih =>
      intro l_2 l_3 σ lv p g_0 g_1 g_2 g_3 hnb H
      unfold L_111b at H
      refine ev_x (i := .iload_n 3) (len := 1) (p' := 5) (s' := [.int l_3]) rfl rfl (ld_i g_3) ?_
      refine ev_x (i := .aload_n 0) (len := 1) (p' := 6) (s' := [.ref 52, .int l_3]) rfl rfl (ld_a g_0) ?_
      refine ev_gi (p' := 9) (v := (gI σ 52 9)) rfl rfl rfl ly_52 rfl rfl rfl ?_
      refine F_if H (fun c_1 H => ?_) (fun c_1 H => ?_)
      · refine ev_b2 (t := 27) (p' := 27) rfl rfl rfl (if_pos c_1) ?_
        refine ev_x (i := .iload_n 2) (len := 1) (p' := 28) (s' := [.int l_2]) rfl rfl (ld_i g_2) ?_
        refine ev_x (i := .iload_n 2) (len := 1) (p' := 29) (s' := [.int l_2, .int l_2]) rfl rfl (ld_i g_2) ?_
        refine ev_x (i := .bipush 16) (len := 2) (p' := 31) (s' := [.int 16, .int l_2, .int l_2]) rfl rfl rfl ?_
        refine ev_x (i := .iushr) (len := 1) (p' := 32) (s' := [.int ((l_2).toUInt32 >>> ((16 : Int32).toUInt32 &&& Int32.toUInt32 31)).toInt32, .int l_2]) rfl rfl rfl ?_
        refine ev_x (i := .ixor) (len := 1) (p' := 33) (s' := [.int (l_2 ^^^ ((l_2).toUInt32 >>> ((16 : Int32).toUInt32 &&& Int32.toUInt32 31)).toInt32)]) rfl rfl rfl ?_
        refine ev_x (i := .sipush 1023) (len := 3) (p' := 36) (s' := [.int 1023, .int (l_2 ^^^ ((l_2).toUInt32 >>> ((16 : Int32).toUInt32 &&& Int32.toUInt32 31)).toInt32)]) rfl rfl rfl ?_
        refine ev_x (i := .iand) (len := 1) (p' := 37) (s' := [.int ((l_2 ^^^ ((l_2).toUInt32 >>> ((16 : Int32).toUInt32 &&& Int32.toUInt32 31)).toInt32) &&& 1023)]) rfl rfl rfl ?_
        obtain rfl := Option.some.inj H
        exact ev_iret rfl rfl rfl rfl
      · refine ev_b2 (t := 27) (p' := 12) rfl rfl rfl (if_neg c_1) ?_
        refine ev_x (i := .iload_n 2) (len := 1) (p' := 13) (s' := [.int l_2]) rfl rfl (ld_i g_2) ?_
        refine ev_x (i := .aload_n 1) (len := 1) (p' := 14) (s' := [.ref 32, .int l_2]) rfl rfl (ld_a g_1) ?_
        refine ev_x (i := .iload_n 3) (len := 1) (p' := 15) (s' := [.int l_3, .ref 32, .int l_2]) rfl rfl (ld_i g_3) ?_
        obtain ⟨b_2, H⟩ := F_gd H
        refine ev_ga (p' := 16) (v := (gE (σ) 32 (l_3 : Int32).toNatClampNeg)) rfl rfl ly_32 rfl (gd_in b_2) rfl ?_
        refine ev_x (i := .iadd) (len := 1) (p' := 17) (s' := [.int (l_2 + (gE (σ) 32 (l_3 : Int32).toNatClampNeg))]) rfl rfl rfl ?_
        refine ev_x (i := .ldc 81) (len := 2) (p' := 19) (s' := [.int (-1640531535), .int (l_2 + (gE (σ) 32 (l_3 : Int32).toNatClampNeg))]) rfl rfl rfl ?_
        refine ev_x (i := .imul) (len := 1) (p' := 20) (s' := [.int ((l_2 + (gE (σ) 32 (l_3 : Int32).toNatClampNeg)) * (-1640531535))]) rfl rfl rfl ?_
        refine ev_x (i := .istore_n 2) (len := 1) (p' := 21) (s' := []) (l' := vz_s1 (lv) 2 (.int ((l_2 + (gE (σ) 32 (l_3 : Int32).toNatClampNeg)) * (-1640531535)))) rfl rfl rfl ?_
        refine ev_x (i := .iinc 3 1) (len := 3) (p' := 24) (s' := []) (l' := vz_s1 (vz_s1 (lv) 2 (.int ((l_2 + (gE (σ) 32 (l_3 : Int32).toNatClampNeg)) * (-1640531535)))) 3 (.int (l_3 + 1))) rfl rfl (ld_inc (vg_o (i := 2) (v := .int ((l_2 + (gE (σ) 32 (l_3 : Int32).toNatClampNeg)) * (-1640531535))) g_3 (by decide) (Or.inl rfl)) rfl) ?_
        refine ev_x (i := .goto (-20)) (len := 3) (p' := 4) (s' := []) rfl rfl rfl ?_
        exact ih _ _ _ _ _ (vg_o (i := 3) (v := .int (l_3 + 1)) (vg_o (i := 2) (v := .int ((l_2 + (gE (σ) 32 (l_3 : Int32).toNatClampNeg)) * (-1640531535))) g_0 (by decide) (Or.inl rfl)) (by decide) (Or.inl rfl)) (vg_o (i := 3) (v := .int (l_3 + 1)) (vg_o (i := 2) (v := .int ((l_2 + (gE (σ) 32 (l_3 : Int32).toNatClampNeg)) * (-1640531535))) g_1 (by decide) (Or.inl rfl)) (by decide) (Or.inl rfl)) (vg_o (i := 3) (v := .int (l_3 + 1)) (vg_s (lv) 2 (.int ((l_2 + (gE (σ) 32 (l_3 : Int32).toNatClampNeg)) * (-1640531535)))) (by decide) (Or.inl rfl)) (vg_s (vz_s1 (lv) 2 (.int ((l_2 + (gE (σ) 32 (l_3 : Int32).toNatClampNeg)) * (-1640531535)))) 3 (.int (l_3 + 1))) (nb_s1 (nb_s1 hnb rfl) rfl)  H
/-- GameText$Graph.slotOf([I)I -/
def F_111b (N : Nat) (t : Nat) (σ : st_S) : Option (Int32 × st_S) :=
  L_111b N t N 0 0 (σ)
set_option maxRecDepth 100000 in
theorem F_111b_R {N : Nat} {t : Nat} {σ : st_S} {p : Int32 × st_S} (H : F_111b N t σ = some p) : gR p.2 = gR σ := by
  unfold F_111b at H
  exact (((L_111b_R _ _ _ _ _ H)).trans rfl)
set_option maxHeartbeats 4000000 in
set_option maxRecDepth 100000 in
theorem F_111b_ok {N d : Nat} {t : Nat} (ht : t = 4 ∨ t = 20) {σ : st_S} {p : Int32 × st_S}  (H : F_111b N t σ = some p) : vz_ev P0 (d + 1) 111 0 (lv_args 0 [.ref 52, .ref (t + 12)]) [] (hp σ) (.inl (some (.int p.1)), hp p.2) := by
  unfold F_111b at H
  rcases ht with rfl | rfl
  · refine ev_x (i := .iconst 0) (len := 1) (p' := 1) (s' := [.int 0]) rfl rfl rfl ?_
    refine ev_x (i := .istore_n 2) (len := 1) (p' := 2) (s' := []) (l' := [(2, .int 0), (0, .ref 52), (1, .ref 16)]) rfl rfl rfl ?_
    refine ev_x (i := .iconst 0) (len := 1) (p' := 3) (s' := [.int 0]) rfl rfl rfl ?_
    refine ev_x (i := .istore_n 3) (len := 1) (p' := 4) (s' := []) (l' := [(3, .int 0), (2, .int 0), (0, .ref 52), (1, .ref 16)]) rfl rfl rfl ?_
    exact (L_111b_ok (d := d) (Or.inl rfl) N) _ _ _ _ _ rfl rfl rfl rfl rfl  H
  · refine ev_x (i := .iconst 0) (len := 1) (p' := 1) (s' := [.int 0]) rfl rfl rfl ?_
    refine ev_x (i := .istore_n 2) (len := 1) (p' := 2) (s' := []) (l' := [(2, .int 0), (0, .ref 52), (1, .ref 32)]) rfl rfl rfl ?_
    refine ev_x (i := .iconst 0) (len := 1) (p' := 3) (s' := [.int 0]) rfl rfl rfl ?_
    refine ev_x (i := .istore_n 3) (len := 1) (p' := 4) (s' := []) (l' := [(3, .int 0), (2, .int 0), (0, .ref 52), (1, .ref 32)]) rfl rfl rfl ?_
    exact (L_111b_ok (d := d) (Or.inr rfl) N) _ _ _ _ _ rfl rfl rfl rfl rfl  H
/-- GameText$Graph.isHeld(I[I)Z, its loops -/
def L_112b (N : Nat) (t : Nat) : Nat → Int32 → Int32 → st_S → Option (Int32 × st_S)
  | 0, _, _, _ => none
  | k + 1, l_3, l_4, σ =>
      if (gI σ 52 9) ≤ l_4 then
        some (1, σ)
      else
        if aB (l_3 + l_4) (gN σ 54) then
        if aB l_4 (gN σ (t + 12)) then
        if (gE (σ) 54 ((l_3 + l_4) : Int32).toNatClampNeg) = (gE (σ) (t + 12) (l_4 : Int32).toNatClampNeg) then
          L_112b N t k l_3 (l_4 + 1) (σ)
        else
          some (0, σ)
        else none
        else none
set_option maxRecDepth 100000 in
theorem L_112b_R {N : Nat} {t : Nat} : ∀ (k : Nat) (l_3 : Int32) (l_4 : Int32) (σ : st_S) (p : Int32 × st_S), L_112b N t k l_3 l_4 σ = some p → gR p.2 = gR σ := by
  intro k
  induction k with
  | zero => intro l_3 l_4 σ p H; unfold L_112b at H; cases H
  | succ k ih =>
    intro l_3 l_4 σ p H
    unfold L_112b at H
    refine F_if H (fun _ H => ?_) (fun _ H => ?_)
    · obtain rfl := Option.some.inj H
      exact rfl
    · obtain ⟨_, H⟩ := F_gd H
      obtain ⟨_, H⟩ := F_gd H
      refine F_if H (fun _ H => ?_) (fun _ H => ?_)
      · exact (((ih _ _ _ _ H)).trans rfl)
      · obtain rfl := Option.some.inj H
        exact rfl
set_option maxHeartbeats 4000000 in
set_option maxRecDepth 100000 in
theorem L_112b_ok {N d : Nat} {t : Nat} (ht : t = 4 ∨ t = 20) : ∀ k : Nat, ∀ (l_3 : Int32) (l_4 : Int32) (σ : st_S) (lv : vz_L) (p : Int32 × st_S), vz_g lv 0 = some (.ref 52) → vz_g lv 2 = some (.ref (t + 12)) → vz_g lv 3 = some (.int l_3) → vz_g lv 4 = some (.int l_4) → vz_nbL (vz_gr P0) lv = true → L_112b N t k l_3 l_4 σ = some p → vz_ev P0 (d + 1) 112 8 lv [] (hp σ) (.inl (some (.int p.1)), hp p.2) := by
  rcases ht with rfl | rfl
  · intro k
    induction k with
    | zero => intro l_3 l_4 σ lv p g_0 g_2 g_3 g_4 hnb H; unfold L_112b at H; cases H
    | succ k ih =>
      intro l_3 l_4 σ lv p g_0 g_2 g_3 g_4 hnb H
      unfold L_112b at H
      refine ev_x (i := .iload 4) (len := 2) (p' := 10) (s' := [.int l_4]) rfl rfl (ld_i g_4) ?_
      refine ev_x (i := .aload_n 0) (len := 1) (p' := 11) (s' := [.ref 52, .int l_4]) rfl rfl (ld_a g_0) ?_
      refine ev_gi (p' := 14) (v := (gI σ 52 9)) rfl rfl rfl ly_52 rfl rfl rfl ?_
      refine F_if H (fun c_1 H => ?_) (fun c_1 H => ?_)
      · refine ev_b2 (t := 41) (p' := 41) rfl rfl rfl (if_pos c_1) ?_
        refine ev_x (i := .iconst 1) (len := 1) (p' := 42) (s' := [.int 1]) rfl rfl rfl ?_
        obtain rfl := Option.some.inj H
        exact ev_iret rfl rfl rfl rfl
      · refine ev_b2 (t := 41) (p' := 17) rfl rfl rfl (if_neg c_1) ?_
        refine ev_x (i := .aload_n 0) (len := 1) (p' := 18) (s' := [.ref 52]) rfl rfl (ld_a g_0) ?_
        refine ev_gc (p' := 21) (v := 54) rfl rfl rfl ly_52 rfl rfl ?_
        refine ev_x (i := .iload_n 3) (len := 1) (p' := 22) (s' := [.int l_3, .ref 54]) rfl rfl (ld_i g_3) ?_
        refine ev_x (i := .iload 4) (len := 2) (p' := 24) (s' := [.int l_4, .int l_3, .ref 54]) rfl rfl (ld_i g_4) ?_
        refine ev_x (i := .iadd) (len := 1) (p' := 25) (s' := [.int (l_3 + l_4), .ref 54]) rfl rfl rfl ?_
        obtain ⟨b_2, H⟩ := F_gd H
        refine ev_ga (p' := 26) (v := (gE (σ) 54 ((l_3 + l_4) : Int32).toNatClampNeg)) rfl rfl ly_54 rfl (gd_in b_2) rfl ?_
        refine ev_x (i := .aload_n 2) (len := 1) (p' := 27) (s' := [.ref 16, .int (gE (σ) 54 ((l_3 + l_4) : Int32).toNatClampNeg)]) rfl rfl (ld_a g_2) ?_
        refine ev_x (i := .iload 4) (len := 2) (p' := 29) (s' := [.int l_4, .ref 16, .int (gE (σ) 54 ((l_3 + l_4) : Int32).toNatClampNeg)]) rfl rfl (ld_i g_4) ?_
        obtain ⟨b_3, H⟩ := F_gd H
        refine ev_ga (p' := 30) (v := (gE (σ) 16 (l_4 : Int32).toNatClampNeg)) rfl rfl ly_16 rfl (gd_in b_3) rfl ?_
        refine F_if H (fun c_4 H => ?_) (fun c_4 H => ?_)
        · refine ev_b2 (t := 35) (p' := 35) rfl rfl rfl (if_pos c_4) ?_
          refine ev_x (i := .iinc 4 1) (len := 3) (p' := 38) (s' := []) (l' := vz_s1 (lv) 4 (.int (l_4 + 1))) rfl rfl (ld_inc g_4 rfl) ?_
          refine ev_x (i := .goto (-30)) (len := 3) (p' := 8) (s' := []) rfl rfl rfl ?_
          exact ih _ _ _ _ _ (vg_o (i := 4) (v := .int (l_4 + 1)) g_0 (by decide) (Or.inl rfl)) (vg_o (i := 4) (v := .int (l_4 + 1)) g_2 (by decide) (Or.inl rfl)) (vg_o (i := 4) (v := .int (l_4 + 1)) g_3 (by decide) (Or.inl rfl)) (vg_s (lv) 4 (.int (l_4 + 1))) (nb_s1 hnb rfl)  H
        · refine ev_b2 (t := 35) (p' := 33) rfl rfl rfl (if_neg c_4) ?_
          refine ev_x (i := .iconst 0) (len := 1) (p' := 34) (s' := [.int 0]) rfl rfl rfl ?_
          obtain rfl := Option.some.inj H
          exact ev_iret rfl rfl rfl rfl
  · intro k
    induction k with
    | zero => intro l_3 l_4 σ lv p g_0 g_2 g_3 g_4 hnb H; unfold L_112b at H; cases H
    | succ k ih =>
      intro l_3 l_4 σ lv p g_0 g_2 g_3 g_4 hnb H
      unfold L_112b at H
      refine ev_x (i := .iload 4) (len := 2) (p' := 10) (s' := [.int l_4]) rfl rfl (ld_i g_4) ?_
      refine ev_x (i := .aload_n 0) (len := 1) (p' := 11) (s' := [.ref 52, .int l_4]) rfl rfl (ld_a g_0) ?_
      refine ev_gi (p' := 14) (v := (gI σ 52 9)) rfl rfl rfl ly_52 rfl rfl rfl ?_
      refine F_if H (fun c_1 H => ?_) (fun c_1 H => ?_)
      · refine ev_b2 (t := 41) (p' := 41) rfl rfl rfl (if_pos c_1) ?_
        refine ev_x (i := .iconst 1) (len := 1) (p' := 42) (s' := [.int 1]) rfl rfl rfl ?_
        obtain rfl := Option.some.inj H
        exact ev_iret rfl rfl rfl rfl
      · refine ev_b2 (t := 41) (p' := 17) rfl rfl rfl (if_neg c_1) ?_
        refine ev_x (i := .aload_n 0) (len := 1) (p' := 18) (s' := [.ref 52]) rfl rfl (ld_a g_0) ?_
        refine ev_gc (p' := 21) (v := 54) rfl rfl rfl ly_52 rfl rfl ?_
        refine ev_x (i := .iload_n 3) (len := 1) (p' := 22) (s' := [.int l_3, .ref 54]) rfl rfl (ld_i g_3) ?_
        refine ev_x (i := .iload 4) (len := 2) (p' := 24) (s' := [.int l_4, .int l_3, .ref 54]) rfl rfl (ld_i g_4) ?_
        refine ev_x (i := .iadd) (len := 1) (p' := 25) (s' := [.int (l_3 + l_4), .ref 54]) rfl rfl rfl ?_
        obtain ⟨b_2, H⟩ := F_gd H
        refine ev_ga (p' := 26) (v := (gE (σ) 54 ((l_3 + l_4) : Int32).toNatClampNeg)) rfl rfl ly_54 rfl (gd_in b_2) rfl ?_
        refine ev_x (i := .aload_n 2) (len := 1) (p' := 27) (s' := [.ref 32, .int (gE (σ) 54 ((l_3 + l_4) : Int32).toNatClampNeg)]) rfl rfl (ld_a g_2) ?_
        refine ev_x (i := .iload 4) (len := 2) (p' := 29) (s' := [.int l_4, .ref 32, .int (gE (σ) 54 ((l_3 + l_4) : Int32).toNatClampNeg)]) rfl rfl (ld_i g_4) ?_
        obtain ⟨b_3, H⟩ := F_gd H
        refine ev_ga (p' := 30) (v := (gE (σ) 32 (l_4 : Int32).toNatClampNeg)) rfl rfl ly_32 rfl (gd_in b_3) rfl ?_
        refine F_if H (fun c_4 H => ?_) (fun c_4 H => ?_)
        · refine ev_b2 (t := 35) (p' := 35) rfl rfl rfl (if_pos c_4) ?_
          refine ev_x (i := .iinc 4 1) (len := 3) (p' := 38) (s' := []) (l' := vz_s1 (lv) 4 (.int (l_4 + 1))) rfl rfl (ld_inc g_4 rfl) ?_
          refine ev_x (i := .goto (-30)) (len := 3) (p' := 8) (s' := []) rfl rfl rfl ?_
          exact ih _ _ _ _ _ (vg_o (i := 4) (v := .int (l_4 + 1)) g_0 (by decide) (Or.inl rfl)) (vg_o (i := 4) (v := .int (l_4 + 1)) g_2 (by decide) (Or.inl rfl)) (vg_o (i := 4) (v := .int (l_4 + 1)) g_3 (by decide) (Or.inl rfl)) (vg_s (lv) 4 (.int (l_4 + 1))) (nb_s1 hnb rfl)  H
        · refine ev_b2 (t := 35) (p' := 33) rfl rfl rfl (if_neg c_4) ?_
          refine ev_x (i := .iconst 0) (len := 1) (p' := 34) (s' := [.int 0]) rfl rfl rfl ?_
          obtain rfl := Option.some.inj H
          exact ev_iret rfl rfl rfl rfl
/-- GameText$Graph.isHeld(I[I)Z -/
def F_112b (N : Nat) (t : Nat) (x_1 : Int32) (σ : st_S) : Option (Int32 × st_S) :=
  L_112b N t N (x_1 * 12) 0 (σ)
set_option maxRecDepth 100000 in
theorem F_112b_R {N : Nat} {t : Nat} {x_1 : Int32} {σ : st_S} {p : Int32 × st_S} (H : F_112b N t x_1 σ = some p) : gR p.2 = gR σ := by
  unfold F_112b at H
  exact (((L_112b_R _ _ _ _ _ H)).trans rfl)
set_option maxHeartbeats 4000000 in
set_option maxRecDepth 100000 in
theorem F_112b_ok {N d : Nat} {t : Nat} (ht : t = 4 ∨ t = 20) {x_1 : Int32} {σ : st_S} {p : Int32 × st_S}  (H : F_112b N t x_1 σ = some p) : vz_ev P0 (d + 1) 112 0 (lv_args 0 [.ref 52, .int x_1, .ref (t + 12)]) [] (hp σ) (.inl (some (.int p.1)), hp p.2) := by
  unfold F_112b at H
  rcases ht with rfl | rfl
  · refine ev_x (i := .iload_n 1) (len := 1) (p' := 1) (s' := [.int x_1]) rfl rfl rfl ?_
    refine ev_x (i := .bipush 12) (len := 2) (p' := 3) (s' := [.int 12, .int x_1]) rfl rfl rfl ?_
    refine ev_x (i := .imul) (len := 1) (p' := 4) (s' := [.int (x_1 * 12)]) rfl rfl rfl ?_
    refine ev_x (i := .istore_n 3) (len := 1) (p' := 5) (s' := []) (l' := [(3, .int (x_1 * 12)), (0, .ref 52), (1, .int x_1), (2, .ref 16)]) rfl rfl rfl ?_
    refine ev_x (i := .iconst 0) (len := 1) (p' := 6) (s' := [.int 0]) rfl rfl rfl ?_
    refine ev_x (i := .istore 4) (len := 2) (p' := 8) (s' := []) (l' := [(4, .int 0), (3, .int (x_1 * 12)), (0, .ref 52), (1, .int x_1), (2, .ref 16)]) rfl rfl rfl ?_
    exact (L_112b_ok (d := d) (Or.inl rfl) N) _ _ _ _ _ rfl rfl rfl rfl rfl  H
  · refine ev_x (i := .iload_n 1) (len := 1) (p' := 1) (s' := [.int x_1]) rfl rfl rfl ?_
    refine ev_x (i := .bipush 12) (len := 2) (p' := 3) (s' := [.int 12, .int x_1]) rfl rfl rfl ?_
    refine ev_x (i := .imul) (len := 1) (p' := 4) (s' := [.int (x_1 * 12)]) rfl rfl rfl ?_
    refine ev_x (i := .istore_n 3) (len := 1) (p' := 5) (s' := []) (l' := [(3, .int (x_1 * 12)), (0, .ref 52), (1, .int x_1), (2, .ref 32)]) rfl rfl rfl ?_
    refine ev_x (i := .iconst 0) (len := 1) (p' := 6) (s' := [.int 0]) rfl rfl rfl ?_
    refine ev_x (i := .istore 4) (len := 2) (p' := 8) (s' := []) (l' := [(4, .int 0), (3, .int (x_1 * 12)), (0, .ref 52), (1, .int x_1), (2, .ref 32)]) rfl rfl rfl ?_
    exact (L_112b_ok (d := d) (Or.inr rfl) N) _ _ _ _ _ rfl rfl rfl rfl rfl  H
/-- GameText$Graph.hold([I)V, from 61 -/
def J_113b_61 (N : Nat) (t : Nat) (σ : st_S) : Option (st_S) :=
  if acB (gN σ (t + 12)) (gN σ 54) 0 ((gI σ 52 10) * 12) (gI σ 52 9) then
  if aB (gI σ 52 10) (gN σ 55) then
  some (st_i (st_e (st_ac (σ) (t + 12) (0 : Int32).toNatClampNeg 54 (((gI σ 52 10) * 12) : Int32).toNatClampNeg ((gI σ 52 9) : Int32).toNatClampNeg) 55 (((gI σ 52 10) : Int32).toNatClampNeg) 0) 52 10 ((gI σ 52 10) + 1))
  else none
  else none
set_option maxRecDepth 100000 in
theorem J_113b_61_R {N : Nat} {t : Nat} {σ : st_S} {p : st_S} (H : J_113b_61 N t σ = some p) : gR p = gR σ := by
  unfold J_113b_61 at H
  obtain ⟨_, H⟩ := F_gd H
  obtain ⟨_, H⟩ := F_gd H
  obtain rfl := Option.some.inj H
  exact rfl
set_option maxHeartbeats 4000000 in
set_option maxRecDepth 100000 in
theorem J_113b_61_ok {N d : Nat} {t : Nat} (ht : t = 4 ∨ t = 20) {σ : st_S} {lv : vz_L} {p : st_S} (g_0 : vz_g lv 0 = some (.ref 52)) (g_1 : vz_g lv 1 = some (.ref (t + 12))) (hnb : vz_nbL (vz_gr P0) lv = true)  (H : J_113b_61 N t σ = some p) : vz_ev P0 (d + 5) 113 61 lv [] (hp σ) (.inl none, hp p) := by
  unfold J_113b_61 at H
  rcases ht with rfl | rfl
  · refine ev_x (i := .aload_n 1) (len := 1) (p' := 62) (s' := [.ref 16]) rfl rfl (ld_a g_1) ?_
    refine ev_x (i := .iconst 0) (len := 1) (p' := 63) (s' := [.int 0, .ref 16]) rfl rfl rfl ?_
    refine ev_x (i := .aload_n 0) (len := 1) (p' := 64) (s' := [.ref 52, .int 0, .ref 16]) rfl rfl (ld_a g_0) ?_
    refine ev_gc (p' := 67) (v := 54) rfl rfl rfl ly_52 rfl rfl ?_
    refine ev_x (i := .aload_n 0) (len := 1) (p' := 68) (s' := [.ref 52, .ref 54, .int 0, .ref 16]) rfl rfl (ld_a g_0) ?_
    refine ev_gi (p' := 71) (v := (gI σ 52 10)) rfl rfl rfl ly_52 rfl rfl rfl ?_
    refine ev_x (i := .bipush 12) (len := 2) (p' := 73) (s' := [.int 12, .int (gI σ 52 10), .ref 54, .int 0, .ref 16]) rfl rfl rfl ?_
    refine ev_x (i := .imul) (len := 1) (p' := 74) (s' := [.int ((gI σ 52 10) * 12), .ref 54, .int 0, .ref 16]) rfl rfl rfl ?_
    refine ev_x (i := .aload_n 0) (len := 1) (p' := 75) (s' := [.ref 52, .int ((gI σ 52 10) * 12), .ref 54, .int 0, .ref 16]) rfl rfl (ld_a g_0) ?_
    refine ev_gi (p' := 78) (v := (gI σ 52 9)) rfl rfl rfl ly_52 rfl rfl rfl ?_
    obtain ⟨b_5, H⟩ := F_gd H
    refine ev_ac (d := d + 4) (src := 16) (dst := 54) (p' := 81) rfl rfl rfl ly_16 ly_54 b_5 rfl rfl ?_
    refine ev_x (i := .aload_n 0) (len := 1) (p' := 82) (s' := [.ref 52]) rfl rfl (ld_a g_0) ?_
    refine ev_gc (p' := 85) (v := 55) rfl rfl rfl ly_52 rfl rfl ?_
    refine ev_x (i := .aload_n 0) (len := 1) (p' := 86) (s' := [.ref 52, .ref 55]) rfl rfl (ld_a g_0) ?_
    refine ev_gi (p' := 89) (v := (gI σ 52 10)) rfl rfl rfl ly_52 rfl rfl rfl ?_
    refine ev_x (i := .iconst 0) (len := 1) (p' := 90) (s' := [.int 0, .int (gI σ 52 10), .ref 55]) rfl rfl rfl ?_
    obtain ⟨b_6, H⟩ := F_gd H
    refine ev_pa (j := ((gI σ 52 10) : Int32).toNatClampNeg) (p' := 91) rfl rfl ly_55 rfl (gd_in b_6) rfl ?_
    refine ev_x (i := .aload_n 0) (len := 1) (p' := 92) (s' := [.ref 52]) rfl rfl (ld_a g_0) ?_
    refine ev_x (i := .dup) (len := 1) (p' := 93) (s' := [.ref 52, .ref 52]) rfl rfl rfl ?_
    refine ev_gi (p' := 96) (v := (gI σ 52 10)) rfl rfl rfl ly_52 rfl rfl rfl ?_
    refine ev_x (i := .iconst 1) (len := 1) (p' := 97) (s' := [.int 1, .int (gI σ 52 10), .ref 52]) rfl rfl rfl ?_
    refine ev_x (i := .iadd) (len := 1) (p' := 98) (s' := [.int ((gI σ 52 10) + 1), .ref 52]) rfl rfl rfl ?_
    refine ev_pi (p' := 101) rfl rfl rfl ly_52 rfl rfl rfl rfl ?_
    obtain rfl := Option.some.inj H
    exact ev_vret rfl rfl rfl
  · refine ev_x (i := .aload_n 1) (len := 1) (p' := 62) (s' := [.ref 32]) rfl rfl (ld_a g_1) ?_
    refine ev_x (i := .iconst 0) (len := 1) (p' := 63) (s' := [.int 0, .ref 32]) rfl rfl rfl ?_
    refine ev_x (i := .aload_n 0) (len := 1) (p' := 64) (s' := [.ref 52, .int 0, .ref 32]) rfl rfl (ld_a g_0) ?_
    refine ev_gc (p' := 67) (v := 54) rfl rfl rfl ly_52 rfl rfl ?_
    refine ev_x (i := .aload_n 0) (len := 1) (p' := 68) (s' := [.ref 52, .ref 54, .int 0, .ref 32]) rfl rfl (ld_a g_0) ?_
    refine ev_gi (p' := 71) (v := (gI σ 52 10)) rfl rfl rfl ly_52 rfl rfl rfl ?_
    refine ev_x (i := .bipush 12) (len := 2) (p' := 73) (s' := [.int 12, .int (gI σ 52 10), .ref 54, .int 0, .ref 32]) rfl rfl rfl ?_
    refine ev_x (i := .imul) (len := 1) (p' := 74) (s' := [.int ((gI σ 52 10) * 12), .ref 54, .int 0, .ref 32]) rfl rfl rfl ?_
    refine ev_x (i := .aload_n 0) (len := 1) (p' := 75) (s' := [.ref 52, .int ((gI σ 52 10) * 12), .ref 54, .int 0, .ref 32]) rfl rfl (ld_a g_0) ?_
    refine ev_gi (p' := 78) (v := (gI σ 52 9)) rfl rfl rfl ly_52 rfl rfl rfl ?_
    obtain ⟨b_5, H⟩ := F_gd H
    refine ev_ac (d := d + 4) (src := 32) (dst := 54) (p' := 81) rfl rfl rfl ly_32 ly_54 b_5 rfl rfl ?_
    refine ev_x (i := .aload_n 0) (len := 1) (p' := 82) (s' := [.ref 52]) rfl rfl (ld_a g_0) ?_
    refine ev_gc (p' := 85) (v := 55) rfl rfl rfl ly_52 rfl rfl ?_
    refine ev_x (i := .aload_n 0) (len := 1) (p' := 86) (s' := [.ref 52, .ref 55]) rfl rfl (ld_a g_0) ?_
    refine ev_gi (p' := 89) (v := (gI σ 52 10)) rfl rfl rfl ly_52 rfl rfl rfl ?_
    refine ev_x (i := .iconst 0) (len := 1) (p' := 90) (s' := [.int 0, .int (gI σ 52 10), .ref 55]) rfl rfl rfl ?_
    obtain ⟨b_6, H⟩ := F_gd H
    refine ev_pa (j := ((gI σ 52 10) : Int32).toNatClampNeg) (p' := 91) rfl rfl ly_55 rfl (gd_in b_6) rfl ?_
    refine ev_x (i := .aload_n 0) (len := 1) (p' := 92) (s' := [.ref 52]) rfl rfl (ld_a g_0) ?_
    refine ev_x (i := .dup) (len := 1) (p' := 93) (s' := [.ref 52, .ref 52]) rfl rfl rfl ?_
    refine ev_gi (p' := 96) (v := (gI σ 52 10)) rfl rfl rfl ly_52 rfl rfl rfl ?_
    refine ev_x (i := .iconst 1) (len := 1) (p' := 97) (s' := [.int 1, .int (gI σ 52 10), .ref 52]) rfl rfl rfl ?_
    refine ev_x (i := .iadd) (len := 1) (p' := 98) (s' := [.int ((gI σ 52 10) + 1), .ref 52]) rfl rfl rfl ?_
    refine ev_pi (p' := 101) rfl rfl rfl ly_52 rfl rfl rfl rfl ?_
    obtain rfl := Option.some.inj H
    exact ev_vret rfl rfl rfl
/-- GameText$Graph.hold([I)V -/
def F_113b (N : Nat) (t : Nat) (σ : st_S) : Option (st_S) :=
  if (gI σ 52 10) < (nI (gN σ 55)) then
    J_113b_61 N t (σ)
  else
    if gwB (σ) 54 ((2 * (nI (gN σ 55))) * 12) then
    if gwB (st_gw (σ) 54 (gN σ 54) (((2 * (nI (gN σ 55))) * 12) : Int32).toNatClampNeg) 55 (2 * (nI (gN σ 55))) then
    if gwB (st_gw (st_gw (σ) 54 (gN σ 54) (((2 * (nI (gN σ 55))) * 12) : Int32).toNatClampNeg) 55 (gN σ 55) ((2 * (nI (gN σ 55))) : Int32).toNatClampNeg) 56 ((2 * (nI (gN σ 55))) + 1) then
    J_113b_61 N t (st_gw (st_gw (st_gw (σ) 54 (gN σ 54) (((2 * (nI (gN σ 55))) * 12) : Int32).toNatClampNeg) 55 (gN σ 55) ((2 * (nI (gN σ 55))) : Int32).toNatClampNeg) 56 (gN σ 56) (((2 * (nI (gN σ 55))) + 1) : Int32).toNatClampNeg)
    else none
    else none
    else none
set_option maxRecDepth 100000 in
theorem F_113b_R {N : Nat} {t : Nat} {σ : st_S} {p : st_S} (H : F_113b N t σ = some p) : gR p = gR σ := by
  unfold F_113b at H
  refine F_if H (fun _ H => ?_) (fun _ H => ?_)
  · exact (((J_113b_61_R H)).trans rfl)
  · obtain ⟨_, H⟩ := F_gd H
    obtain ⟨_, H⟩ := F_gd H
    obtain ⟨_, H⟩ := F_gd H
    exact (((J_113b_61_R H)).trans ((gR_gw _ _ _ _).trans ((gR_gw _ _ _ _).trans ((gR_gw _ _ _ _).trans rfl))))
set_option maxHeartbeats 4000000 in
set_option maxRecDepth 100000 in
theorem F_113b_ok {N d : Nat} {t : Nat} (ht : t = 4 ∨ t = 20) {σ : st_S} {p : st_S}  (H : F_113b N t σ = some p) : vz_ev P0 (d + 5) 113 0 (lv_args 0 [.ref 52, .ref (t + 12)]) [] (hp σ) (.inl none, hp p) := by
  unfold F_113b at H
  rcases ht with rfl | rfl
  · refine ev_x (i := .aload_n 0) (len := 1) (p' := 1) (s' := [.ref 52]) rfl rfl rfl ?_
    refine ev_gi (p' := 4) (v := (gI σ 52 10)) rfl rfl rfl ly_52 rfl rfl rfl ?_
    refine ev_x (i := .aload_n 0) (len := 1) (p' := 5) (s' := [.ref 52, .int (gI σ 52 10)]) rfl rfl rfl ?_
    refine ev_gc (p' := 8) (v := 55) rfl rfl rfl ly_52 rfl rfl ?_
    refine ev_al (p' := 9) (v := (nI (gN σ 55))) rfl rfl ly_55 (by decide) (by decide) rfl rfl ?_
    refine F_if H (fun c_1 H => ?_) (fun c_1 H => ?_)
    · refine ev_b2 (t := 61) (p' := 61) rfl rfl rfl (if_pos c_1) ?_
      exact J_113b_61_ok (d := d) (Or.inl rfl) rfl rfl rfl  H
    · refine ev_b2 (t := 61) (p' := 12) rfl rfl rfl (if_neg c_1) ?_
      refine ev_x (i := .iconst 2) (len := 1) (p' := 13) (s' := [.int 2]) rfl rfl rfl ?_
      refine ev_x (i := .aload_n 0) (len := 1) (p' := 14) (s' := [.ref 52, .int 2]) rfl rfl rfl ?_
      refine ev_gc (p' := 17) (v := 55) rfl rfl rfl ly_52 rfl rfl ?_
      refine ev_al (p' := 18) (v := (nI (gN σ 55))) rfl rfl ly_55 (by decide) (by decide) rfl rfl ?_
      refine ev_x (i := .imul) (len := 1) (p' := 19) (s' := [.int (2 * (nI (gN σ 55)))]) rfl rfl rfl ?_
      refine ev_x (i := .istore_n 2) (len := 1) (p' := 20) (s' := []) (l' := [(2, .int (2 * (nI (gN σ 55)))), (0, .ref 52), (1, .ref 16)]) rfl rfl rfl ?_
      refine ev_x (i := .aload_n 0) (len := 1) (p' := 21) (s' := [.ref 52]) rfl rfl rfl ?_
      refine ev_x (i := .aload_n 0) (len := 1) (p' := 22) (s' := [.ref 52, .ref 52]) rfl rfl rfl ?_
      refine ev_gc (p' := 25) (v := 54) rfl rfl rfl ly_52 rfl rfl ?_
      refine ev_x (i := .iload_n 2) (len := 1) (p' := 26) (s' := [.int (2 * (nI (gN σ 55))), .ref 54, .ref 52]) rfl rfl rfl ?_
      refine ev_x (i := .bipush 12) (len := 2) (p' := 28) (s' := [.int 12, .int (2 * (nI (gN σ 55))), .ref 54, .ref 52]) rfl rfl rfl ?_
      refine ev_x (i := .imul) (len := 1) (p' := 29) (s' := [.int ((2 * (nI (gN σ 55))) * 12), .ref 54, .ref 52]) rfl rfl rfl ?_
      obtain ⟨b_2, H⟩ := F_gd H
      refine ev_gw (d := d + 0) (k := 54) (p' := 35) rfl rfl rfl rfl rfl rfl ly_52 rfl ly_54 (fun _ => rfl) rfl rfl rfl rfl rfl b_2 rfl ?_
      refine ev_x (i := .aload_n 0) (len := 1) (p' := 36) (s' := [.ref 52]) rfl rfl rfl ?_
      refine ev_x (i := .aload_n 0) (len := 1) (p' := 37) (s' := [.ref 52, .ref 52]) rfl rfl rfl ?_
      refine ev_gc (p' := 40) (v := 55) rfl rfl rfl ly_52 rfl rfl ?_
      refine ev_x (i := .iload_n 2) (len := 1) (p' := 41) (s' := [.int (2 * (nI (gN σ 55))), .ref 55, .ref 52]) rfl rfl rfl ?_
      obtain ⟨b_3, H⟩ := F_gd H
      refine ev_gw (d := d + 0) (k := 55) (p' := 47) rfl rfl rfl rfl rfl rfl ly_52 rfl ly_55 (fun _ => rfl) rfl rfl rfl rfl rfl b_3 rfl ?_
      refine ev_x (i := .aload_n 0) (len := 1) (p' := 48) (s' := [.ref 52]) rfl rfl rfl ?_
      refine ev_x (i := .aload_n 0) (len := 1) (p' := 49) (s' := [.ref 52, .ref 52]) rfl rfl rfl ?_
      refine ev_gc (p' := 52) (v := 56) rfl rfl rfl ly_52 rfl rfl ?_
      refine ev_x (i := .iload_n 2) (len := 1) (p' := 53) (s' := [.int (2 * (nI (gN σ 55))), .ref 56, .ref 52]) rfl rfl rfl ?_
      refine ev_x (i := .iconst 1) (len := 1) (p' := 54) (s' := [.int 1, .int (2 * (nI (gN σ 55))), .ref 56, .ref 52]) rfl rfl rfl ?_
      refine ev_x (i := .iadd) (len := 1) (p' := 55) (s' := [.int ((2 * (nI (gN σ 55))) + 1), .ref 56, .ref 52]) rfl rfl rfl ?_
      obtain ⟨b_4, H⟩ := F_gd H
      refine ev_gw (d := d + 0) (k := 56) (p' := 61) rfl rfl rfl rfl rfl rfl ly_52 rfl ly_56 (fun _ => rfl) rfl rfl rfl rfl rfl b_4 rfl ?_
      exact J_113b_61_ok (d := d) (Or.inl rfl) rfl rfl rfl  H
  · refine ev_x (i := .aload_n 0) (len := 1) (p' := 1) (s' := [.ref 52]) rfl rfl rfl ?_
    refine ev_gi (p' := 4) (v := (gI σ 52 10)) rfl rfl rfl ly_52 rfl rfl rfl ?_
    refine ev_x (i := .aload_n 0) (len := 1) (p' := 5) (s' := [.ref 52, .int (gI σ 52 10)]) rfl rfl rfl ?_
    refine ev_gc (p' := 8) (v := 55) rfl rfl rfl ly_52 rfl rfl ?_
    refine ev_al (p' := 9) (v := (nI (gN σ 55))) rfl rfl ly_55 (by decide) (by decide) rfl rfl ?_
    refine F_if H (fun c_1 H => ?_) (fun c_1 H => ?_)
    · refine ev_b2 (t := 61) (p' := 61) rfl rfl rfl (if_pos c_1) ?_
      exact J_113b_61_ok (d := d) (Or.inr rfl) rfl rfl rfl  H
    · refine ev_b2 (t := 61) (p' := 12) rfl rfl rfl (if_neg c_1) ?_
      refine ev_x (i := .iconst 2) (len := 1) (p' := 13) (s' := [.int 2]) rfl rfl rfl ?_
      refine ev_x (i := .aload_n 0) (len := 1) (p' := 14) (s' := [.ref 52, .int 2]) rfl rfl rfl ?_
      refine ev_gc (p' := 17) (v := 55) rfl rfl rfl ly_52 rfl rfl ?_
      refine ev_al (p' := 18) (v := (nI (gN σ 55))) rfl rfl ly_55 (by decide) (by decide) rfl rfl ?_
      refine ev_x (i := .imul) (len := 1) (p' := 19) (s' := [.int (2 * (nI (gN σ 55)))]) rfl rfl rfl ?_
      refine ev_x (i := .istore_n 2) (len := 1) (p' := 20) (s' := []) (l' := [(2, .int (2 * (nI (gN σ 55)))), (0, .ref 52), (1, .ref 32)]) rfl rfl rfl ?_
      refine ev_x (i := .aload_n 0) (len := 1) (p' := 21) (s' := [.ref 52]) rfl rfl rfl ?_
      refine ev_x (i := .aload_n 0) (len := 1) (p' := 22) (s' := [.ref 52, .ref 52]) rfl rfl rfl ?_
      refine ev_gc (p' := 25) (v := 54) rfl rfl rfl ly_52 rfl rfl ?_
      refine ev_x (i := .iload_n 2) (len := 1) (p' := 26) (s' := [.int (2 * (nI (gN σ 55))), .ref 54, .ref 52]) rfl rfl rfl ?_
      refine ev_x (i := .bipush 12) (len := 2) (p' := 28) (s' := [.int 12, .int (2 * (nI (gN σ 55))), .ref 54, .ref 52]) rfl rfl rfl ?_
      refine ev_x (i := .imul) (len := 1) (p' := 29) (s' := [.int ((2 * (nI (gN σ 55))) * 12), .ref 54, .ref 52]) rfl rfl rfl ?_
      obtain ⟨b_2, H⟩ := F_gd H
      refine ev_gw (d := d + 0) (k := 54) (p' := 35) rfl rfl rfl rfl rfl rfl ly_52 rfl ly_54 (fun _ => rfl) rfl rfl rfl rfl rfl b_2 rfl ?_
      refine ev_x (i := .aload_n 0) (len := 1) (p' := 36) (s' := [.ref 52]) rfl rfl rfl ?_
      refine ev_x (i := .aload_n 0) (len := 1) (p' := 37) (s' := [.ref 52, .ref 52]) rfl rfl rfl ?_
      refine ev_gc (p' := 40) (v := 55) rfl rfl rfl ly_52 rfl rfl ?_
      refine ev_x (i := .iload_n 2) (len := 1) (p' := 41) (s' := [.int (2 * (nI (gN σ 55))), .ref 55, .ref 52]) rfl rfl rfl ?_
      obtain ⟨b_3, H⟩ := F_gd H
      refine ev_gw (d := d + 0) (k := 55) (p' := 47) rfl rfl rfl rfl rfl rfl ly_52 rfl ly_55 (fun _ => rfl) rfl rfl rfl rfl rfl b_3 rfl ?_
      refine ev_x (i := .aload_n 0) (len := 1) (p' := 48) (s' := [.ref 52]) rfl rfl rfl ?_
      refine ev_x (i := .aload_n 0) (len := 1) (p' := 49) (s' := [.ref 52, .ref 52]) rfl rfl rfl ?_
      refine ev_gc (p' := 52) (v := 56) rfl rfl rfl ly_52 rfl rfl ?_
      refine ev_x (i := .iload_n 2) (len := 1) (p' := 53) (s' := [.int (2 * (nI (gN σ 55))), .ref 56, .ref 52]) rfl rfl rfl ?_
      refine ev_x (i := .iconst 1) (len := 1) (p' := 54) (s' := [.int 1, .int (2 * (nI (gN σ 55))), .ref 56, .ref 52]) rfl rfl rfl ?_
      refine ev_x (i := .iadd) (len := 1) (p' := 55) (s' := [.int ((2 * (nI (gN σ 55))) + 1), .ref 56, .ref 52]) rfl rfl rfl ?_
      obtain ⟨b_4, H⟩ := F_gd H
      refine ev_gw (d := d + 0) (k := 56) (p' := 61) rfl rfl rfl rfl rfl rfl ly_52 rfl ly_56 (fun _ => rfl) rfl rfl rfl rfl rfl b_4 rfl ?_
      exact J_113b_61_ok (d := d) (Or.inr rfl) rfl rfl rfl  H
/-- GameText$Graph.find([I)I, from 63 -/
def J_110b_63 (N : Nat) (t : Nat) (l_2 : Int32) (σ : st_S) : Option (Int32 × st_S) :=
  if (gI σ 52 10) < 512 then
    if aB l_2 (gN σ 53) then
    (F_113b N t (st_e (σ) 53 ((l_2 : Int32).toNatClampNeg) ((gI σ 52 10) + 1))).bind fun p_10 =>
    some (((gI p_10 52 10) - 1), p_10)
    else none
  else
    some ((-1), σ)
set_option maxRecDepth 100000 in
theorem J_110b_63_R {N : Nat} {t : Nat} {l_2 : Int32} {σ : st_S} {p : Int32 × st_S} (H : J_110b_63 N t l_2 σ = some p) : gR p.2 = gR σ := by
  unfold J_110b_63 at H
  refine F_if H (fun _ H => ?_) (fun _ H => ?_)
  · obtain ⟨_, H⟩ := F_gd H
    obtain ⟨p_10, G_10, H⟩ := F_bd H
    obtain rfl := Option.some.inj H
    exact ((F_113b_R G_10).trans rfl)
  · obtain rfl := Option.some.inj H
    exact rfl
set_option maxHeartbeats 4000000 in
set_option maxRecDepth 100000 in
theorem J_110b_63_ok {N d : Nat} {t : Nat} (ht : t = 4 ∨ t = 20) {l_2 : Int32} {σ : st_S} {lv : vz_L} {p : Int32 × st_S} (g_0 : vz_g lv 0 = some (.ref 52)) (g_1 : vz_g lv 1 = some (.ref (t + 12))) (g_2 : vz_g lv 2 = some (.int l_2)) (hnb : vz_nbL (vz_gr P0) lv = true)  (H : J_110b_63 N t l_2 σ = some p) : vz_ev P0 (d + 6) 110 63 lv [] (hp σ) (.inl (some (.int p.1)), hp p.2) := by
  unfold J_110b_63 at H
  rcases ht with rfl | rfl
  · refine ev_x (i := .aload_n 0) (len := 1) (p' := 64) (s' := [.ref 52]) rfl rfl (ld_a g_0) ?_
    refine ev_gi (p' := 67) (v := (gI σ 52 10)) rfl rfl rfl ly_52 rfl rfl rfl ?_
    refine ev_x (i := .sipush 512) (len := 3) (p' := 70) (s' := [.int 512, .int (gI σ 52 10)]) rfl rfl rfl ?_
    refine F_if H (fun c_8 H => ?_) (fun c_8 H => ?_)
    · refine ev_b2 (t := 75) (p' := 75) rfl rfl rfl (if_pos c_8) ?_
      refine ev_x (i := .aload_n 0) (len := 1) (p' := 76) (s' := [.ref 52]) rfl rfl (ld_a g_0) ?_
      refine ev_gc (p' := 79) (v := 53) rfl rfl rfl ly_52 rfl rfl ?_
      refine ev_x (i := .iload_n 2) (len := 1) (p' := 80) (s' := [.int l_2, .ref 53]) rfl rfl (ld_i g_2) ?_
      refine ev_x (i := .aload_n 0) (len := 1) (p' := 81) (s' := [.ref 52, .int l_2, .ref 53]) rfl rfl (ld_a g_0) ?_
      refine ev_gi (p' := 84) (v := (gI σ 52 10)) rfl rfl rfl ly_52 rfl rfl rfl ?_
      refine ev_x (i := .iconst 1) (len := 1) (p' := 85) (s' := [.int 1, .int (gI σ 52 10), .int l_2, .ref 53]) rfl rfl rfl ?_
      refine ev_x (i := .iadd) (len := 1) (p' := 86) (s' := [.int ((gI σ 52 10) + 1), .int l_2, .ref 53]) rfl rfl rfl ?_
      obtain ⟨b_9, H⟩ := F_gd H
      refine ev_pa (j := (l_2 : Int32).toNatClampNeg) (p' := 87) rfl rfl ly_53 rfl (gd_in b_9) rfl ?_
      refine ev_x (i := .aload_n 0) (len := 1) (p' := 88) (s' := [.ref 52]) rfl rfl (ld_a g_0) ?_
      refine ev_x (i := .aload_n 1) (len := 1) (p' := 89) (s' := [.ref 16, .ref 52]) rfl rfl (ld_a g_1) ?_
      obtain ⟨p_10, G_10, H⟩ := F_bd H
      refine ev_cv (d := d + 5) (As := [.ref 16]) (a := 52) (p' := 92) rfl rfl rfl ly_52 rfl rfl rfl rfl rfl hnb rfl (F_113b_ok (d := d + 0) (ht := (Or.inl rfl))  G_10) ?_
      refine ev_st (st' := []) rfl ?_
      have e_10 := F_113b_R G_10
      refine ev_x (i := .aload_n 0) (len := 1) (p' := 93) (s' := [.ref 52]) rfl rfl (ld_a g_0) ?_
      refine ev_gi (p' := 96) (v := (gI p_10 52 10)) rfl rfl rfl ly_52 rfl rfl rfl ?_
      refine ev_x (i := .iconst 1) (len := 1) (p' := 97) (s' := [.int 1, .int (gI p_10 52 10)]) rfl rfl rfl ?_
      refine ev_x (i := .isub) (len := 1) (p' := 98) (s' := [.int ((gI p_10 52 10) - 1)]) rfl rfl rfl ?_
      obtain rfl := Option.some.inj H
      exact ev_iret rfl rfl rfl rfl
    · refine ev_b2 (t := 75) (p' := 73) rfl rfl rfl (if_neg c_8) ?_
      refine ev_x (i := .iconst (-1)) (len := 1) (p' := 74) (s' := [.int (-1)]) rfl rfl rfl ?_
      obtain rfl := Option.some.inj H
      exact ev_iret rfl rfl rfl rfl
  · refine ev_x (i := .aload_n 0) (len := 1) (p' := 64) (s' := [.ref 52]) rfl rfl (ld_a g_0) ?_
    refine ev_gi (p' := 67) (v := (gI σ 52 10)) rfl rfl rfl ly_52 rfl rfl rfl ?_
    refine ev_x (i := .sipush 512) (len := 3) (p' := 70) (s' := [.int 512, .int (gI σ 52 10)]) rfl rfl rfl ?_
    refine F_if H (fun c_8 H => ?_) (fun c_8 H => ?_)
    · refine ev_b2 (t := 75) (p' := 75) rfl rfl rfl (if_pos c_8) ?_
      refine ev_x (i := .aload_n 0) (len := 1) (p' := 76) (s' := [.ref 52]) rfl rfl (ld_a g_0) ?_
      refine ev_gc (p' := 79) (v := 53) rfl rfl rfl ly_52 rfl rfl ?_
      refine ev_x (i := .iload_n 2) (len := 1) (p' := 80) (s' := [.int l_2, .ref 53]) rfl rfl (ld_i g_2) ?_
      refine ev_x (i := .aload_n 0) (len := 1) (p' := 81) (s' := [.ref 52, .int l_2, .ref 53]) rfl rfl (ld_a g_0) ?_
      refine ev_gi (p' := 84) (v := (gI σ 52 10)) rfl rfl rfl ly_52 rfl rfl rfl ?_
      refine ev_x (i := .iconst 1) (len := 1) (p' := 85) (s' := [.int 1, .int (gI σ 52 10), .int l_2, .ref 53]) rfl rfl rfl ?_
      refine ev_x (i := .iadd) (len := 1) (p' := 86) (s' := [.int ((gI σ 52 10) + 1), .int l_2, .ref 53]) rfl rfl rfl ?_
      obtain ⟨b_9, H⟩ := F_gd H
      refine ev_pa (j := (l_2 : Int32).toNatClampNeg) (p' := 87) rfl rfl ly_53 rfl (gd_in b_9) rfl ?_
      refine ev_x (i := .aload_n 0) (len := 1) (p' := 88) (s' := [.ref 52]) rfl rfl (ld_a g_0) ?_
      refine ev_x (i := .aload_n 1) (len := 1) (p' := 89) (s' := [.ref 32, .ref 52]) rfl rfl (ld_a g_1) ?_
      obtain ⟨p_10, G_10, H⟩ := F_bd H
      refine ev_cv (d := d + 5) (As := [.ref 32]) (a := 52) (p' := 92) rfl rfl rfl ly_52 rfl rfl rfl rfl rfl hnb rfl (F_113b_ok (d := d + 0) (ht := (Or.inr rfl))  G_10) ?_
      refine ev_st (st' := []) rfl ?_
      have e_10 := F_113b_R G_10
      refine ev_x (i := .aload_n 0) (len := 1) (p' := 93) (s' := [.ref 52]) rfl rfl (ld_a g_0) ?_
      refine ev_gi (p' := 96) (v := (gI p_10 52 10)) rfl rfl rfl ly_52 rfl rfl rfl ?_
      refine ev_x (i := .iconst 1) (len := 1) (p' := 97) (s' := [.int 1, .int (gI p_10 52 10)]) rfl rfl rfl ?_
      refine ev_x (i := .isub) (len := 1) (p' := 98) (s' := [.int ((gI p_10 52 10) - 1)]) rfl rfl rfl ?_
      obtain rfl := Option.some.inj H
      exact ev_iret rfl rfl rfl rfl
    · refine ev_b2 (t := 75) (p' := 73) rfl rfl rfl (if_neg c_8) ?_
      refine ev_x (i := .iconst (-1)) (len := 1) (p' := 74) (s' := [.int (-1)]) rfl rfl rfl ?_
      obtain rfl := Option.some.inj H
      exact ev_iret rfl rfl rfl rfl
/-- GameText$Graph.find([I)I, its loops -/
def L_110b (N : Nat) (t : Nat) : Nat → Int32 → Int32 → st_S → Option (Int32 × st_S)
  | 0, _, _, _ => none
  | k + 1, l_2, l_3, σ =>
      if 1024 ≤ l_3 then
        J_110b_63 N t l_2 (σ)
      else
        if aB l_2 (gN σ 53) then
        if (gE (σ) 53 (l_2 : Int32).toNatClampNeg) = 0 then
          J_110b_63 N t l_2 (σ)
        else
          (F_112b N t ((gE (σ) 53 (l_2 : Int32).toNatClampNeg) - 1) (σ)).bind fun p_5 =>
          if p_5.1 = 0 then
            L_110b N t k ((l_2 + 1) &&& 1023) (l_3 + 1) (p_5.2)
          else
            if aB l_2 (gN p_5.2 53) then
            some (((gE (p_5.2) 53 (l_2 : Int32).toNatClampNeg) - 1), p_5.2)
            else none
        else none
set_option maxRecDepth 100000 in
theorem L_110b_R {N : Nat} {t : Nat} : ∀ (k : Nat) (l_2 : Int32) (l_3 : Int32) (σ : st_S) (p : Int32 × st_S), L_110b N t k l_2 l_3 σ = some p → gR p.2 = gR σ := by
  intro k
  induction k with
  | zero => intro l_2 l_3 σ p H; unfold L_110b at H; cases H
  | succ k ih =>
    intro l_2 l_3 σ p H
    unfold L_110b at H
    refine F_if H (fun _ H => ?_) (fun _ H => ?_)
    · exact (((J_110b_63_R H)).trans rfl)
    · obtain ⟨_, H⟩ := F_gd H
      refine F_if H (fun _ H => ?_) (fun _ H => ?_)
      · exact (((J_110b_63_R H)).trans rfl)
      · obtain ⟨p_5, G_5, H⟩ := F_bd H
        refine F_if H (fun _ H => ?_) (fun _ H => ?_)
        · exact (((ih _ _ _ _ H)).trans ((F_112b_R G_5).trans rfl))
        · obtain ⟨_, H⟩ := F_gd H
          obtain rfl := Option.some.inj H
          exact ((F_112b_R G_5).trans rfl)
set_option maxHeartbeats 4000000 in
set_option maxRecDepth 100000 in
theorem L_110b_ok {N d : Nat} {t : Nat} (ht : t = 4 ∨ t = 20) : ∀ k : Nat, ∀ (l_2 : Int32) (l_3 : Int32) (σ : st_S) (lv : vz_L) (p : Int32 × st_S), vz_g lv 0 = some (.ref 52) → vz_g lv 1 = some (.ref (t + 12)) → vz_g lv 2 = some (.int l_2) → vz_g lv 3 = some (.int l_3) → vz_nbL (vz_gr P0) lv = true → L_110b N t k l_2 l_3 σ = some p → vz_ev P0 (d + 6) 110 8 lv [] (hp σ) (.inl (some (.int p.1)), hp p.2) := by
  rcases ht with rfl | rfl
  · intro k
    induction k with
    | zero => intro l_2 l_3 σ lv p g_0 g_1 g_2 g_3 hnb H; unfold L_110b at H; cases H
    | succ k ih =>
      intro l_2 l_3 σ lv p g_0 g_1 g_2 g_3 hnb H
      unfold L_110b at H
      refine ev_x (i := .iload_n 3) (len := 1) (p' := 9) (s' := [.int l_3]) rfl rfl (ld_i g_3) ?_
      refine ev_x (i := .sipush 1024) (len := 3) (p' := 12) (s' := [.int 1024, .int l_3]) rfl rfl rfl ?_
      refine F_if H (fun c_2 H => ?_) (fun c_2 H => ?_)
      · refine ev_b2 (t := 63) (p' := 63) rfl rfl rfl (if_pos c_2) ?_
        exact J_110b_63_ok (d := d) (Or.inl rfl) g_0 g_1 g_2 hnb  H
      · refine ev_b2 (t := 63) (p' := 15) rfl rfl rfl (if_neg c_2) ?_
        refine ev_x (i := .aload_n 0) (len := 1) (p' := 16) (s' := [.ref 52]) rfl rfl (ld_a g_0) ?_
        refine ev_gc (p' := 19) (v := 53) rfl rfl rfl ly_52 rfl rfl ?_
        refine ev_x (i := .iload_n 2) (len := 1) (p' := 20) (s' := [.int l_2, .ref 53]) rfl rfl (ld_i g_2) ?_
        obtain ⟨b_3, H⟩ := F_gd H
        refine ev_ga (p' := 21) (v := (gE (σ) 53 (l_2 : Int32).toNatClampNeg)) rfl rfl ly_53 rfl (gd_in b_3) rfl ?_
        refine F_if H (fun c_4 H => ?_) (fun c_4 H => ?_)
        · refine ev_b0 (t := 63) (p' := 63) rfl rfl rfl (if_pos c_4) ?_
          exact J_110b_63_ok (d := d) (Or.inl rfl) g_0 g_1 g_2 hnb  H
        · refine ev_b0 (t := 63) (p' := 24) rfl rfl rfl (if_neg c_4) ?_
          refine ev_x (i := .aload_n 0) (len := 1) (p' := 25) (s' := [.ref 52]) rfl rfl (ld_a g_0) ?_
          refine ev_x (i := .aload_n 0) (len := 1) (p' := 26) (s' := [.ref 52, .ref 52]) rfl rfl (ld_a g_0) ?_
          refine ev_gc (p' := 29) (v := 53) rfl rfl rfl ly_52 rfl rfl ?_
          refine ev_x (i := .iload_n 2) (len := 1) (p' := 30) (s' := [.int l_2, .ref 53, .ref 52]) rfl rfl (ld_i g_2) ?_
          refine ev_ga (p' := 31) (v := (gE (σ) 53 (l_2 : Int32).toNatClampNeg)) rfl rfl ly_53 rfl (gd_in b_3) rfl ?_
          refine ev_x (i := .iconst 1) (len := 1) (p' := 32) (s' := [.int 1, .int (gE (σ) 53 (l_2 : Int32).toNatClampNeg), .ref 52]) rfl rfl rfl ?_
          refine ev_x (i := .isub) (len := 1) (p' := 33) (s' := [.int ((gE (σ) 53 (l_2 : Int32).toNatClampNeg) - 1), .ref 52]) rfl rfl rfl ?_
          refine ev_x (i := .aload_n 1) (len := 1) (p' := 34) (s' := [.ref 16, .int ((gE (σ) 53 (l_2 : Int32).toNatClampNeg) - 1), .ref 52]) rfl rfl (ld_a g_1) ?_
          obtain ⟨p_5, G_5, H⟩ := F_bd H
          refine ev_cv (d := d + 5) (As := [.int ((gE (σ) 53 (l_2 : Int32).toNatClampNeg) - 1), .ref 16]) (a := 52) (p' := 37) rfl rfl rfl ly_52 rfl rfl rfl rfl rfl hnb rfl (F_112b_ok (d := d + 4) (ht := (Or.inl rfl))  G_5) ?_
          refine ev_st (st' := [.int p_5.1]) rfl ?_
          have e_5 := F_112b_R G_5
          refine F_if H (fun c_6 H => ?_) (fun c_6 H => ?_)
          · refine ev_b0 (t := 49) (p' := 49) rfl rfl rfl (if_pos c_6) ?_
            refine ev_x (i := .iload_n 2) (len := 1) (p' := 50) (s' := [.int l_2]) rfl rfl (ld_i g_2) ?_
            refine ev_x (i := .iconst 1) (len := 1) (p' := 51) (s' := [.int 1, .int l_2]) rfl rfl rfl ?_
            refine ev_x (i := .iadd) (len := 1) (p' := 52) (s' := [.int (l_2 + 1)]) rfl rfl rfl ?_
            refine ev_x (i := .sipush 1023) (len := 3) (p' := 55) (s' := [.int 1023, .int (l_2 + 1)]) rfl rfl rfl ?_
            refine ev_x (i := .iand) (len := 1) (p' := 56) (s' := [.int ((l_2 + 1) &&& 1023)]) rfl rfl rfl ?_
            refine ev_x (i := .istore_n 2) (len := 1) (p' := 57) (s' := []) (l' := vz_s1 (lv) 2 (.int ((l_2 + 1) &&& 1023))) rfl rfl rfl ?_
            refine ev_x (i := .iinc 3 1) (len := 3) (p' := 60) (s' := []) (l' := vz_s1 (vz_s1 (lv) 2 (.int ((l_2 + 1) &&& 1023))) 3 (.int (l_3 + 1))) rfl rfl (ld_inc (vg_o (i := 2) (v := .int ((l_2 + 1) &&& 1023)) g_3 (by decide) (Or.inl rfl)) rfl) ?_
            refine ev_x (i := .goto (-52)) (len := 3) (p' := 8) (s' := []) rfl rfl rfl ?_
            exact ih _ _ _ _ _ (vg_o (i := 3) (v := .int (l_3 + 1)) (vg_o (i := 2) (v := .int ((l_2 + 1) &&& 1023)) g_0 (by decide) (Or.inl rfl)) (by decide) (Or.inl rfl)) (vg_o (i := 3) (v := .int (l_3 + 1)) (vg_o (i := 2) (v := .int ((l_2 + 1) &&& 1023)) g_1 (by decide) (Or.inl rfl)) (by decide) (Or.inl rfl)) (vg_o (i := 3) (v := .int (l_3 + 1)) (vg_s (lv) 2 (.int ((l_2 + 1) &&& 1023))) (by decide) (Or.inl rfl)) (vg_s (vz_s1 (lv) 2 (.int ((l_2 + 1) &&& 1023))) 3 (.int (l_3 + 1))) (nb_s1 (nb_s1 hnb rfl) rfl)  H
          · refine ev_b0 (t := 49) (p' := 40) rfl rfl rfl (if_neg c_6) ?_
            refine ev_x (i := .aload_n 0) (len := 1) (p' := 41) (s' := [.ref 52]) rfl rfl (ld_a g_0) ?_
            refine ev_gc (p' := 44) (v := 53) rfl rfl rfl ly_52 rfl rfl ?_
            refine ev_x (i := .iload_n 2) (len := 1) (p' := 45) (s' := [.int l_2, .ref 53]) rfl rfl (ld_i g_2) ?_
            obtain ⟨b_7, H⟩ := F_gd H
            refine ev_ga (p' := 46) (v := (gE (p_5.2) 53 (l_2 : Int32).toNatClampNeg)) rfl rfl ly_53 rfl (gd_in b_7) rfl ?_
            refine ev_x (i := .iconst 1) (len := 1) (p' := 47) (s' := [.int 1, .int (gE (p_5.2) 53 (l_2 : Int32).toNatClampNeg)]) rfl rfl rfl ?_
            refine ev_x (i := .isub) (len := 1) (p' := 48) (s' := [.int ((gE (p_5.2) 53 (l_2 : Int32).toNatClampNeg) - 1)]) rfl rfl rfl ?_
            obtain rfl := Option.some.inj H
            exact ev_iret rfl rfl rfl rfl
  · intro k
    induction k with
    | zero => intro l_2 l_3 σ lv p g_0 g_1 g_2 g_3 hnb H; unfold L_110b at H; cases H
    | succ k ih =>
      intro l_2 l_3 σ lv p g_0 g_1 g_2 g_3 hnb H
      unfold L_110b at H
      refine ev_x (i := .iload_n 3) (len := 1) (p' := 9) (s' := [.int l_3]) rfl rfl (ld_i g_3) ?_
      refine ev_x (i := .sipush 1024) (len := 3) (p' := 12) (s' := [.int 1024, .int l_3]) rfl rfl rfl ?_
      refine F_if H (fun c_2 H => ?_) (fun c_2 H => ?_)
      · refine ev_b2 (t := 63) (p' := 63) rfl rfl rfl (if_pos c_2) ?_
        exact J_110b_63_ok (d := d) (Or.inr rfl) g_0 g_1 g_2 hnb  H
      · refine ev_b2 (t := 63) (p' := 15) rfl rfl rfl (if_neg c_2) ?_
        refine ev_x (i := .aload_n 0) (len := 1) (p' := 16) (s' := [.ref 52]) rfl rfl (ld_a g_0) ?_
        refine ev_gc (p' := 19) (v := 53) rfl rfl rfl ly_52 rfl rfl ?_
        refine ev_x (i := .iload_n 2) (len := 1) (p' := 20) (s' := [.int l_2, .ref 53]) rfl rfl (ld_i g_2) ?_
        obtain ⟨b_3, H⟩ := F_gd H
        refine ev_ga (p' := 21) (v := (gE (σ) 53 (l_2 : Int32).toNatClampNeg)) rfl rfl ly_53 rfl (gd_in b_3) rfl ?_
        refine F_if H (fun c_4 H => ?_) (fun c_4 H => ?_)
        · refine ev_b0 (t := 63) (p' := 63) rfl rfl rfl (if_pos c_4) ?_
          exact J_110b_63_ok (d := d) (Or.inr rfl) g_0 g_1 g_2 hnb  H
        · refine ev_b0 (t := 63) (p' := 24) rfl rfl rfl (if_neg c_4) ?_
          refine ev_x (i := .aload_n 0) (len := 1) (p' := 25) (s' := [.ref 52]) rfl rfl (ld_a g_0) ?_
          refine ev_x (i := .aload_n 0) (len := 1) (p' := 26) (s' := [.ref 52, .ref 52]) rfl rfl (ld_a g_0) ?_
          refine ev_gc (p' := 29) (v := 53) rfl rfl rfl ly_52 rfl rfl ?_
          refine ev_x (i := .iload_n 2) (len := 1) (p' := 30) (s' := [.int l_2, .ref 53, .ref 52]) rfl rfl (ld_i g_2) ?_
          refine ev_ga (p' := 31) (v := (gE (σ) 53 (l_2 : Int32).toNatClampNeg)) rfl rfl ly_53 rfl (gd_in b_3) rfl ?_
          refine ev_x (i := .iconst 1) (len := 1) (p' := 32) (s' := [.int 1, .int (gE (σ) 53 (l_2 : Int32).toNatClampNeg), .ref 52]) rfl rfl rfl ?_
          refine ev_x (i := .isub) (len := 1) (p' := 33) (s' := [.int ((gE (σ) 53 (l_2 : Int32).toNatClampNeg) - 1), .ref 52]) rfl rfl rfl ?_
          refine ev_x (i := .aload_n 1) (len := 1) (p' := 34) (s' := [.ref 32, .int ((gE (σ) 53 (l_2 : Int32).toNatClampNeg) - 1), .ref 52]) rfl rfl (ld_a g_1) ?_
          obtain ⟨p_5, G_5, H⟩ := F_bd H
          refine ev_cv (d := d + 5) (As := [.int ((gE (σ) 53 (l_2 : Int32).toNatClampNeg) - 1), .ref 32]) (a := 52) (p' := 37) rfl rfl rfl ly_52 rfl rfl rfl rfl rfl hnb rfl (F_112b_ok (d := d + 4) (ht := (Or.inr rfl))  G_5) ?_
          refine ev_st (st' := [.int p_5.1]) rfl ?_
          have e_5 := F_112b_R G_5
          refine F_if H (fun c_6 H => ?_) (fun c_6 H => ?_)
          · refine ev_b0 (t := 49) (p' := 49) rfl rfl rfl (if_pos c_6) ?_
            refine ev_x (i := .iload_n 2) (len := 1) (p' := 50) (s' := [.int l_2]) rfl rfl (ld_i g_2) ?_
            refine ev_x (i := .iconst 1) (len := 1) (p' := 51) (s' := [.int 1, .int l_2]) rfl rfl rfl ?_
            refine ev_x (i := .iadd) (len := 1) (p' := 52) (s' := [.int (l_2 + 1)]) rfl rfl rfl ?_
            refine ev_x (i := .sipush 1023) (len := 3) (p' := 55) (s' := [.int 1023, .int (l_2 + 1)]) rfl rfl rfl ?_
            refine ev_x (i := .iand) (len := 1) (p' := 56) (s' := [.int ((l_2 + 1) &&& 1023)]) rfl rfl rfl ?_
            refine ev_x (i := .istore_n 2) (len := 1) (p' := 57) (s' := []) (l' := vz_s1 (lv) 2 (.int ((l_2 + 1) &&& 1023))) rfl rfl rfl ?_
            refine ev_x (i := .iinc 3 1) (len := 3) (p' := 60) (s' := []) (l' := vz_s1 (vz_s1 (lv) 2 (.int ((l_2 + 1) &&& 1023))) 3 (.int (l_3 + 1))) rfl rfl (ld_inc (vg_o (i := 2) (v := .int ((l_2 + 1) &&& 1023)) g_3 (by decide) (Or.inl rfl)) rfl) ?_
            refine ev_x (i := .goto (-52)) (len := 3) (p' := 8) (s' := []) rfl rfl rfl ?_
            exact ih _ _ _ _ _ (vg_o (i := 3) (v := .int (l_3 + 1)) (vg_o (i := 2) (v := .int ((l_2 + 1) &&& 1023)) g_0 (by decide) (Or.inl rfl)) (by decide) (Or.inl rfl)) (vg_o (i := 3) (v := .int (l_3 + 1)) (vg_o (i := 2) (v := .int ((l_2 + 1) &&& 1023)) g_1 (by decide) (Or.inl rfl)) (by decide) (Or.inl rfl)) (vg_o (i := 3) (v := .int (l_3 + 1)) (vg_s (lv) 2 (.int ((l_2 + 1) &&& 1023))) (by decide) (Or.inl rfl)) (vg_s (vz_s1 (lv) 2 (.int ((l_2 + 1) &&& 1023))) 3 (.int (l_3 + 1))) (nb_s1 (nb_s1 hnb rfl) rfl)  H
          · refine ev_b0 (t := 49) (p' := 40) rfl rfl rfl (if_neg c_6) ?_
            refine ev_x (i := .aload_n 0) (len := 1) (p' := 41) (s' := [.ref 52]) rfl rfl (ld_a g_0) ?_
            refine ev_gc (p' := 44) (v := 53) rfl rfl rfl ly_52 rfl rfl ?_
            refine ev_x (i := .iload_n 2) (len := 1) (p' := 45) (s' := [.int l_2, .ref 53]) rfl rfl (ld_i g_2) ?_
            obtain ⟨b_7, H⟩ := F_gd H
            refine ev_ga (p' := 46) (v := (gE (p_5.2) 53 (l_2 : Int32).toNatClampNeg)) rfl rfl ly_53 rfl (gd_in b_7) rfl ?_
            refine ev_x (i := .iconst 1) (len := 1) (p' := 47) (s' := [.int 1, .int (gE (p_5.2) 53 (l_2 : Int32).toNatClampNeg)]) rfl rfl rfl ?_
            refine ev_x (i := .isub) (len := 1) (p' := 48) (s' := [.int ((gE (p_5.2) 53 (l_2 : Int32).toNatClampNeg) - 1)]) rfl rfl rfl ?_
            obtain rfl := Option.some.inj H
            exact ev_iret rfl rfl rfl rfl
/-- GameText$Graph.find([I)I -/
def F_110b (N : Nat) (t : Nat) (σ : st_S) : Option (Int32 × st_S) :=
  (F_111b N t (σ)).bind fun p_1 =>
  L_110b N t N p_1.1 0 (p_1.2)
set_option maxRecDepth 100000 in
theorem F_110b_R {N : Nat} {t : Nat} {σ : st_S} {p : Int32 × st_S} (H : F_110b N t σ = some p) : gR p.2 = gR σ := by
  unfold F_110b at H
  obtain ⟨p_1, G_1, H⟩ := F_bd H
  exact (((L_110b_R _ _ _ _ _ H)).trans ((F_111b_R G_1).trans rfl))
set_option maxHeartbeats 4000000 in
set_option maxRecDepth 100000 in
theorem F_110b_ok {N d : Nat} {t : Nat} (ht : t = 4 ∨ t = 20) {σ : st_S} {p : Int32 × st_S}  (H : F_110b N t σ = some p) : vz_ev P0 (d + 6) 110 0 (lv_args 0 [.ref 52, .ref (t + 12)]) [] (hp σ) (.inl (some (.int p.1)), hp p.2) := by
  unfold F_110b at H
  rcases ht with rfl | rfl
  · refine ev_x (i := .aload_n 0) (len := 1) (p' := 1) (s' := [.ref 52]) rfl rfl rfl ?_
    refine ev_x (i := .aload_n 1) (len := 1) (p' := 2) (s' := [.ref 16, .ref 52]) rfl rfl rfl ?_
    obtain ⟨p_1, G_1, H⟩ := F_bd H
    refine ev_cv (d := d + 5) (As := [.ref 16]) (a := 52) (p' := 5) rfl rfl rfl ly_52 rfl rfl rfl rfl rfl rfl rfl (F_111b_ok (d := d + 4) (ht := (Or.inl rfl))  G_1) ?_
    refine ev_st (st' := [.int p_1.1]) rfl ?_
    have e_1 := F_111b_R G_1
    refine ev_x (i := .istore_n 2) (len := 1) (p' := 6) (s' := []) (l' := [(2, .int p_1.1), (0, .ref 52), (1, .ref 16)]) rfl rfl rfl ?_
    refine ev_x (i := .iconst 0) (len := 1) (p' := 7) (s' := [.int 0]) rfl rfl rfl ?_
    refine ev_x (i := .istore_n 3) (len := 1) (p' := 8) (s' := []) (l' := [(3, .int 0), (2, .int p_1.1), (0, .ref 52), (1, .ref 16)]) rfl rfl rfl ?_
    exact (L_110b_ok (d := d) (Or.inl rfl) N) _ _ _ _ _ rfl rfl rfl rfl rfl  H
  · refine ev_x (i := .aload_n 0) (len := 1) (p' := 1) (s' := [.ref 52]) rfl rfl rfl ?_
    refine ev_x (i := .aload_n 1) (len := 1) (p' := 2) (s' := [.ref 32, .ref 52]) rfl rfl rfl ?_
    obtain ⟨p_1, G_1, H⟩ := F_bd H
    refine ev_cv (d := d + 5) (As := [.ref 32]) (a := 52) (p' := 5) rfl rfl rfl ly_52 rfl rfl rfl rfl rfl rfl rfl (F_111b_ok (d := d + 4) (ht := (Or.inr rfl))  G_1) ?_
    refine ev_st (st' := [.int p_1.1]) rfl ?_
    have e_1 := F_111b_R G_1
    refine ev_x (i := .istore_n 2) (len := 1) (p' := 6) (s' := []) (l' := [(2, .int p_1.1), (0, .ref 52), (1, .ref 32)]) rfl rfl rfl ?_
    refine ev_x (i := .iconst 0) (len := 1) (p' := 7) (s' := [.int 0]) rfl rfl rfl ?_
    refine ev_x (i := .istore_n 3) (len := 1) (p' := 8) (s' := []) (l' := [(3, .int 0), (2, .int p_1.1), (0, .ref 52), (1, .ref 32)]) rfl rfl rfl ?_
    exact (L_110b_ok (d := d) (Or.inr rfl) N) _ _ _ _ _ rfl rfl rfl rfl rfl  H
/-- GameText$Graph.openState(I)V -/
def F_115 (N : Nat) (x_1 : Int32) (σ : st_S) : Option (st_S) :=
  if aB x_1 (gN σ 56) then
  if aB (x_1 + 1) (gN σ 56) then
  some (st_e (st_e (σ) 56 ((x_1 : Int32).toNatClampNeg) (gI σ 52 11)) 56 (((x_1 + 1) : Int32).toNatClampNeg) (gI σ 52 11))
  else none
  else none
set_option maxRecDepth 100000 in
theorem F_115_R {N : Nat} {x_1 : Int32} {σ : st_S} {p : st_S} (H : F_115 N x_1 σ = some p) : gR p = gR σ := by
  unfold F_115 at H
  obtain ⟨_, H⟩ := F_gd H
  obtain ⟨_, H⟩ := F_gd H
  obtain rfl := Option.some.inj H
  exact rfl
set_option maxHeartbeats 4000000 in
set_option maxRecDepth 100000 in
theorem F_115_ok {N d : Nat} {x_1 : Int32} {σ : st_S} {p : st_S}  (H : F_115 N x_1 σ = some p) : vz_ev P0 (d + 1) 115 0 (lv_args 0 [.ref 52, .int x_1]) [] (hp σ) (.inl none, hp p) := by
  unfold F_115 at H
  refine ev_x (i := .aload_n 0) (len := 1) (p' := 1) (s' := [.ref 52]) rfl rfl rfl ?_
  refine ev_gc (p' := 4) (v := 56) rfl rfl rfl ly_52 rfl rfl ?_
  refine ev_x (i := .iload_n 1) (len := 1) (p' := 5) (s' := [.int x_1, .ref 56]) rfl rfl rfl ?_
  refine ev_x (i := .aload_n 0) (len := 1) (p' := 6) (s' := [.ref 52, .int x_1, .ref 56]) rfl rfl rfl ?_
  refine ev_gi (p' := 9) (v := (gI σ 52 11)) rfl rfl rfl ly_52 rfl rfl rfl ?_
  obtain ⟨b_1, H⟩ := F_gd H
  refine ev_pa (j := (x_1 : Int32).toNatClampNeg) (p' := 10) rfl rfl ly_56 rfl (gd_in b_1) rfl ?_
  refine ev_x (i := .aload_n 0) (len := 1) (p' := 11) (s' := [.ref 52]) rfl rfl rfl ?_
  refine ev_gc (p' := 14) (v := 56) rfl rfl rfl ly_52 rfl rfl ?_
  refine ev_x (i := .iload_n 1) (len := 1) (p' := 15) (s' := [.int x_1, .ref 56]) rfl rfl rfl ?_
  refine ev_x (i := .iconst 1) (len := 1) (p' := 16) (s' := [.int 1, .int x_1, .ref 56]) rfl rfl rfl ?_
  refine ev_x (i := .iadd) (len := 1) (p' := 17) (s' := [.int (x_1 + 1), .ref 56]) rfl rfl rfl ?_
  refine ev_x (i := .aload_n 0) (len := 1) (p' := 18) (s' := [.ref 52, .int (x_1 + 1), .ref 56]) rfl rfl rfl ?_
  refine ev_gi (p' := 21) (v := (gI σ 52 11)) rfl rfl rfl ly_52 rfl rfl rfl ?_
  obtain ⟨b_2, H⟩ := F_gd H
  refine ev_pa (j := ((x_1 + 1) : Int32).toNatClampNeg) (p' := 22) rfl rfl ly_56 rfl (gd_in b_2) rfl ?_
  obtain rfl := Option.some.inj H
  exact ev_vret rfl rfl rfl
/-- GameText$Graph.join(III)V -/
def F_124 (N : Nat) (x_1 : Int32) (x_2 : Int32) (x_3 : Int32) (σ : st_S) : Option (st_S) :=
  if aB x_1 (gN σ 60) then
  if aB x_1 (gN σ 61) then
  (F_75 N ((((gE (σ) 60 (x_1 : Int32).toNatClampNeg) : Int32).toInt64 * (x_3 : Int32).toInt64) + ((x_2 : Int32).toInt64 * ((gE (σ) 61 (x_1 : Int32).toNatClampNeg) : Int32).toInt64)) (((gE (σ) 61 (x_1 : Int32).toNatClampNeg) : Int32).toInt64 * (x_3 : Int32).toInt64) (σ)).bind fun p_3 =>
  if ¬ (p_3.1 : Int64) = 0 then
  if aB x_1 (gN p_3.2 60) then
  if aB x_1 (gN p_3.2 61) then
  some (st_e (st_e (p_3.2) 60 ((x_1 : Int32).toNatClampNeg) ((((((gE (σ) 60 (x_1 : Int32).toNatClampNeg) : Int32).toInt64 * (x_3 : Int32).toInt64) + ((x_2 : Int32).toInt64 * ((gE (σ) 61 (x_1 : Int32).toNatClampNeg) : Int32).toInt64)) / p_3.1) : Int64).toInt32) 61 ((x_1 : Int32).toNatClampNeg) (((((gE (σ) 61 (x_1 : Int32).toNatClampNeg) : Int32).toInt64 * (x_3 : Int32).toInt64) / p_3.1) : Int64).toInt32)
  else none
  else none
  else none
  else none
  else none
set_option maxRecDepth 100000 in
theorem F_124_R {N : Nat} {x_1 : Int32} {x_2 : Int32} {x_3 : Int32} {σ : st_S} {p : st_S} (H : F_124 N x_1 x_2 x_3 σ = some p) : gR p = gR σ := by
  unfold F_124 at H
  obtain ⟨_, H⟩ := F_gd H
  obtain ⟨_, H⟩ := F_gd H
  obtain ⟨p_3, G_3, H⟩ := F_bd H
  obtain ⟨_, H⟩ := F_gd H
  obtain ⟨_, H⟩ := F_gd H
  obtain ⟨_, H⟩ := F_gd H
  obtain rfl := Option.some.inj H
  exact ((F_75_R G_3).trans rfl)
set_option maxHeartbeats 4000000 in
set_option maxRecDepth 100000 in
theorem F_124_ok {N d : Nat} {x_1 : Int32} {x_2 : Int32} {x_3 : Int32} {σ : st_S} {p : st_S}  (H : F_124 N x_1 x_2 x_3 σ = some p) : vz_ev P0 (d + 2) 124 0 (lv_args 0 [.ref 52, .int x_1, .int x_2, .int x_3]) [] (hp σ) (.inl none, hp p) := by
  unfold F_124 at H
  refine ev_x (i := .aload_n 0) (len := 1) (p' := 1) (s' := [.ref 52]) rfl rfl rfl ?_
  refine ev_gc (p' := 4) (v := 60) rfl rfl rfl ly_52 rfl rfl ?_
  refine ev_x (i := .iload_n 1) (len := 1) (p' := 5) (s' := [.int x_1, .ref 60]) rfl rfl rfl ?_
  obtain ⟨b_1, H⟩ := F_gd H
  refine ev_ga (p' := 6) (v := (gE (σ) 60 (x_1 : Int32).toNatClampNeg)) rfl rfl ly_60 rfl (gd_in b_1) rfl ?_
  refine ev_x (i := .i2l) (len := 1) (p' := 7) (s' := [.long ((gE (σ) 60 (x_1 : Int32).toNatClampNeg) : Int32).toInt64]) rfl rfl rfl ?_
  refine ev_x (i := .iload_n 3) (len := 1) (p' := 8) (s' := [.int x_3, .long ((gE (σ) 60 (x_1 : Int32).toNatClampNeg) : Int32).toInt64]) rfl rfl rfl ?_
  refine ev_x (i := .i2l) (len := 1) (p' := 9) (s' := [.long (x_3 : Int32).toInt64, .long ((gE (σ) 60 (x_1 : Int32).toNatClampNeg) : Int32).toInt64]) rfl rfl rfl ?_
  refine ev_x (i := .lmul) (len := 1) (p' := 10) (s' := [.long (((gE (σ) 60 (x_1 : Int32).toNatClampNeg) : Int32).toInt64 * (x_3 : Int32).toInt64)]) rfl rfl rfl ?_
  refine ev_x (i := .iload_n 2) (len := 1) (p' := 11) (s' := [.int x_2, .long (((gE (σ) 60 (x_1 : Int32).toNatClampNeg) : Int32).toInt64 * (x_3 : Int32).toInt64)]) rfl rfl rfl ?_
  refine ev_x (i := .i2l) (len := 1) (p' := 12) (s' := [.long (x_2 : Int32).toInt64, .long (((gE (σ) 60 (x_1 : Int32).toNatClampNeg) : Int32).toInt64 * (x_3 : Int32).toInt64)]) rfl rfl rfl ?_
  refine ev_x (i := .aload_n 0) (len := 1) (p' := 13) (s' := [.ref 52, .long (x_2 : Int32).toInt64, .long (((gE (σ) 60 (x_1 : Int32).toNatClampNeg) : Int32).toInt64 * (x_3 : Int32).toInt64)]) rfl rfl rfl ?_
  refine ev_gc (p' := 16) (v := 61) rfl rfl rfl ly_52 rfl rfl ?_
  refine ev_x (i := .iload_n 1) (len := 1) (p' := 17) (s' := [.int x_1, .ref 61, .long (x_2 : Int32).toInt64, .long (((gE (σ) 60 (x_1 : Int32).toNatClampNeg) : Int32).toInt64 * (x_3 : Int32).toInt64)]) rfl rfl rfl ?_
  obtain ⟨b_2, H⟩ := F_gd H
  refine ev_ga (p' := 18) (v := (gE (σ) 61 (x_1 : Int32).toNatClampNeg)) rfl rfl ly_61 rfl (gd_in b_2) rfl ?_
  refine ev_x (i := .i2l) (len := 1) (p' := 19) (s' := [.long ((gE (σ) 61 (x_1 : Int32).toNatClampNeg) : Int32).toInt64, .long (x_2 : Int32).toInt64, .long (((gE (σ) 60 (x_1 : Int32).toNatClampNeg) : Int32).toInt64 * (x_3 : Int32).toInt64)]) rfl rfl rfl ?_
  refine ev_x (i := .lmul) (len := 1) (p' := 20) (s' := [.long ((x_2 : Int32).toInt64 * ((gE (σ) 61 (x_1 : Int32).toNatClampNeg) : Int32).toInt64), .long (((gE (σ) 60 (x_1 : Int32).toNatClampNeg) : Int32).toInt64 * (x_3 : Int32).toInt64)]) rfl rfl rfl ?_
  refine ev_x (i := .ladd) (len := 1) (p' := 21) (s' := [.long ((((gE (σ) 60 (x_1 : Int32).toNatClampNeg) : Int32).toInt64 * (x_3 : Int32).toInt64) + ((x_2 : Int32).toInt64 * ((gE (σ) 61 (x_1 : Int32).toNatClampNeg) : Int32).toInt64))]) rfl rfl rfl ?_
  refine ev_x (i := .lstore 4) (len := 2) (p' := 23) (s' := []) (l' := [(4, .long ((((gE (σ) 60 (x_1 : Int32).toNatClampNeg) : Int32).toInt64 * (x_3 : Int32).toInt64) + ((x_2 : Int32).toInt64 * ((gE (σ) 61 (x_1 : Int32).toNatClampNeg) : Int32).toInt64))), (0, .ref 52), (1, .int x_1), (2, .int x_2), (3, .int x_3)]) rfl rfl rfl ?_
  refine ev_x (i := .aload_n 0) (len := 1) (p' := 24) (s' := [.ref 52]) rfl rfl rfl ?_
  refine ev_gc (p' := 27) (v := 61) rfl rfl rfl ly_52 rfl rfl ?_
  refine ev_x (i := .iload_n 1) (len := 1) (p' := 28) (s' := [.int x_1, .ref 61]) rfl rfl rfl ?_
  refine ev_ga (p' := 29) (v := (gE (σ) 61 (x_1 : Int32).toNatClampNeg)) rfl rfl ly_61 rfl (gd_in b_2) rfl ?_
  refine ev_x (i := .i2l) (len := 1) (p' := 30) (s' := [.long ((gE (σ) 61 (x_1 : Int32).toNatClampNeg) : Int32).toInt64]) rfl rfl rfl ?_
  refine ev_x (i := .iload_n 3) (len := 1) (p' := 31) (s' := [.int x_3, .long ((gE (σ) 61 (x_1 : Int32).toNatClampNeg) : Int32).toInt64]) rfl rfl rfl ?_
  refine ev_x (i := .i2l) (len := 1) (p' := 32) (s' := [.long (x_3 : Int32).toInt64, .long ((gE (σ) 61 (x_1 : Int32).toNatClampNeg) : Int32).toInt64]) rfl rfl rfl ?_
  refine ev_x (i := .lmul) (len := 1) (p' := 33) (s' := [.long (((gE (σ) 61 (x_1 : Int32).toNatClampNeg) : Int32).toInt64 * (x_3 : Int32).toInt64)]) rfl rfl rfl ?_
  refine ev_x (i := .lstore 6) (len := 2) (p' := 35) (s' := []) (l' := [(6, .long (((gE (σ) 61 (x_1 : Int32).toNatClampNeg) : Int32).toInt64 * (x_3 : Int32).toInt64)), (4, .long ((((gE (σ) 60 (x_1 : Int32).toNatClampNeg) : Int32).toInt64 * (x_3 : Int32).toInt64) + ((x_2 : Int32).toInt64 * ((gE (σ) 61 (x_1 : Int32).toNatClampNeg) : Int32).toInt64))), (0, .ref 52), (1, .int x_1), (2, .int x_2), (3, .int x_3)]) rfl rfl rfl ?_
  refine ev_x (i := .lload 4) (len := 2) (p' := 37) (s' := [.long ((((gE (σ) 60 (x_1 : Int32).toNatClampNeg) : Int32).toInt64 * (x_3 : Int32).toInt64) + ((x_2 : Int32).toInt64 * ((gE (σ) 61 (x_1 : Int32).toNatClampNeg) : Int32).toInt64))]) rfl rfl rfl ?_
  refine ev_x (i := .lload 6) (len := 2) (p' := 39) (s' := [.long (((gE (σ) 61 (x_1 : Int32).toNatClampNeg) : Int32).toInt64 * (x_3 : Int32).toInt64), .long ((((gE (σ) 60 (x_1 : Int32).toNatClampNeg) : Int32).toInt64 * (x_3 : Int32).toInt64) + ((x_2 : Int32).toInt64 * ((gE (σ) 61 (x_1 : Int32).toNatClampNeg) : Int32).toInt64))]) rfl rfl rfl ?_
  obtain ⟨p_3, G_3, H⟩ := F_bd H
  refine ev_callS (d := d + 1) (As := [.long ((((gE (σ) 60 (x_1 : Int32).toNatClampNeg) : Int32).toInt64 * (x_3 : Int32).toInt64) + ((x_2 : Int32).toInt64 * ((gE (σ) 61 (x_1 : Int32).toNatClampNeg) : Int32).toInt64)), .long (((gE (σ) 61 (x_1 : Int32).toNatClampNeg) : Int32).toInt64 * (x_3 : Int32).toInt64)]) rfl rfl rfl (by decide) rfl rfl rfl rfl rfl (F_75_ok (d := d + 0)   G_3) ?_
  refine ev_st (st' := [.long p_3.1]) rfl ?_
  refine ev_pc (pc' := 42) rfl ?_
  have e_3 := F_75_R G_3
  refine ev_x (i := .lstore 8) (len := 2) (p' := 44) (s' := []) (l' := [(8, .long p_3.1), (6, .long (((gE (σ) 61 (x_1 : Int32).toNatClampNeg) : Int32).toInt64 * (x_3 : Int32).toInt64)), (4, .long ((((gE (σ) 60 (x_1 : Int32).toNatClampNeg) : Int32).toInt64 * (x_3 : Int32).toInt64) + ((x_2 : Int32).toInt64 * ((gE (σ) 61 (x_1 : Int32).toNatClampNeg) : Int32).toInt64))), (0, .ref 52), (1, .int x_1), (2, .int x_2), (3, .int x_3)]) rfl rfl rfl ?_
  refine ev_x (i := .aload_n 0) (len := 1) (p' := 45) (s' := [.ref 52]) rfl rfl rfl ?_
  refine ev_gc (p' := 48) (v := 60) rfl rfl rfl ly_52 rfl rfl ?_
  refine ev_x (i := .iload_n 1) (len := 1) (p' := 49) (s' := [.int x_1, .ref 60]) rfl rfl rfl ?_
  refine ev_x (i := .lload 4) (len := 2) (p' := 51) (s' := [.long ((((gE (σ) 60 (x_1 : Int32).toNatClampNeg) : Int32).toInt64 * (x_3 : Int32).toInt64) + ((x_2 : Int32).toInt64 * ((gE (σ) 61 (x_1 : Int32).toNatClampNeg) : Int32).toInt64)), .int x_1, .ref 60]) rfl rfl rfl ?_
  refine ev_x (i := .lload 8) (len := 2) (p' := 53) (s' := [.long p_3.1, .long ((((gE (σ) 60 (x_1 : Int32).toNatClampNeg) : Int32).toInt64 * (x_3 : Int32).toInt64) + ((x_2 : Int32).toInt64 * ((gE (σ) 61 (x_1 : Int32).toNatClampNeg) : Int32).toInt64)), .int x_1, .ref 60]) rfl rfl rfl ?_
  obtain ⟨b_4, H⟩ := F_gd H
  refine ev_ldiv (p' := 54) rfl rfl b_4 rfl ?_
  refine ev_x (i := .l2i) (len := 1) (p' := 55) (s' := [.int ((((((gE (σ) 60 (x_1 : Int32).toNatClampNeg) : Int32).toInt64 * (x_3 : Int32).toInt64) + ((x_2 : Int32).toInt64 * ((gE (σ) 61 (x_1 : Int32).toNatClampNeg) : Int32).toInt64)) / p_3.1) : Int64).toInt32, .int x_1, .ref 60]) rfl rfl rfl ?_
  obtain ⟨b_5, H⟩ := F_gd H
  refine ev_pa (j := (x_1 : Int32).toNatClampNeg) (p' := 56) rfl rfl ly_60 rfl (gd_in b_5) rfl ?_
  refine ev_x (i := .aload_n 0) (len := 1) (p' := 57) (s' := [.ref 52]) rfl rfl rfl ?_
  refine ev_gc (p' := 60) (v := 61) rfl rfl rfl ly_52 rfl rfl ?_
  refine ev_x (i := .iload_n 1) (len := 1) (p' := 61) (s' := [.int x_1, .ref 61]) rfl rfl rfl ?_
  refine ev_x (i := .lload 6) (len := 2) (p' := 63) (s' := [.long (((gE (σ) 61 (x_1 : Int32).toNatClampNeg) : Int32).toInt64 * (x_3 : Int32).toInt64), .int x_1, .ref 61]) rfl rfl rfl ?_
  refine ev_x (i := .lload 8) (len := 2) (p' := 65) (s' := [.long p_3.1, .long (((gE (σ) 61 (x_1 : Int32).toNatClampNeg) : Int32).toInt64 * (x_3 : Int32).toInt64), .int x_1, .ref 61]) rfl rfl rfl ?_
  refine ev_ldiv (p' := 66) rfl rfl b_4 rfl ?_
  refine ev_x (i := .l2i) (len := 1) (p' := 67) (s' := [.int (((((gE (σ) 61 (x_1 : Int32).toNatClampNeg) : Int32).toInt64 * (x_3 : Int32).toInt64) / p_3.1) : Int64).toInt32, .int x_1, .ref 61]) rfl rfl rfl ?_
  obtain ⟨b_6, H⟩ := F_gd H
  refine ev_pa (j := (x_1 : Int32).toNatClampNeg) (p' := 68) rfl rfl ly_61 rfl (gd_in b_6) rfl ?_
  obtain rfl := Option.some.inj H
  exact ev_vret rfl rfl rfl
/-- GameText$Graph.addCommand(II)V, from 46 -/
def J_121_46 (N : Nat) (l_1 : Int32) (l_2 : Int32) (σ : st_S) : Option (st_S) :=
  if aB (gI σ 52 11) (gN σ 57) then
  if aB (gI σ 52 11) (gN σ 58) then
  if aB ((gI σ 52 11) + 1) (gN σ 58) then
  if aB (l_1 + 1) (gN σ 56) then
  some (st_e (st_e (st_i (st_e (st_e (σ) 57 (((gI σ 52 11) : Int32).toNatClampNeg) l_2) 58 (((gI σ 52 11) : Int32).toNatClampNeg) (gI σ 52 12)) 52 11 ((gI σ 52 11) + 1)) 58 ((((gI σ 52 11) + 1) : Int32).toNatClampNeg) (gI σ 52 12)) 56 (((l_1 + 1) : Int32).toNatClampNeg) ((gI σ 52 11) + 1))
  else none
  else none
  else none
  else none
set_option maxRecDepth 100000 in
theorem J_121_46_R {N : Nat} {l_1 : Int32} {l_2 : Int32} {σ : st_S} {p : st_S} (H : J_121_46 N l_1 l_2 σ = some p) : gR p = gR σ := by
  unfold J_121_46 at H
  obtain ⟨_, H⟩ := F_gd H
  obtain ⟨_, H⟩ := F_gd H
  obtain ⟨_, H⟩ := F_gd H
  obtain ⟨_, H⟩ := F_gd H
  obtain rfl := Option.some.inj H
  exact rfl
set_option maxHeartbeats 4000000 in
set_option maxRecDepth 100000 in
theorem J_121_46_ok {N d : Nat} {l_1 : Int32} {l_2 : Int32} {σ : st_S} {lv : vz_L} {p : st_S} (g_0 : vz_g lv 0 = some (.ref 52)) (g_1 : vz_g lv 1 = some (.int l_1)) (g_2 : vz_g lv 2 = some (.int l_2)) (hnb : vz_nbL (vz_gr P0) lv = true)  (H : J_121_46 N l_1 l_2 σ = some p) : vz_ev P0 (d + 5) 121 46 lv [] (hp σ) (.inl none, hp p) := by
  unfold J_121_46 at H
  refine ev_x (i := .aload_n 0) (len := 1) (p' := 47) (s' := [.ref 52]) rfl rfl (ld_a g_0) ?_
  refine ev_gc (p' := 50) (v := 57) rfl rfl rfl ly_52 rfl rfl ?_
  refine ev_x (i := .aload_n 0) (len := 1) (p' := 51) (s' := [.ref 52, .ref 57]) rfl rfl (ld_a g_0) ?_
  refine ev_gi (p' := 54) (v := (gI σ 52 11)) rfl rfl rfl ly_52 rfl rfl rfl ?_
  refine ev_x (i := .iload_n 2) (len := 1) (p' := 55) (s' := [.int l_2, .int (gI σ 52 11), .ref 57]) rfl rfl (ld_i g_2) ?_
  obtain ⟨b_4, H⟩ := F_gd H
  refine ev_pa (j := ((gI σ 52 11) : Int32).toNatClampNeg) (p' := 56) rfl rfl ly_57 rfl (gd_in b_4) rfl ?_
  refine ev_x (i := .aload_n 0) (len := 1) (p' := 57) (s' := [.ref 52]) rfl rfl (ld_a g_0) ?_
  refine ev_gc (p' := 60) (v := 58) rfl rfl rfl ly_52 rfl rfl ?_
  refine ev_x (i := .aload_n 0) (len := 1) (p' := 61) (s' := [.ref 52, .ref 58]) rfl rfl (ld_a g_0) ?_
  refine ev_gi (p' := 64) (v := (gI σ 52 11)) rfl rfl rfl ly_52 rfl rfl rfl ?_
  refine ev_x (i := .aload_n 0) (len := 1) (p' := 65) (s' := [.ref 52, .int (gI σ 52 11), .ref 58]) rfl rfl (ld_a g_0) ?_
  refine ev_gi (p' := 68) (v := (gI σ 52 12)) rfl rfl rfl ly_52 rfl rfl rfl ?_
  obtain ⟨b_5, H⟩ := F_gd H
  refine ev_pa (j := ((gI σ 52 11) : Int32).toNatClampNeg) (p' := 69) rfl rfl ly_58 rfl (gd_in b_5) rfl ?_
  refine ev_x (i := .aload_n 0) (len := 1) (p' := 70) (s' := [.ref 52]) rfl rfl (ld_a g_0) ?_
  refine ev_x (i := .dup) (len := 1) (p' := 71) (s' := [.ref 52, .ref 52]) rfl rfl rfl ?_
  refine ev_gi (p' := 74) (v := (gI σ 52 11)) rfl rfl rfl ly_52 rfl rfl rfl ?_
  refine ev_x (i := .iconst 1) (len := 1) (p' := 75) (s' := [.int 1, .int (gI σ 52 11), .ref 52]) rfl rfl rfl ?_
  refine ev_x (i := .iadd) (len := 1) (p' := 76) (s' := [.int ((gI σ 52 11) + 1), .ref 52]) rfl rfl rfl ?_
  refine ev_pi (p' := 79) rfl rfl rfl ly_52 rfl rfl rfl rfl ?_
  refine ev_x (i := .aload_n 0) (len := 1) (p' := 80) (s' := [.ref 52]) rfl rfl (ld_a g_0) ?_
  refine ev_gc (p' := 83) (v := 58) rfl rfl rfl ly_52 rfl rfl ?_
  refine ev_x (i := .aload_n 0) (len := 1) (p' := 84) (s' := [.ref 52, .ref 58]) rfl rfl (ld_a g_0) ?_
  refine ev_gi (p' := 87) (v := ((gI σ 52 11) + 1)) rfl rfl rfl ly_52 rfl rfl rfl ?_
  refine ev_x (i := .aload_n 0) (len := 1) (p' := 88) (s' := [.ref 52, .int ((gI σ 52 11) + 1), .ref 58]) rfl rfl (ld_a g_0) ?_
  refine ev_gi (p' := 91) (v := (gI σ 52 12)) rfl rfl rfl ly_52 rfl rfl rfl ?_
  obtain ⟨b_6, H⟩ := F_gd H
  refine ev_pa (j := (((gI σ 52 11) + 1) : Int32).toNatClampNeg) (p' := 92) rfl rfl ly_58 rfl (gd_in b_6) rfl ?_
  refine ev_x (i := .aload_n 0) (len := 1) (p' := 93) (s' := [.ref 52]) rfl rfl (ld_a g_0) ?_
  refine ev_gc (p' := 96) (v := 56) rfl rfl rfl ly_52 rfl rfl ?_
  refine ev_x (i := .iload_n 1) (len := 1) (p' := 97) (s' := [.int l_1, .ref 56]) rfl rfl (ld_i g_1) ?_
  refine ev_x (i := .iconst 1) (len := 1) (p' := 98) (s' := [.int 1, .int l_1, .ref 56]) rfl rfl rfl ?_
  refine ev_x (i := .iadd) (len := 1) (p' := 99) (s' := [.int (l_1 + 1), .ref 56]) rfl rfl rfl ?_
  refine ev_x (i := .aload_n 0) (len := 1) (p' := 100) (s' := [.ref 52, .int (l_1 + 1), .ref 56]) rfl rfl (ld_a g_0) ?_
  refine ev_gi (p' := 103) (v := ((gI σ 52 11) + 1)) rfl rfl rfl ly_52 rfl rfl rfl ?_
  obtain ⟨b_7, H⟩ := F_gd H
  refine ev_pa (j := ((l_1 + 1) : Int32).toNatClampNeg) (p' := 104) rfl rfl ly_56 rfl (gd_in b_7) rfl ?_
  obtain rfl := Option.some.inj H
  exact ev_vret rfl rfl rfl
/-- GameText$Graph.addCommand(II)V -/
def F_121 (N : Nat) (x_1 : Int32) (x_2 : Int32) (σ : st_S) : Option (st_S) :=
  if (gI σ 52 11) < (nI (gN σ 57)) then
    J_121_46 N x_1 x_2 (σ)
  else
    if gwB (σ) 57 (2 * (nI (gN σ 57))) then
    if gwB (st_gw (σ) 57 (gN σ 57) ((2 * (nI (gN σ 57))) : Int32).toNatClampNeg) 58 ((2 * (nI (gN σ 57))) + 1) then
    J_121_46 N x_1 x_2 (st_gw (st_gw (σ) 57 (gN σ 57) ((2 * (nI (gN σ 57))) : Int32).toNatClampNeg) 58 (gN σ 58) (((2 * (nI (gN σ 57))) + 1) : Int32).toNatClampNeg)
    else none
    else none
set_option maxRecDepth 100000 in
theorem F_121_R {N : Nat} {x_1 : Int32} {x_2 : Int32} {σ : st_S} {p : st_S} (H : F_121 N x_1 x_2 σ = some p) : gR p = gR σ := by
  unfold F_121 at H
  refine F_if H (fun _ H => ?_) (fun _ H => ?_)
  · exact (((J_121_46_R H)).trans rfl)
  · obtain ⟨_, H⟩ := F_gd H
    obtain ⟨_, H⟩ := F_gd H
    exact (((J_121_46_R H)).trans ((gR_gw _ _ _ _).trans ((gR_gw _ _ _ _).trans rfl)))
set_option maxHeartbeats 4000000 in
set_option maxRecDepth 100000 in
theorem F_121_ok {N d : Nat} {x_1 : Int32} {x_2 : Int32} {σ : st_S} {p : st_S}  (H : F_121 N x_1 x_2 σ = some p) : vz_ev P0 (d + 5) 121 0 (lv_args 0 [.ref 52, .int x_1, .int x_2]) [] (hp σ) (.inl none, hp p) := by
  unfold F_121 at H
  refine ev_x (i := .aload_n 0) (len := 1) (p' := 1) (s' := [.ref 52]) rfl rfl rfl ?_
  refine ev_gi (p' := 4) (v := (gI σ 52 11)) rfl rfl rfl ly_52 rfl rfl rfl ?_
  refine ev_x (i := .aload_n 0) (len := 1) (p' := 5) (s' := [.ref 52, .int (gI σ 52 11)]) rfl rfl rfl ?_
  refine ev_gc (p' := 8) (v := 57) rfl rfl rfl ly_52 rfl rfl ?_
  refine ev_al (p' := 9) (v := (nI (gN σ 57))) rfl rfl ly_57 (by decide) (by decide) rfl rfl ?_
  refine F_if H (fun c_1 H => ?_) (fun c_1 H => ?_)
  · refine ev_b2 (t := 46) (p' := 46) rfl rfl rfl (if_pos c_1) ?_
    exact J_121_46_ok (d := d) rfl rfl rfl rfl  H
  · refine ev_b2 (t := 46) (p' := 12) rfl rfl rfl (if_neg c_1) ?_
    refine ev_x (i := .iconst 2) (len := 1) (p' := 13) (s' := [.int 2]) rfl rfl rfl ?_
    refine ev_x (i := .aload_n 0) (len := 1) (p' := 14) (s' := [.ref 52, .int 2]) rfl rfl rfl ?_
    refine ev_gc (p' := 17) (v := 57) rfl rfl rfl ly_52 rfl rfl ?_
    refine ev_al (p' := 18) (v := (nI (gN σ 57))) rfl rfl ly_57 (by decide) (by decide) rfl rfl ?_
    refine ev_x (i := .imul) (len := 1) (p' := 19) (s' := [.int (2 * (nI (gN σ 57)))]) rfl rfl rfl ?_
    refine ev_x (i := .istore_n 3) (len := 1) (p' := 20) (s' := []) (l' := [(3, .int (2 * (nI (gN σ 57)))), (0, .ref 52), (1, .int x_1), (2, .int x_2)]) rfl rfl rfl ?_
    refine ev_x (i := .aload_n 0) (len := 1) (p' := 21) (s' := [.ref 52]) rfl rfl rfl ?_
    refine ev_x (i := .aload_n 0) (len := 1) (p' := 22) (s' := [.ref 52, .ref 52]) rfl rfl rfl ?_
    refine ev_gc (p' := 25) (v := 57) rfl rfl rfl ly_52 rfl rfl ?_
    refine ev_x (i := .iload_n 3) (len := 1) (p' := 26) (s' := [.int (2 * (nI (gN σ 57))), .ref 57, .ref 52]) rfl rfl rfl ?_
    obtain ⟨b_2, H⟩ := F_gd H
    refine ev_gw (d := d + 0) (k := 57) (p' := 32) rfl rfl rfl rfl rfl rfl ly_52 rfl ly_57 (fun _ => rfl) rfl rfl rfl rfl rfl b_2 rfl ?_
    refine ev_x (i := .aload_n 0) (len := 1) (p' := 33) (s' := [.ref 52]) rfl rfl rfl ?_
    refine ev_x (i := .aload_n 0) (len := 1) (p' := 34) (s' := [.ref 52, .ref 52]) rfl rfl rfl ?_
    refine ev_gc (p' := 37) (v := 58) rfl rfl rfl ly_52 rfl rfl ?_
    refine ev_x (i := .iload_n 3) (len := 1) (p' := 38) (s' := [.int (2 * (nI (gN σ 57))), .ref 58, .ref 52]) rfl rfl rfl ?_
    refine ev_x (i := .iconst 1) (len := 1) (p' := 39) (s' := [.int 1, .int (2 * (nI (gN σ 57))), .ref 58, .ref 52]) rfl rfl rfl ?_
    refine ev_x (i := .iadd) (len := 1) (p' := 40) (s' := [.int ((2 * (nI (gN σ 57))) + 1), .ref 58, .ref 52]) rfl rfl rfl ?_
    obtain ⟨b_3, H⟩ := F_gd H
    refine ev_gw (d := d + 0) (k := 58) (p' := 46) rfl rfl rfl rfl rfl rfl ly_52 rfl ly_58 (fun _ => rfl) rfl rfl rfl rfl rfl b_3 rfl ?_
    exact J_121_46_ok (d := d) rfl rfl rfl rfl  H
/-- GameText$Graph.addBranch(III)Z, from 136 -/
def J_123_136 (N : Nat) (l_1 : Int32) (l_2 : Int32) (l_3 : Int32) (σ : st_S) : Option (Int32 × st_S) :=
  if aB (gI σ 52 12) (gN σ 59) then
  if aB (gI σ 52 12) (gN σ 60) then
  if aB (gI σ 52 12) (gN σ 61) then
  if aB (gI σ 52 11) (gN σ 58) then
  some (1, st_e (st_i (st_e (st_e (st_e (σ) 59 (((gI σ 52 12) : Int32).toNatClampNeg) l_1) 60 (((gI σ 52 12) : Int32).toNatClampNeg) l_2) 61 (((gI σ 52 12) : Int32).toNatClampNeg) l_3) 52 12 ((gI σ 52 12) + 1)) 58 (((gI σ 52 11) : Int32).toNatClampNeg) ((gI σ 52 12) + 1))
  else none
  else none
  else none
  else none
set_option maxRecDepth 100000 in
theorem J_123_136_R {N : Nat} {l_1 : Int32} {l_2 : Int32} {l_3 : Int32} {σ : st_S} {p : Int32 × st_S} (H : J_123_136 N l_1 l_2 l_3 σ = some p) : gR p.2 = gR σ := by
  unfold J_123_136 at H
  obtain ⟨_, H⟩ := F_gd H
  obtain ⟨_, H⟩ := F_gd H
  obtain ⟨_, H⟩ := F_gd H
  obtain ⟨_, H⟩ := F_gd H
  obtain rfl := Option.some.inj H
  exact rfl
set_option maxHeartbeats 4000000 in
set_option maxRecDepth 100000 in
theorem J_123_136_ok {N d : Nat} {l_1 : Int32} {l_2 : Int32} {l_3 : Int32} {σ : st_S} {lv : vz_L} {p : Int32 × st_S} (g_0 : vz_g lv 0 = some (.ref 52)) (g_1 : vz_g lv 1 = some (.int l_1)) (g_2 : vz_g lv 2 = some (.int l_2)) (g_3 : vz_g lv 3 = some (.int l_3)) (hnb : vz_nbL (vz_gr P0) lv = true)  (H : J_123_136 N l_1 l_2 l_3 σ = some p) : vz_ev P0 (d + 5) 123 136 lv [] (hp σ) (.inl (some (.int p.1)), hp p.2) := by
  unfold J_123_136 at H
  refine ev_x (i := .aload_n 0) (len := 1) (p' := 137) (s' := [.ref 52]) rfl rfl (ld_a g_0) ?_
  refine ev_gc (p' := 140) (v := 59) rfl rfl rfl ly_52 rfl rfl ?_
  refine ev_x (i := .aload_n 0) (len := 1) (p' := 141) (s' := [.ref 52, .ref 59]) rfl rfl (ld_a g_0) ?_
  refine ev_gi (p' := 144) (v := (gI σ 52 12)) rfl rfl rfl ly_52 rfl rfl rfl ?_
  refine ev_x (i := .iload_n 1) (len := 1) (p' := 145) (s' := [.int l_1, .int (gI σ 52 12), .ref 59]) rfl rfl (ld_i g_1) ?_
  obtain ⟨b_12, H⟩ := F_gd H
  refine ev_pa (j := ((gI σ 52 12) : Int32).toNatClampNeg) (p' := 146) rfl rfl ly_59 rfl (gd_in b_12) rfl ?_
  refine ev_x (i := .aload_n 0) (len := 1) (p' := 147) (s' := [.ref 52]) rfl rfl (ld_a g_0) ?_
  refine ev_gc (p' := 150) (v := 60) rfl rfl rfl ly_52 rfl rfl ?_
  refine ev_x (i := .aload_n 0) (len := 1) (p' := 151) (s' := [.ref 52, .ref 60]) rfl rfl (ld_a g_0) ?_
  refine ev_gi (p' := 154) (v := (gI σ 52 12)) rfl rfl rfl ly_52 rfl rfl rfl ?_
  refine ev_x (i := .iload_n 2) (len := 1) (p' := 155) (s' := [.int l_2, .int (gI σ 52 12), .ref 60]) rfl rfl (ld_i g_2) ?_
  obtain ⟨b_13, H⟩ := F_gd H
  refine ev_pa (j := ((gI σ 52 12) : Int32).toNatClampNeg) (p' := 156) rfl rfl ly_60 rfl (gd_in b_13) rfl ?_
  refine ev_x (i := .aload_n 0) (len := 1) (p' := 157) (s' := [.ref 52]) rfl rfl (ld_a g_0) ?_
  refine ev_gc (p' := 160) (v := 61) rfl rfl rfl ly_52 rfl rfl ?_
  refine ev_x (i := .aload_n 0) (len := 1) (p' := 161) (s' := [.ref 52, .ref 61]) rfl rfl (ld_a g_0) ?_
  refine ev_gi (p' := 164) (v := (gI σ 52 12)) rfl rfl rfl ly_52 rfl rfl rfl ?_
  refine ev_x (i := .iload_n 3) (len := 1) (p' := 165) (s' := [.int l_3, .int (gI σ 52 12), .ref 61]) rfl rfl (ld_i g_3) ?_
  obtain ⟨b_14, H⟩ := F_gd H
  refine ev_pa (j := ((gI σ 52 12) : Int32).toNatClampNeg) (p' := 166) rfl rfl ly_61 rfl (gd_in b_14) rfl ?_
  refine ev_x (i := .aload_n 0) (len := 1) (p' := 167) (s' := [.ref 52]) rfl rfl (ld_a g_0) ?_
  refine ev_x (i := .dup) (len := 1) (p' := 168) (s' := [.ref 52, .ref 52]) rfl rfl rfl ?_
  refine ev_gi (p' := 171) (v := (gI σ 52 12)) rfl rfl rfl ly_52 rfl rfl rfl ?_
  refine ev_x (i := .iconst 1) (len := 1) (p' := 172) (s' := [.int 1, .int (gI σ 52 12), .ref 52]) rfl rfl rfl ?_
  refine ev_x (i := .iadd) (len := 1) (p' := 173) (s' := [.int ((gI σ 52 12) + 1), .ref 52]) rfl rfl rfl ?_
  refine ev_pi (p' := 176) rfl rfl rfl ly_52 rfl rfl rfl rfl ?_
  refine ev_x (i := .aload_n 0) (len := 1) (p' := 177) (s' := [.ref 52]) rfl rfl (ld_a g_0) ?_
  refine ev_gc (p' := 180) (v := 58) rfl rfl rfl ly_52 rfl rfl ?_
  refine ev_x (i := .aload_n 0) (len := 1) (p' := 181) (s' := [.ref 52, .ref 58]) rfl rfl (ld_a g_0) ?_
  refine ev_gi (p' := 184) (v := (gI σ 52 11)) rfl rfl rfl ly_52 rfl rfl rfl ?_
  refine ev_x (i := .aload_n 0) (len := 1) (p' := 185) (s' := [.ref 52, .int (gI σ 52 11), .ref 58]) rfl rfl (ld_a g_0) ?_
  refine ev_gi (p' := 188) (v := ((gI σ 52 12) + 1)) rfl rfl rfl ly_52 rfl rfl rfl ?_
  obtain ⟨b_15, H⟩ := F_gd H
  refine ev_pa (j := ((gI σ 52 11) : Int32).toNatClampNeg) (p' := 189) rfl rfl ly_58 rfl (gd_in b_15) rfl ?_
  refine ev_x (i := .iconst 1) (len := 1) (p' := 190) (s' := [.int 1]) rfl rfl rfl ?_
  obtain rfl := Option.some.inj H
  exact ev_iret rfl rfl rfl rfl
/-- GameText$Graph.addBranch(III)Z, its loops -/
def L_123 (N : Nat) : Nat → Int32 → Int32 → Int32 → Int32 → st_S → Option (Int32 × st_S)
  | 0, _, _, _, _, _ => none
  | k + 1, l_1, l_2, l_3, l_5, σ =>
      if (gI σ 52 12) ≤ l_5 then
        if (gI σ 52 12) < 4096 then
          if (gI σ 52 12) < (nI (gN σ 59)) then
            J_123_136 N l_1 l_2 l_3 (σ)
          else
            if gwB (σ) 59 (2 * (nI (gN σ 59))) then
            if gwB (st_gw (σ) 59 (gN σ 59) ((2 * (nI (gN σ 59))) : Int32).toNatClampNeg) 60 (2 * (nI (gN σ 59))) then
            if gwB (st_gw (st_gw (σ) 59 (gN σ 59) ((2 * (nI (gN σ 59))) : Int32).toNatClampNeg) 60 (gN σ 60) ((2 * (nI (gN σ 59))) : Int32).toNatClampNeg) 61 (2 * (nI (gN σ 59))) then
            J_123_136 N l_1 l_2 l_3 (st_gw (st_gw (st_gw (σ) 59 (gN σ 59) ((2 * (nI (gN σ 59))) : Int32).toNatClampNeg) 60 (gN σ 60) ((2 * (nI (gN σ 59))) : Int32).toNatClampNeg) 61 (gN σ 61) ((2 * (nI (gN σ 59))) : Int32).toNatClampNeg)
            else none
            else none
            else none
        else
          some (0, σ)
      else
        if aB l_5 (gN σ 59) then
        if (gE (σ) 59 (l_5 : Int32).toNatClampNeg) = l_1 then
          (F_124 N l_5 l_2 l_3 (σ)).bind fun p_11 =>
          some (1, p_11)
        else
          L_123 N k l_1 l_2 l_3 (l_5 + 1) (σ)
        else none
set_option maxRecDepth 100000 in
theorem L_123_R {N : Nat} : ∀ (k : Nat) (l_1 : Int32) (l_2 : Int32) (l_3 : Int32) (l_5 : Int32) (σ : st_S) (p : Int32 × st_S), L_123 N k l_1 l_2 l_3 l_5 σ = some p → gR p.2 = gR σ := by
  intro k
  induction k with
  | zero => intro l_1 l_2 l_3 l_5 σ p H; unfold L_123 at H; cases H
  | succ k ih =>
    intro l_1 l_2 l_3 l_5 σ p H
    unfold L_123 at H
    refine F_if H (fun _ H => ?_) (fun _ H => ?_)
    · refine F_if H (fun _ H => ?_) (fun _ H => ?_)
      · refine F_if H (fun _ H => ?_) (fun _ H => ?_)
        · exact (((J_123_136_R H)).trans rfl)
        · obtain ⟨_, H⟩ := F_gd H
          obtain ⟨_, H⟩ := F_gd H
          obtain ⟨_, H⟩ := F_gd H
          exact (((J_123_136_R H)).trans ((gR_gw _ _ _ _).trans ((gR_gw _ _ _ _).trans ((gR_gw _ _ _ _).trans rfl))))
      · obtain rfl := Option.some.inj H
        exact rfl
    · obtain ⟨_, H⟩ := F_gd H
      refine F_if H (fun _ H => ?_) (fun _ H => ?_)
      · obtain ⟨p_11, G_11, H⟩ := F_bd H
        obtain rfl := Option.some.inj H
        exact ((F_124_R G_11).trans rfl)
      · exact (((ih _ _ _ _ _ _ H)).trans rfl)
set_option maxHeartbeats 4000000 in
set_option maxRecDepth 100000 in
theorem L_123_ok {N d : Nat} : ∀ k : Nat, ∀ (l_1 : Int32) (l_2 : Int32) (l_3 : Int32) (l_5 : Int32) (σ : st_S) (lv : vz_L) (p : Int32 × st_S), vz_g lv 0 = some (.ref 52) → vz_g lv 1 = some (.int l_1) → vz_g lv 2 = some (.int l_2) → vz_g lv 3 = some (.int l_3) → vz_g lv 5 = some (.int l_5) → vz_nbL (vz_gr P0) lv = true → L_123 N k l_1 l_2 l_3 l_5 σ = some p → vz_ev P0 (d + 5) 123 28 lv [] (hp σ) (.inl (some (.int p.1)), hp p.2) := by
  intro k
  induction k with
  | zero => intro l_1 l_2 l_3 l_5 σ lv p g_0 g_1 g_2 g_3 g_5 hnb H; unfold L_123 at H; cases H
  | succ k ih =>
    intro l_1 l_2 l_3 l_5 σ lv p g_0 g_1 g_2 g_3 g_5 hnb H
    unfold L_123 at H
    refine ev_x (i := .iload 5) (len := 2) (p' := 30) (s' := [.int l_5]) rfl rfl (ld_i g_5) ?_
    refine ev_x (i := .aload_n 0) (len := 1) (p' := 31) (s' := [.ref 52, .int l_5]) rfl rfl (ld_a g_0) ?_
    refine ev_gi (p' := 34) (v := (gI σ 52 12)) rfl rfl rfl ly_52 rfl rfl rfl ?_
    refine F_if H (fun c_3 H => ?_) (fun c_3 H => ?_)
    · refine ev_b2 (t := 64) (p' := 64) rfl rfl rfl (if_pos c_3) ?_
      refine ev_x (i := .aload_n 0) (len := 1) (p' := 65) (s' := [.ref 52]) rfl rfl (ld_a g_0) ?_
      refine ev_gi (p' := 68) (v := (gI σ 52 12)) rfl rfl rfl ly_52 rfl rfl rfl ?_
      refine ev_x (i := .sipush 4096) (len := 3) (p' := 71) (s' := [.int 4096, .int (gI σ 52 12)]) rfl rfl rfl ?_
      refine F_if H (fun c_4 H => ?_) (fun c_4 H => ?_)
      · refine ev_b2 (t := 76) (p' := 76) rfl rfl rfl (if_pos c_4) ?_
        refine ev_x (i := .aload_n 0) (len := 1) (p' := 77) (s' := [.ref 52]) rfl rfl (ld_a g_0) ?_
        refine ev_gi (p' := 80) (v := (gI σ 52 12)) rfl rfl rfl ly_52 rfl rfl rfl ?_
        refine ev_x (i := .aload_n 0) (len := 1) (p' := 81) (s' := [.ref 52, .int (gI σ 52 12)]) rfl rfl (ld_a g_0) ?_
        refine ev_gc (p' := 84) (v := 59) rfl rfl rfl ly_52 rfl rfl ?_
        refine ev_al (p' := 85) (v := (nI (gN σ 59))) rfl rfl ly_59 (by decide) (by decide) rfl rfl ?_
        refine F_if H (fun c_5 H => ?_) (fun c_5 H => ?_)
        · refine ev_b2 (t := 136) (p' := 136) rfl rfl rfl (if_pos c_5) ?_
          exact J_123_136_ok (d := d) g_0 g_1 g_2 g_3 hnb  H
        · refine ev_b2 (t := 136) (p' := 88) rfl rfl rfl (if_neg c_5) ?_
          refine ev_x (i := .iconst 2) (len := 1) (p' := 89) (s' := [.int 2]) rfl rfl rfl ?_
          refine ev_x (i := .aload_n 0) (len := 1) (p' := 90) (s' := [.ref 52, .int 2]) rfl rfl (ld_a g_0) ?_
          refine ev_gc (p' := 93) (v := 59) rfl rfl rfl ly_52 rfl rfl ?_
          refine ev_al (p' := 94) (v := (nI (gN σ 59))) rfl rfl ly_59 (by decide) (by decide) rfl rfl ?_
          refine ev_x (i := .imul) (len := 1) (p' := 95) (s' := [.int (2 * (nI (gN σ 59)))]) rfl rfl rfl ?_
          refine ev_x (i := .istore 5) (len := 2) (p' := 97) (s' := []) (l' := vz_s1 (lv) 5 (.int (2 * (nI (gN σ 59))))) rfl rfl rfl ?_
          refine ev_x (i := .aload_n 0) (len := 1) (p' := 98) (s' := [.ref 52]) rfl rfl (ld_a (vg_o (i := 5) (v := .int (2 * (nI (gN σ 59)))) g_0 (by decide) (Or.inl rfl))) ?_
          refine ev_x (i := .aload_n 0) (len := 1) (p' := 99) (s' := [.ref 52, .ref 52]) rfl rfl (ld_a (vg_o (i := 5) (v := .int (2 * (nI (gN σ 59)))) g_0 (by decide) (Or.inl rfl))) ?_
          refine ev_gc (p' := 102) (v := 59) rfl rfl rfl ly_52 rfl rfl ?_
          refine ev_x (i := .iload 5) (len := 2) (p' := 104) (s' := [.int (2 * (nI (gN σ 59))), .ref 59, .ref 52]) rfl rfl (ld_i (vg_s (lv) 5 (.int (2 * (nI (gN σ 59)))))) ?_
          obtain ⟨b_6, H⟩ := F_gd H
          refine ev_gw (d := d + 0) (k := 59) (p' := 110) rfl rfl rfl rfl rfl rfl ly_52 rfl ly_59 (fun _ => rfl) rfl rfl rfl rfl (nb_s1 hnb rfl) b_6 rfl ?_
          refine ev_x (i := .aload_n 0) (len := 1) (p' := 111) (s' := [.ref 52]) rfl rfl (ld_a (vg_o (i := 5) (v := .int (2 * (nI (gN σ 59)))) g_0 (by decide) (Or.inl rfl))) ?_
          refine ev_x (i := .aload_n 0) (len := 1) (p' := 112) (s' := [.ref 52, .ref 52]) rfl rfl (ld_a (vg_o (i := 5) (v := .int (2 * (nI (gN σ 59)))) g_0 (by decide) (Or.inl rfl))) ?_
          refine ev_gc (p' := 115) (v := 60) rfl rfl rfl ly_52 rfl rfl ?_
          refine ev_x (i := .iload 5) (len := 2) (p' := 117) (s' := [.int (2 * (nI (gN σ 59))), .ref 60, .ref 52]) rfl rfl (ld_i (vg_s (lv) 5 (.int (2 * (nI (gN σ 59)))))) ?_
          obtain ⟨b_7, H⟩ := F_gd H
          refine ev_gw (d := d + 0) (k := 60) (p' := 123) rfl rfl rfl rfl rfl rfl ly_52 rfl ly_60 (fun _ => rfl) rfl rfl rfl rfl (nb_s1 hnb rfl) b_7 rfl ?_
          refine ev_x (i := .aload_n 0) (len := 1) (p' := 124) (s' := [.ref 52]) rfl rfl (ld_a (vg_o (i := 5) (v := .int (2 * (nI (gN σ 59)))) g_0 (by decide) (Or.inl rfl))) ?_
          refine ev_x (i := .aload_n 0) (len := 1) (p' := 125) (s' := [.ref 52, .ref 52]) rfl rfl (ld_a (vg_o (i := 5) (v := .int (2 * (nI (gN σ 59)))) g_0 (by decide) (Or.inl rfl))) ?_
          refine ev_gc (p' := 128) (v := 61) rfl rfl rfl ly_52 rfl rfl ?_
          refine ev_x (i := .iload 5) (len := 2) (p' := 130) (s' := [.int (2 * (nI (gN σ 59))), .ref 61, .ref 52]) rfl rfl (ld_i (vg_s (lv) 5 (.int (2 * (nI (gN σ 59)))))) ?_
          obtain ⟨b_8, H⟩ := F_gd H
          refine ev_gw (d := d + 0) (k := 61) (p' := 136) rfl rfl rfl rfl rfl rfl ly_52 rfl ly_61 (fun _ => rfl) rfl rfl rfl rfl (nb_s1 hnb rfl) b_8 rfl ?_
          exact J_123_136_ok (d := d) (vg_o (i := 5) (v := .int (2 * (nI (gN σ 59)))) g_0 (by decide) (Or.inl rfl)) (vg_o (i := 5) (v := .int (2 * (nI (gN σ 59)))) g_1 (by decide) (Or.inl rfl)) (vg_o (i := 5) (v := .int (2 * (nI (gN σ 59)))) g_2 (by decide) (Or.inl rfl)) (vg_o (i := 5) (v := .int (2 * (nI (gN σ 59)))) g_3 (by decide) (Or.inl rfl)) (nb_s1 hnb rfl)  H
      · refine ev_b2 (t := 76) (p' := 74) rfl rfl rfl (if_neg c_4) ?_
        refine ev_x (i := .iconst 0) (len := 1) (p' := 75) (s' := [.int 0]) rfl rfl rfl ?_
        obtain rfl := Option.some.inj H
        exact ev_iret rfl rfl rfl rfl
    · refine ev_b2 (t := 64) (p' := 37) rfl rfl rfl (if_neg c_3) ?_
      refine ev_x (i := .aload_n 0) (len := 1) (p' := 38) (s' := [.ref 52]) rfl rfl (ld_a g_0) ?_
      refine ev_gc (p' := 41) (v := 59) rfl rfl rfl ly_52 rfl rfl ?_
      refine ev_x (i := .iload 5) (len := 2) (p' := 43) (s' := [.int l_5, .ref 59]) rfl rfl (ld_i g_5) ?_
      obtain ⟨b_9, H⟩ := F_gd H
      refine ev_ga (p' := 44) (v := (gE (σ) 59 (l_5 : Int32).toNatClampNeg)) rfl rfl ly_59 rfl (gd_in b_9) rfl ?_
      refine ev_x (i := .iload_n 1) (len := 1) (p' := 45) (s' := [.int l_1, .int (gE (σ) 59 (l_5 : Int32).toNatClampNeg)]) rfl rfl (ld_i g_1) ?_
      refine F_if H (fun c_10 H => ?_) (fun c_10 H => ?_)
      · refine ev_b2 (t := 58) (p' := 48) rfl rfl rfl (if_neg (fun q => q c_10)) ?_
        refine ev_x (i := .aload_n 0) (len := 1) (p' := 49) (s' := [.ref 52]) rfl rfl (ld_a g_0) ?_
        refine ev_x (i := .iload 5) (len := 2) (p' := 51) (s' := [.int l_5, .ref 52]) rfl rfl (ld_i g_5) ?_
        refine ev_x (i := .iload_n 2) (len := 1) (p' := 52) (s' := [.int l_2, .int l_5, .ref 52]) rfl rfl (ld_i g_2) ?_
        refine ev_x (i := .iload_n 3) (len := 1) (p' := 53) (s' := [.int l_3, .int l_2, .int l_5, .ref 52]) rfl rfl (ld_i g_3) ?_
        obtain ⟨p_11, G_11, H⟩ := F_bd H
        refine ev_cv (d := d + 4) (As := [.int l_5, .int l_2, .int l_3]) (a := 52) (p' := 56) rfl rfl rfl ly_52 rfl rfl rfl rfl rfl hnb rfl (F_124_ok (d := d + 2)   G_11) ?_
        refine ev_st (st' := []) rfl ?_
        have e_11 := F_124_R G_11
        refine ev_x (i := .iconst 1) (len := 1) (p' := 57) (s' := [.int 1]) rfl rfl rfl ?_
        obtain rfl := Option.some.inj H
        exact ev_iret rfl rfl rfl rfl
      · refine ev_b2 (t := 58) (p' := 58) rfl rfl rfl (if_pos c_10) ?_
        refine ev_x (i := .iinc 5 1) (len := 3) (p' := 61) (s' := []) (l' := vz_s1 (lv) 5 (.int (l_5 + 1))) rfl rfl (ld_inc g_5 rfl) ?_
        refine ev_x (i := .goto (-33)) (len := 3) (p' := 28) (s' := []) rfl rfl rfl ?_
        exact ih _ _ _ _ _ _ _ (vg_o (i := 5) (v := .int (l_5 + 1)) g_0 (by decide) (Or.inl rfl)) (vg_o (i := 5) (v := .int (l_5 + 1)) g_1 (by decide) (Or.inl rfl)) (vg_o (i := 5) (v := .int (l_5 + 1)) g_2 (by decide) (Or.inl rfl)) (vg_o (i := 5) (v := .int (l_5 + 1)) g_3 (by decide) (Or.inl rfl)) (vg_s (lv) 5 (.int (l_5 + 1))) (nb_s1 hnb rfl)  H
/-- GameText$Graph.addBranch(III)Z -/
def F_123 (N : Nat) (x_1 : Int32) (x_2 : Int32) (x_3 : Int32) (σ : st_S) : Option (Int32 × st_S) :=
  if (gI σ 52 11) ≤ 0 then
    L_123 N N x_1 x_2 x_3 0 (σ)
  else
    if aB ((gI σ 52 11) - 1) (gN σ 58) then
    L_123 N N x_1 x_2 x_3 (gE (σ) 58 (((gI σ 52 11) - 1) : Int32).toNatClampNeg) (σ)
    else none
set_option maxRecDepth 100000 in
theorem F_123_R {N : Nat} {x_1 : Int32} {x_2 : Int32} {x_3 : Int32} {σ : st_S} {p : Int32 × st_S} (H : F_123 N x_1 x_2 x_3 σ = some p) : gR p.2 = gR σ := by
  unfold F_123 at H
  refine F_if H (fun _ H => ?_) (fun _ H => ?_)
  · exact (((L_123_R _ _ _ _ _ _ _ H)).trans rfl)
  · obtain ⟨_, H⟩ := F_gd H
    exact (((L_123_R _ _ _ _ _ _ _ H)).trans rfl)
set_option maxHeartbeats 4000000 in
set_option maxRecDepth 100000 in
theorem F_123_ok {N d : Nat} {x_1 : Int32} {x_2 : Int32} {x_3 : Int32} {σ : st_S} {p : Int32 × st_S}  (H : F_123 N x_1 x_2 x_3 σ = some p) : vz_ev P0 (d + 5) 123 0 (lv_args 0 [.ref 52, .int x_1, .int x_2, .int x_3]) [] (hp σ) (.inl (some (.int p.1)), hp p.2) := by
  unfold F_123 at H
  refine ev_x (i := .aload_n 0) (len := 1) (p' := 1) (s' := [.ref 52]) rfl rfl rfl ?_
  refine ev_gi (p' := 4) (v := (gI σ 52 11)) rfl rfl rfl ly_52 rfl rfl rfl ?_
  refine F_if H (fun c_1 H => ?_) (fun c_1 H => ?_)
  · refine ev_b0 (t := 21) (p' := 21) rfl rfl rfl (if_pos c_1) ?_
    refine ev_x (i := .iconst 0) (len := 1) (p' := 22) (s' := [.int 0]) rfl rfl rfl ?_
    refine ev_x (i := .istore 4) (len := 2) (p' := 24) (s' := []) (l' := [(4, .int 0), (0, .ref 52), (1, .int x_1), (2, .int x_2), (3, .int x_3)]) rfl rfl rfl ?_
    refine ev_x (i := .iload 4) (len := 2) (p' := 26) (s' := [.int 0]) rfl rfl rfl ?_
    refine ev_x (i := .istore 5) (len := 2) (p' := 28) (s' := []) (l' := [(5, .int 0), (4, .int 0), (0, .ref 52), (1, .int x_1), (2, .int x_2), (3, .int x_3)]) rfl rfl rfl ?_
    exact (L_123_ok (d := d) N) _ _ _ _ _ _ _ rfl rfl rfl rfl rfl rfl  H
  · refine ev_b0 (t := 21) (p' := 7) rfl rfl rfl (if_neg c_1) ?_
    refine ev_x (i := .aload_n 0) (len := 1) (p' := 8) (s' := [.ref 52]) rfl rfl rfl ?_
    refine ev_gc (p' := 11) (v := 58) rfl rfl rfl ly_52 rfl rfl ?_
    refine ev_x (i := .aload_n 0) (len := 1) (p' := 12) (s' := [.ref 52, .ref 58]) rfl rfl rfl ?_
    refine ev_gi (p' := 15) (v := (gI σ 52 11)) rfl rfl rfl ly_52 rfl rfl rfl ?_
    refine ev_x (i := .iconst 1) (len := 1) (p' := 16) (s' := [.int 1, .int (gI σ 52 11), .ref 58]) rfl rfl rfl ?_
    refine ev_x (i := .isub) (len := 1) (p' := 17) (s' := [.int ((gI σ 52 11) - 1), .ref 58]) rfl rfl rfl ?_
    obtain ⟨b_2, H⟩ := F_gd H
    refine ev_ga (p' := 18) (v := (gE (σ) 58 (((gI σ 52 11) - 1) : Int32).toNatClampNeg)) rfl rfl ly_58 rfl (gd_in b_2) rfl ?_
    refine ev_x (i := .goto 4) (len := 3) (p' := 22) (s' := [.int (gE (σ) 58 (((gI σ 52 11) - 1) : Int32).toNatClampNeg)]) rfl rfl rfl ?_
    refine ev_x (i := .istore 4) (len := 2) (p' := 24) (s' := []) (l' := [(4, .int (gE (σ) 58 (((gI σ 52 11) - 1) : Int32).toNatClampNeg)), (0, .ref 52), (1, .int x_1), (2, .int x_2), (3, .int x_3)]) rfl rfl rfl ?_
    refine ev_x (i := .iload 4) (len := 2) (p' := 26) (s' := [.int (gE (σ) 58 (((gI σ 52 11) - 1) : Int32).toNatClampNeg)]) rfl rfl rfl ?_
    refine ev_x (i := .istore 5) (len := 2) (p' := 28) (s' := []) (l' := [(5, .int (gE (σ) 58 (((gI σ 52 11) - 1) : Int32).toNatClampNeg)), (4, .int (gE (σ) 58 (((gI σ 52 11) - 1) : Int32).toNatClampNeg)), (0, .ref 52), (1, .int x_1), (2, .int x_2), (3, .int x_3)]) rfl rfl rfl ?_
    exact (L_123_ok (d := d) N) _ _ _ _ _ _ _ rfl rfl rfl rfl rfl rfl  H
