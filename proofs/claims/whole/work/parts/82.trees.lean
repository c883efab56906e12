/-! methods as functions of the store. Written by wip/prog/dec2.py, gen_all.py -/
/-- GameTextModel.place(I)I -/
def F_159 (N : Nat) (x_1 : Int32) (σ : st_S) : Option (Int32 × st_S) :=
  (N_139 N 73 x_1 (σ)).bind fun p_1 =>
  some (p_1.1, p_1.2)
set_option maxRecDepth 100000 in
theorem F_159_R {N : Nat} {x_1 : Int32} {σ : st_S} {p : Int32 × st_S} (H : F_159 N x_1 σ = some p) : gR p.2 = gR σ := by
  unfold F_159 at H
  obtain ⟨p_1, G_1, H⟩ := F_bd H
  obtain rfl := Option.some.inj H
  exact ((N_139_R G_1).trans rfl)
set_option maxHeartbeats 4000000 in
set_option maxRecDepth 100000 in
theorem F_159_ok {N d : Nat} {x_1 : Int32} {σ : st_S} {p : Int32 × st_S}  (H : F_159 N x_1 σ = some p) : vz_ev P0 (d + 2) 159 0 (lv_args 0 [.ref 66, .int x_1]) [] (hp σ) (.inl (some (.int p.1)), hp p.2) := by
  unfold F_159 at H
  refine ev_x (i := .aload_n 0) (len := 1) (p' := 1) (s' := [.ref 66]) rfl rfl rfl ?_
  refine ev_gc (p' := 4) (v := 73) rfl rfl rfl ly_66 rfl rfl ?_
  refine ev_x (i := .iload_n 1) (len := 1) (p' := 5) (s' := [.int x_1, .ref 73]) rfl rfl rfl ?_
  obtain ⟨p_1, G_1, H⟩ := F_bd H
  refine ev_cv (d := d + 1) (As := [.int x_1]) (a := 73) (p' := 8) rfl rfl rfl ly_73 rfl rfl rfl rfl rfl rfl rfl (N_139_ok (d := d + 0) nm_73 G_1) ?_
  refine ev_st (st' := [.int p_1.1]) rfl ?_
  have e_1 := N_139_R G_1
  obtain rfl := Option.some.inj H
  exact ev_iret rfl rfl rfl rfl
/-- GameTextModel$Game.clear()V -/
def F_161 (N : Nat) (g : Nat) (σ : st_S) : Option (st_S) :=
  some (st_i (st_i (st_i (st_i (st_i (st_i (st_i (st_i (st_i (st_i (st_i (st_i (st_i (σ) (g + 1) 1 0) (g + 3) 1 0) (g + 5) 1 0) (g + 7) 1 0) (g + 9) 1 0) (g + 11) 1 0) g 6 0) g 12 0) g 17 (-1)) g 18 0) (g + 30) 1 0) (g + 32) 1 0) (g + 34) 1 0)
set_option maxRecDepth 100000 in
theorem F_161_R {N : Nat} {g : Nat} {σ : st_S} {p : st_S} (H : F_161 N g σ = some p) : gR p = gR σ := by
  unfold F_161 at H
  obtain rfl := Option.some.inj H
  exact rfl
set_option maxHeartbeats 4000000 in
set_option maxRecDepth 100000 in
theorem F_161_ok {N d : Nat} {g : Nat} (hg : g = 79 ∨ g = 115) {σ : st_S} {p : st_S}  (H : F_161 N g σ = some p) : vz_ev P0 (d + 1) 161 0 (lv_args 0 [.ref g]) [] (hp σ) (.inl none, hp p) := by
  unfold F_161 at H
  rcases hg with rfl | rfl
  · refine ev_x (i := .aload_n 0) (len := 1) (p' := 1) (s' := [.ref 79]) rfl rfl rfl ?_
    refine ev_gc (p' := 4) (v := 80) rfl rfl rfl ly_79 rfl rfl ?_
    refine ev_x (i := .iconst 0) (len := 1) (p' := 5) (s' := [.int 0, .ref 80]) rfl rfl rfl ?_
    refine ev_pi (p' := 8) rfl rfl rfl ly_80 rfl rfl rfl rfl ?_
    refine ev_x (i := .aload_n 0) (len := 1) (p' := 9) (s' := [.ref 79]) rfl rfl rfl ?_
    refine ev_gc (p' := 12) (v := 82) rfl rfl rfl ly_79 rfl rfl ?_
    refine ev_x (i := .iconst 0) (len := 1) (p' := 13) (s' := [.int 0, .ref 82]) rfl rfl rfl ?_
    refine ev_pi (p' := 16) rfl rfl rfl ly_82 rfl rfl rfl rfl ?_
    refine ev_x (i := .aload_n 0) (len := 1) (p' := 17) (s' := [.ref 79]) rfl rfl rfl ?_
    refine ev_gc (p' := 20) (v := 84) rfl rfl rfl ly_79 rfl rfl ?_
    refine ev_x (i := .iconst 0) (len := 1) (p' := 21) (s' := [.int 0, .ref 84]) rfl rfl rfl ?_
    refine ev_pi (p' := 24) rfl rfl rfl ly_84 rfl rfl rfl rfl ?_
    refine ev_x (i := .aload_n 0) (len := 1) (p' := 25) (s' := [.ref 79]) rfl rfl rfl ?_
    refine ev_gc (p' := 28) (v := 86) rfl rfl rfl ly_79 rfl rfl ?_
    refine ev_x (i := .iconst 0) (len := 1) (p' := 29) (s' := [.int 0, .ref 86]) rfl rfl rfl ?_
    refine ev_pi (p' := 32) rfl rfl rfl ly_86 rfl rfl rfl rfl ?_
    refine ev_x (i := .aload_n 0) (len := 1) (p' := 33) (s' := [.ref 79]) rfl rfl rfl ?_
    refine ev_gc (p' := 36) (v := 88) rfl rfl rfl ly_79 rfl rfl ?_
    refine ev_x (i := .iconst 0) (len := 1) (p' := 37) (s' := [.int 0, .ref 88]) rfl rfl rfl ?_
    refine ev_pi (p' := 40) rfl rfl rfl ly_88 rfl rfl rfl rfl ?_
    refine ev_x (i := .aload_n 0) (len := 1) (p' := 41) (s' := [.ref 79]) rfl rfl rfl ?_
    refine ev_gc (p' := 44) (v := 90) rfl rfl rfl ly_79 rfl rfl ?_
    refine ev_x (i := .iconst 0) (len := 1) (p' := 45) (s' := [.int 0, .ref 90]) rfl rfl rfl ?_
    refine ev_pi (p' := 48) rfl rfl rfl ly_90 rfl rfl rfl rfl ?_
    refine ev_x (i := .aload_n 0) (len := 1) (p' := 49) (s' := [.ref 79]) rfl rfl rfl ?_
    refine ev_x (i := .iconst 0) (len := 1) (p' := 50) (s' := [.int 0, .ref 79]) rfl rfl rfl ?_
    refine ev_pi (p' := 53) rfl rfl rfl ly_79 rfl rfl rfl rfl ?_
    refine ev_x (i := .aload_n 0) (len := 1) (p' := 54) (s' := [.ref 79]) rfl rfl rfl ?_
    refine ev_x (i := .iconst 0) (len := 1) (p' := 55) (s' := [.int 0, .ref 79]) rfl rfl rfl ?_
    refine ev_pi (p' := 58) rfl rfl rfl ly_79 rfl rfl rfl rfl ?_
    refine ev_x (i := .aload_n 0) (len := 1) (p' := 59) (s' := [.ref 79]) rfl rfl rfl ?_
    refine ev_x (i := .iconst (-1)) (len := 1) (p' := 60) (s' := [.int (-1), .ref 79]) rfl rfl rfl ?_
    refine ev_pi (p' := 63) rfl rfl rfl ly_79 rfl rfl rfl rfl ?_
    refine ev_x (i := .aload_n 0) (len := 1) (p' := 64) (s' := [.ref 79]) rfl rfl rfl ?_
    refine ev_x (i := .iconst 0) (len := 1) (p' := 65) (s' := [.int 0, .ref 79]) rfl rfl rfl ?_
    refine ev_pi (p' := 68) rfl rfl rfl ly_79 rfl rfl rfl rfl ?_
    refine ev_x (i := .aload_n 0) (len := 1) (p' := 69) (s' := [.ref 79]) rfl rfl rfl ?_
    refine ev_gc (p' := 72) (v := 109) rfl rfl rfl ly_79 rfl rfl ?_
    refine ev_x (i := .iconst 0) (len := 1) (p' := 73) (s' := [.int 0, .ref 109]) rfl rfl rfl ?_
    refine ev_pi (p' := 76) rfl rfl rfl ly_109 rfl rfl rfl rfl ?_
    refine ev_x (i := .aload_n 0) (len := 1) (p' := 77) (s' := [.ref 79]) rfl rfl rfl ?_
    refine ev_gc (p' := 80) (v := 111) rfl rfl rfl ly_79 rfl rfl ?_
    refine ev_x (i := .iconst 0) (len := 1) (p' := 81) (s' := [.int 0, .ref 111]) rfl rfl rfl ?_
    refine ev_pi (p' := 84) rfl rfl rfl ly_111 rfl rfl rfl rfl ?_
    refine ev_x (i := .aload_n 0) (len := 1) (p' := 85) (s' := [.ref 79]) rfl rfl rfl ?_
    refine ev_gc (p' := 88) (v := 113) rfl rfl rfl ly_79 rfl rfl ?_
    refine ev_x (i := .iconst 0) (len := 1) (p' := 89) (s' := [.int 0, .ref 113]) rfl rfl rfl ?_
    refine ev_pi (p' := 92) rfl rfl rfl ly_113 rfl rfl rfl rfl ?_
    obtain rfl := Option.some.inj H
    exact ev_vret rfl rfl rfl
  · refine ev_x (i := .aload_n 0) (len := 1) (p' := 1) (s' := [.ref 115]) rfl rfl rfl ?_
    refine ev_gc (p' := 4) (v := 116) rfl rfl rfl ly_115 rfl rfl ?_
    refine ev_x (i := .iconst 0) (len := 1) (p' := 5) (s' := [.int 0, .ref 116]) rfl rfl rfl ?_
    refine ev_pi (p' := 8) rfl rfl rfl ly_116 rfl rfl rfl rfl ?_
    refine ev_x (i := .aload_n 0) (len := 1) (p' := 9) (s' := [.ref 115]) rfl rfl rfl ?_
    refine ev_gc (p' := 12) (v := 118) rfl rfl rfl ly_115 rfl rfl ?_
    refine ev_x (i := .iconst 0) (len := 1) (p' := 13) (s' := [.int 0, .ref 118]) rfl rfl rfl ?_
    refine ev_pi (p' := 16) rfl rfl rfl ly_118 rfl rfl rfl rfl ?_
    refine ev_x (i := .aload_n 0) (len := 1) (p' := 17) (s' := [.ref 115]) rfl rfl rfl ?_
    refine ev_gc (p' := 20) (v := 120) rfl rfl rfl ly_115 rfl rfl ?_
    refine ev_x (i := .iconst 0) (len := 1) (p' := 21) (s' := [.int 0, .ref 120]) rfl rfl rfl ?_
    refine ev_pi (p' := 24) rfl rfl rfl ly_120 rfl rfl rfl rfl ?_
    refine ev_x (i := .aload_n 0) (len := 1) (p' := 25) (s' := [.ref 115]) rfl rfl rfl ?_
    refine ev_gc (p' := 28) (v := 122) rfl rfl rfl ly_115 rfl rfl ?_
    refine ev_x (i := .iconst 0) (len := 1) (p' := 29) (s' := [.int 0, .ref 122]) rfl rfl rfl ?_
    refine ev_pi (p' := 32) rfl rfl rfl ly_122 rfl rfl rfl rfl ?_
    refine ev_x (i := .aload_n 0) (len := 1) (p' := 33) (s' := [.ref 115]) rfl rfl rfl ?_
    refine ev_gc (p' := 36) (v := 124) rfl rfl rfl ly_115 rfl rfl ?_
    refine ev_x (i := .iconst 0) (len := 1) (p' := 37) (s' := [.int 0, .ref 124]) rfl rfl rfl ?_
    refine ev_pi (p' := 40) rfl rfl rfl ly_124 rfl rfl rfl rfl ?_
    refine ev_x (i := .aload_n 0) (len := 1) (p' := 41) (s' := [.ref 115]) rfl rfl rfl ?_
    refine ev_gc (p' := 44) (v := 126) rfl rfl rfl ly_115 rfl rfl ?_
    refine ev_x (i := .iconst 0) (len := 1) (p' := 45) (s' := [.int 0, .ref 126]) rfl rfl rfl ?_
    refine ev_pi (p' := 48) rfl rfl rfl ly_126 rfl rfl rfl rfl ?_
    refine ev_x (i := .aload_n 0) (len := 1) (p' := 49) (s' := [.ref 115]) rfl rfl rfl ?_
    refine ev_x (i := .iconst 0) (len := 1) (p' := 50) (s' := [.int 0, .ref 115]) rfl rfl rfl ?_
    refine ev_pi (p' := 53) rfl rfl rfl ly_115 rfl rfl rfl rfl ?_
    refine ev_x (i := .aload_n 0) (len := 1) (p' := 54) (s' := [.ref 115]) rfl rfl rfl ?_
    refine ev_x (i := .iconst 0) (len := 1) (p' := 55) (s' := [.int 0, .ref 115]) rfl rfl rfl ?_
    refine ev_pi (p' := 58) rfl rfl rfl ly_115 rfl rfl rfl rfl ?_
    refine ev_x (i := .aload_n 0) (len := 1) (p' := 59) (s' := [.ref 115]) rfl rfl rfl ?_
    refine ev_x (i := .iconst (-1)) (len := 1) (p' := 60) (s' := [.int (-1), .ref 115]) rfl rfl rfl ?_
    refine ev_pi (p' := 63) rfl rfl rfl ly_115 rfl rfl rfl rfl ?_
    refine ev_x (i := .aload_n 0) (len := 1) (p' := 64) (s' := [.ref 115]) rfl rfl rfl ?_
    refine ev_x (i := .iconst 0) (len := 1) (p' := 65) (s' := [.int 0, .ref 115]) rfl rfl rfl ?_
    refine ev_pi (p' := 68) rfl rfl rfl ly_115 rfl rfl rfl rfl ?_
    refine ev_x (i := .aload_n 0) (len := 1) (p' := 69) (s' := [.ref 115]) rfl rfl rfl ?_
    refine ev_gc (p' := 72) (v := 145) rfl rfl rfl ly_115 rfl rfl ?_
    refine ev_x (i := .iconst 0) (len := 1) (p' := 73) (s' := [.int 0, .ref 145]) rfl rfl rfl ?_
    refine ev_pi (p' := 76) rfl rfl rfl ly_145 rfl rfl rfl rfl ?_
    refine ev_x (i := .aload_n 0) (len := 1) (p' := 77) (s' := [.ref 115]) rfl rfl rfl ?_
    refine ev_gc (p' := 80) (v := 147) rfl rfl rfl ly_115 rfl rfl ?_
    refine ev_x (i := .iconst 0) (len := 1) (p' := 81) (s' := [.int 0, .ref 147]) rfl rfl rfl ?_
    refine ev_pi (p' := 84) rfl rfl rfl ly_147 rfl rfl rfl rfl ?_
    refine ev_x (i := .aload_n 0) (len := 1) (p' := 85) (s' := [.ref 115]) rfl rfl rfl ?_
    refine ev_gc (p' := 88) (v := 149) rfl rfl rfl ly_115 rfl rfl ?_
    refine ev_x (i := .iconst 0) (len := 1) (p' := 89) (s' := [.int 0, .ref 149]) rfl rfl rfl ?_
    refine ev_pi (p' := 92) rfl rfl rfl ly_149 rfl rfl rfl rfl ?_
    obtain rfl := Option.some.inj H
    exact ev_vret rfl rfl rfl
/-- GameTextModel.word(I)I -/
def F_162 (N : Nat) (x_1 : Int32) (σ : st_S) : Option (Int32 × st_S) :=
  (N_139 N 71 x_1 (σ)).bind fun p_1 =>
  some (p_1.1, p_1.2)
set_option maxRecDepth 100000 in
theorem F_162_R {N : Nat} {x_1 : Int32} {σ : st_S} {p : Int32 × st_S} (H : F_162 N x_1 σ = some p) : gR p.2 = gR σ := by
  unfold F_162 at H
  obtain ⟨p_1, G_1, H⟩ := F_bd H
  obtain rfl := Option.some.inj H
  exact ((N_139_R G_1).trans rfl)
set_option maxHeartbeats 4000000 in
set_option maxRecDepth 100000 in
theorem F_162_ok {N d : Nat} {x_1 : Int32} {σ : st_S} {p : Int32 × st_S}  (H : F_162 N x_1 σ = some p) : vz_ev P0 (d + 2) 162 0 (lv_args 0 [.ref 66, .int x_1]) [] (hp σ) (.inl (some (.int p.1)), hp p.2) := by
  unfold F_162 at H
  refine ev_x (i := .aload_n 0) (len := 1) (p' := 1) (s' := [.ref 66]) rfl rfl rfl ?_
  refine ev_gc (p' := 4) (v := 71) rfl rfl rfl ly_66 rfl rfl ?_
  refine ev_x (i := .iload_n 1) (len := 1) (p' := 5) (s' := [.int x_1, .ref 71]) rfl rfl rfl ?_
  obtain ⟨p_1, G_1, H⟩ := F_bd H
  refine ev_cv (d := d + 1) (As := [.int x_1]) (a := 71) (p' := 8) rfl rfl rfl ly_71 rfl rfl rfl rfl rfl rfl rfl (N_139_ok (d := d + 0) nm_71 G_1) ?_
  refine ev_st (st' := [.int p_1.1]) rfl ?_
  have e_1 := N_139_R G_1
  obtain rfl := Option.some.inj H
  exact ev_iret rfl rfl rfl rfl
/-- GameTextModel.until(II)I, its loops -/
def L_163 (N : Nat) : Nat → Int32 → Int32 → Int32 → Int32 → st_S → Option (Int32 × st_S)
  | 0, _, _, _, _, _ => none
  | k + 1, l_2, l_3, l_4, l_5, σ =>
      (F_162 N l_5 (σ)).bind fun p_1 =>
      if p_1.1 = l_2 then
        if 0 < l_3 then
          (F_162 N l_5 (p_1.2)).bind fun p_4 =>
          L_163 N k l_2 (if p_4.1 = 36 then (l_3 + 1) else (if p_4.1 = 37 then (l_3 - 1) else l_3) : Int32) (if (if p_4.1 = 36 then (l_3 + 1) else (if p_4.1 = 37 then (l_3 - 1) else l_3) : Int32) ≤ 0 then (if p_4.1 = 32 then (l_4 + 1) else (if p_4.1 = 33 then (l_4 - 1) else l_4)) else l_4 : Int32) (l_5 + 1) (p_4.2)
        else
          if l_4 ≤ 0 then
            some (l_5, p_1.2)
          else
            (F_162 N l_5 (p_1.2)).bind fun p_11 =>
            L_163 N k l_2 (if p_11.1 = 36 then (l_3 + 1) else (if p_11.1 = 37 then (l_3 - 1) else l_3) : Int32) (if (if p_11.1 = 36 then (l_3 + 1) else (if p_11.1 = 37 then (l_3 - 1) else l_3) : Int32) ≤ 0 then (if p_11.1 = 32 then (l_4 + 1) else (if p_11.1 = 33 then (l_4 - 1) else l_4)) else l_4 : Int32) (l_5 + 1) (p_11.2)
      else
        (F_162 N l_5 (p_1.2)).bind fun p_17 =>
        L_163 N k l_2 (if p_17.1 = 36 then (l_3 + 1) else (if p_17.1 = 37 then (l_3 - 1) else l_3) : Int32) (if (if p_17.1 = 36 then (l_3 + 1) else (if p_17.1 = 37 then (l_3 - 1) else l_3) : Int32) ≤ 0 then (if p_17.1 = 32 then (l_4 + 1) else (if p_17.1 = 33 then (l_4 - 1) else l_4)) else l_4 : Int32) (l_5 + 1) (p_17.2)
set_option maxRecDepth 100000 in
theorem L_163_R {N : Nat} : ∀ (k : Nat) (l_2 : Int32) (l_3 : Int32) (l_4 : Int32) (l_5 : Int32) (σ : st_S) (p : Int32 × st_S), L_163 N k l_2 l_3 l_4 l_5 σ = some p → gR p.2 = gR σ := by
  intro k
  induction k with
  | zero => intro l_2 l_3 l_4 l_5 σ p H; unfold L_163 at H; cases H
  | succ k ih =>
    intro l_2 l_3 l_4 l_5 σ p H
    unfold L_163 at H
    obtain ⟨p_1, G_1, H⟩ := F_bd H
    refine F_if H (fun _ H => ?_) (fun _ H => ?_)
    · refine F_if H (fun _ H => ?_) (fun _ H => ?_)
      · obtain ⟨p_4, G_4, H⟩ := F_bd H
        exact (((ih _ _ _ _ _ _ H)).trans ((F_162_R G_4).trans ((F_162_R G_1).trans rfl)))
      · refine F_if H (fun _ H => ?_) (fun _ H => ?_)
        · obtain rfl := Option.some.inj H
          exact ((F_162_R G_1).trans rfl)
        · obtain ⟨p_11, G_11, H⟩ := F_bd H
          exact (((ih _ _ _ _ _ _ H)).trans ((F_162_R G_11).trans ((F_162_R G_1).trans rfl)))
    · obtain ⟨p_17, G_17, H⟩ := F_bd H
      exact (((ih _ _ _ _ _ _ H)).trans ((F_162_R G_17).trans ((F_162_R G_1).trans rfl)))
set_option maxHeartbeats 4000000 in
set_option maxRecDepth 100000 in
theorem L_163_ok {N d : Nat} : ∀ k : Nat, ∀ (l_2 : Int32) (l_3 : Int32) (l_4 : Int32) (l_5 : Int32) (σ : st_S) (lv : vz_L) (p : Int32 × st_S), vz_g lv 0 = some (.ref 66) → vz_g lv 2 = some (.int l_2) → vz_g lv 3 = some (.int l_3) → vz_g lv 4 = some (.int l_4) → vz_g lv 5 = some (.int l_5) → vz_nbL (vz_gr P0) lv = true → L_163 N k l_2 l_3 l_4 l_5 σ = some p → vz_ev P0 (d + 3) 163 8 lv [] (hp σ) (.inl (some (.int p.1)), hp p.2) := by
  intro k
  induction k with
  | zero => intro l_2 l_3 l_4 l_5 σ lv p g_0 g_2 g_3 g_4 g_5 hnb H; unfold L_163 at H; cases H
  | succ k ih =>
    intro l_2 l_3 l_4 l_5 σ lv p g_0 g_2 g_3 g_4 g_5 hnb H
    unfold L_163 at H
    refine ev_x (i := .aload_n 0) (len := 1) (p' := 9) (s' := [.ref 66]) rfl rfl (ld_a g_0) ?_
    refine ev_x (i := .iload 5) (len := 2) (p' := 11) (s' := [.int l_5, .ref 66]) rfl rfl (ld_i g_5) ?_
    obtain ⟨p_1, G_1, H⟩ := F_bd H
    refine ev_cv (d := d + 2) (As := [.int l_5]) (a := 66) (p' := 14) rfl rfl rfl ly_66 rfl rfl rfl rfl rfl hnb rfl (F_162_ok (d := d + 0)   G_1) ?_
    refine ev_st (st' := [.int p_1.1]) rfl ?_
    have e_1 := F_162_R G_1
    refine ev_x (i := .iload_n 2) (len := 1) (p' := 15) (s' := [.int l_2, .int p_1.1]) rfl rfl (ld_i g_2) ?_
    refine F_if H (fun c_2 H => ?_) (fun c_2 H => ?_)
    · refine ev_b2 (t := 27) (p' := 18) rfl rfl rfl (if_neg (fun q => q c_2)) ?_
      refine ev_x (i := .iload_n 3) (len := 1) (p' := 19) (s' := [.int l_3]) rfl rfl (ld_i g_3) ?_
      refine F_if H (fun c_3 H => ?_) (fun c_3 H => ?_)
      · refine ev_b0 (t := 27) (p' := 27) rfl rfl rfl (if_pos c_3) ?_
        refine ev_x (i := .aload_n 0) (len := 1) (p' := 28) (s' := [.ref 66]) rfl rfl (ld_a g_0) ?_
        refine ev_x (i := .iload 5) (len := 2) (p' := 30) (s' := [.int l_5, .ref 66]) rfl rfl (ld_i g_5) ?_
        obtain ⟨p_4, G_4, H⟩ := F_bd H
        refine ev_cv (d := d + 2) (As := [.int l_5]) (a := 66) (p' := 33) rfl rfl rfl ly_66 rfl rfl rfl rfl rfl hnb rfl (F_162_ok (d := d + 0)   G_4) ?_
        refine ev_st (st' := [.int p_4.1]) rfl ?_
        have e_4 := F_162_R G_4
        refine ev_x (i := .istore 6) (len := 2) (p' := 35) (s' := []) (l' := vz_s1 (lv) 6 (.int p_4.1)) rfl rfl rfl ?_
        refine ev_x (i := .iload 6) (len := 2) (p' := 37) (s' := [.int p_4.1]) rfl rfl (ld_i (vg_s (lv) 6 (.int p_4.1))) ?_
        refine ev_x (i := .bipush 36) (len := 2) (p' := 39) (s' := [.int 36, .int p_4.1]) rfl rfl rfl ?_
        refine F_jn (A := vz_ev P0 (d + 3) 163 62 (vz_s1 (lv) 6 (.int p_4.1)) [.int (if p_4.1 = 36 then (l_3 + 1) else (if p_4.1 = 37 then (l_3 - 1) else l_3) : Int32)] (hp (p_4.2)) (.inl (some (.int p.1)), hp p.2)) ?_ (fun J => ?_)
        · refine ev_x (i := .istore_n 3) (len := 1) (p' := 63) (s' := []) (l' := vz_s1 (vz_s1 (lv) 6 (.int p_4.1)) 3 (.int (if p_4.1 = 36 then (l_3 + 1) else (if p_4.1 = 37 then (l_3 - 1) else l_3) : Int32))) rfl rfl rfl ?_
          refine ev_x (i := .iload_n 3) (len := 1) (p' := 64) (s' := [.int (if p_4.1 = 36 then (l_3 + 1) else (if p_4.1 = 37 then (l_3 - 1) else l_3) : Int32)]) rfl rfl (ld_i (vg_s (vz_s1 (lv) 6 (.int p_4.1)) 3 (.int (if p_4.1 = 36 then (l_3 + 1) else (if p_4.1 = 37 then (l_3 - 1) else l_3) : Int32)))) ?_
          refine F_jn (A := vz_ev P0 (d + 3) 163 102 (vz_s1 (vz_s1 (lv) 6 (.int p_4.1)) 3 (.int (if p_4.1 = 36 then (l_3 + 1) else (if p_4.1 = 37 then (l_3 - 1) else l_3) : Int32))) [.int (if (if p_4.1 = 36 then (l_3 + 1) else (if p_4.1 = 37 then (l_3 - 1) else l_3) : Int32) ≤ 0 then (if p_4.1 = 32 then (l_4 + 1) else (if p_4.1 = 33 then (l_4 - 1) else l_4)) else l_4 : Int32)] (hp (p_4.2)) (.inl (some (.int p.1)), hp p.2)) ?_ (fun J => ?_)
          · refine ev_x (i := .istore 4) (len := 2) (p' := 104) (s' := []) (l' := vz_s1 (vz_s1 (vz_s1 (lv) 6 (.int p_4.1)) 3 (.int (if p_4.1 = 36 then (l_3 + 1) else (if p_4.1 = 37 then (l_3 - 1) else l_3) : Int32))) 4 (.int (if (if p_4.1 = 36 then (l_3 + 1) else (if p_4.1 = 37 then (l_3 - 1) else l_3) : Int32) ≤ 0 then (if p_4.1 = 32 then (l_4 + 1) else (if p_4.1 = 33 then (l_4 - 1) else l_4)) else l_4 : Int32))) rfl rfl rfl ?_
            refine ev_x (i := .iinc 5 1) (len := 3) (p' := 107) (s' := []) (l' := vz_s1 (vz_s1 (vz_s1 (vz_s1 (lv) 6 (.int p_4.1)) 3 (.int (if p_4.1 = 36 then (l_3 + 1) else (if p_4.1 = 37 then (l_3 - 1) else l_3) : Int32))) 4 (.int (if (if p_4.1 = 36 then (l_3 + 1) else (if p_4.1 = 37 then (l_3 - 1) else l_3) : Int32) ≤ 0 then (if p_4.1 = 32 then (l_4 + 1) else (if p_4.1 = 33 then (l_4 - 1) else l_4)) else l_4 : Int32))) 5 (.int (l_5 + 1))) rfl rfl (ld_inc (vg_o (i := 4) (v := .int (if (if p_4.1 = 36 then (l_3 + 1) else (if p_4.1 = 37 then (l_3 - 1) else l_3) : Int32) ≤ 0 then (if p_4.1 = 32 then (l_4 + 1) else (if p_4.1 = 33 then (l_4 - 1) else l_4)) else l_4 : Int32)) (vg_o (i := 3) (v := .int (if p_4.1 = 36 then (l_3 + 1) else (if p_4.1 = 37 then (l_3 - 1) else l_3) : Int32)) (vg_o (i := 6) (v := .int p_4.1) g_5 (by decide) (Or.inl rfl)) (by decide) (Or.inl rfl)) (by decide) (Or.inl rfl)) rfl) ?_
            refine ev_x (i := .goto (-99)) (len := 3) (p' := 8) (s' := []) rfl rfl rfl ?_
            exact ih _ _ _ _ _ _ _ (vg_o (i := 5) (v := .int (l_5 + 1)) (vg_o (i := 4) (v := .int (if (if p_4.1 = 36 then (l_3 + 1) else (if p_4.1 = 37 then (l_3 - 1) else l_3) : Int32) ≤ 0 then (if p_4.1 = 32 then (l_4 + 1) else (if p_4.1 = 33 then (l_4 - 1) else l_4)) else l_4 : Int32)) (vg_o (i := 3) (v := .int (if p_4.1 = 36 then (l_3 + 1) else (if p_4.1 = 37 then (l_3 - 1) else l_3) : Int32)) (vg_o (i := 6) (v := .int p_4.1) g_0 (by decide) (Or.inl rfl)) (by decide) (Or.inl rfl)) (by decide) (Or.inl rfl)) (by decide) (Or.inl rfl)) (vg_o (i := 5) (v := .int (l_5 + 1)) (vg_o (i := 4) (v := .int (if (if p_4.1 = 36 then (l_3 + 1) else (if p_4.1 = 37 then (l_3 - 1) else l_3) : Int32) ≤ 0 then (if p_4.1 = 32 then (l_4 + 1) else (if p_4.1 = 33 then (l_4 - 1) else l_4)) else l_4 : Int32)) (vg_o (i := 3) (v := .int (if p_4.1 = 36 then (l_3 + 1) else (if p_4.1 = 37 then (l_3 - 1) else l_3) : Int32)) (vg_o (i := 6) (v := .int p_4.1) g_2 (by decide) (Or.inl rfl)) (by decide) (Or.inl rfl)) (by decide) (Or.inl rfl)) (by decide) (Or.inl rfl)) (vg_o (i := 5) (v := .int (l_5 + 1)) (vg_o (i := 4) (v := .int (if (if p_4.1 = 36 then (l_3 + 1) else (if p_4.1 = 37 then (l_3 - 1) else l_3) : Int32) ≤ 0 then (if p_4.1 = 32 then (l_4 + 1) else (if p_4.1 = 33 then (l_4 - 1) else l_4)) else l_4 : Int32)) (vg_s (vz_s1 (lv) 6 (.int p_4.1)) 3 (.int (if p_4.1 = 36 then (l_3 + 1) else (if p_4.1 = 37 then (l_3 - 1) else l_3) : Int32))) (by decide) (Or.inl rfl)) (by decide) (Or.inl rfl)) (vg_o (i := 5) (v := .int (l_5 + 1)) (vg_s (vz_s1 (vz_s1 (lv) 6 (.int p_4.1)) 3 (.int (if p_4.1 = 36 then (l_3 + 1) else (if p_4.1 = 37 then (l_3 - 1) else l_3) : Int32))) 4 (.int (if (if p_4.1 = 36 then (l_3 + 1) else (if p_4.1 = 37 then (l_3 - 1) else l_3) : Int32) ≤ 0 then (if p_4.1 = 32 then (l_4 + 1) else (if p_4.1 = 33 then (l_4 - 1) else l_4)) else l_4 : Int32))) (by decide) (Or.inl rfl)) (vg_s (vz_s1 (vz_s1 (vz_s1 (lv) 6 (.int p_4.1)) 3 (.int (if p_4.1 = 36 then (l_3 + 1) else (if p_4.1 = 37 then (l_3 - 1) else l_3) : Int32))) 4 (.int (if (if p_4.1 = 36 then (l_3 + 1) else (if p_4.1 = 37 then (l_3 - 1) else l_3) : Int32) ≤ 0 then (if p_4.1 = 32 then (l_4 + 1) else (if p_4.1 = 33 then (l_4 - 1) else l_4)) else l_4 : Int32))) 5 (.int (l_5 + 1))) (nb_s1 (nb_s1 (nb_s1 (nb_s1 hnb rfl) rfl) rfl) rfl)  H
          · by_cases c_7 : (if p_4.1 = 36 then (l_3 + 1) else (if p_4.1 = 37 then (l_3 - 1) else l_3) : Int32) ≤ 0
            · refine ev_b0 (t := 72) (p' := 72) rfl rfl rfl (if_pos c_7) ?_
              refine ev_x (i := .iload 6) (len := 2) (p' := 74) (s' := [.int p_4.1]) rfl rfl (ld_i (vg_o (i := 3) (v := .int (if p_4.1 = 36 then (l_3 + 1) else (if p_4.1 = 37 then (l_3 - 1) else l_3) : Int32)) (vg_s (lv) 6 (.int p_4.1)) (by decide) (Or.inl rfl))) ?_
              refine ev_x (i := .bipush 32) (len := 2) (p' := 76) (s' := [.int 32, .int p_4.1]) rfl rfl rfl ?_
              by_cases c_8 : p_4.1 = 32
              · refine ev_b2 (t := 86) (p' := 79) rfl rfl rfl (if_neg (fun q => q c_8)) ?_
                refine ev_x (i := .iload 4) (len := 2) (p' := 81) (s' := [.int l_4]) rfl rfl (ld_i (vg_o (i := 3) (v := .int (if p_4.1 = 36 then (l_3 + 1) else (if p_4.1 = 37 then (l_3 - 1) else l_3) : Int32)) (vg_o (i := 6) (v := .int p_4.1) g_4 (by decide) (Or.inl rfl)) (by decide) (Or.inl rfl))) ?_
                refine ev_x (i := .iconst 1) (len := 1) (p' := 82) (s' := [.int 1, .int l_4]) rfl rfl rfl ?_
                refine ev_x (i := .iadd) (len := 1) (p' := 83) (s' := [.int (l_4 + 1)]) rfl rfl rfl ?_
                refine ev_x (i := .goto 19) (len := 3) (p' := 102) (s' := [.int (l_4 + 1)]) rfl rfl rfl ?_
                exact ev_st (congrArg (fun z => Value.int z :: []) (by rw [if_pos c_7, if_pos c_8])) J
              · refine ev_b2 (t := 86) (p' := 86) rfl rfl rfl (if_pos c_8) ?_
                refine ev_x (i := .iload 6) (len := 2) (p' := 88) (s' := [.int p_4.1]) rfl rfl (ld_i (vg_o (i := 3) (v := .int (if p_4.1 = 36 then (l_3 + 1) else (if p_4.1 = 37 then (l_3 - 1) else l_3) : Int32)) (vg_s (lv) 6 (.int p_4.1)) (by decide) (Or.inl rfl))) ?_
                refine ev_x (i := .bipush 33) (len := 2) (p' := 90) (s' := [.int 33, .int p_4.1]) rfl rfl rfl ?_
                by_cases c_9 : p_4.1 = 33
                · refine ev_b2 (t := 100) (p' := 93) rfl rfl rfl (if_neg (fun q => q c_9)) ?_
                  refine ev_x (i := .iload 4) (len := 2) (p' := 95) (s' := [.int l_4]) rfl rfl (ld_i (vg_o (i := 3) (v := .int (if p_4.1 = 36 then (l_3 + 1) else (if p_4.1 = 37 then (l_3 - 1) else l_3) : Int32)) (vg_o (i := 6) (v := .int p_4.1) g_4 (by decide) (Or.inl rfl)) (by decide) (Or.inl rfl))) ?_
                  refine ev_x (i := .iconst 1) (len := 1) (p' := 96) (s' := [.int 1, .int l_4]) rfl rfl rfl ?_
                  refine ev_x (i := .isub) (len := 1) (p' := 97) (s' := [.int (l_4 - 1)]) rfl rfl rfl ?_
                  refine ev_x (i := .goto 5) (len := 3) (p' := 102) (s' := [.int (l_4 - 1)]) rfl rfl rfl ?_
                  exact ev_st (congrArg (fun z => Value.int z :: []) (by rw [if_pos c_7, if_neg c_8, if_pos c_9])) J
                · refine ev_b2 (t := 100) (p' := 100) rfl rfl rfl (if_pos c_9) ?_
                  refine ev_x (i := .iload 4) (len := 2) (p' := 102) (s' := [.int l_4]) rfl rfl (ld_i (vg_o (i := 3) (v := .int (if p_4.1 = 36 then (l_3 + 1) else (if p_4.1 = 37 then (l_3 - 1) else l_3) : Int32)) (vg_o (i := 6) (v := .int p_4.1) g_4 (by decide) (Or.inl rfl)) (by decide) (Or.inl rfl))) ?_
                  exact ev_st (congrArg (fun z => Value.int z :: []) (by rw [if_pos c_7, if_neg c_8, if_neg c_9])) J
            · refine ev_b0 (t := 72) (p' := 67) rfl rfl rfl (if_neg c_7) ?_
              refine ev_x (i := .iload 4) (len := 2) (p' := 69) (s' := [.int l_4]) rfl rfl (ld_i (vg_o (i := 3) (v := .int (if p_4.1 = 36 then (l_3 + 1) else (if p_4.1 = 37 then (l_3 - 1) else l_3) : Int32)) (vg_o (i := 6) (v := .int p_4.1) g_4 (by decide) (Or.inl rfl)) (by decide) (Or.inl rfl))) ?_
              refine ev_x (i := .goto 33) (len := 3) (p' := 102) (s' := [.int l_4]) rfl rfl rfl ?_
              exact ev_st (congrArg (fun z => Value.int z :: []) (by rw [if_neg c_7])) J
        · by_cases c_5 : p_4.1 = 36
          · refine ev_b2 (t := 48) (p' := 42) rfl rfl rfl (if_neg (fun q => q c_5)) ?_
            refine ev_x (i := .iload_n 3) (len := 1) (p' := 43) (s' := [.int l_3]) rfl rfl (ld_i (vg_o (i := 6) (v := .int p_4.1) g_3 (by decide) (Or.inl rfl))) ?_
            refine ev_x (i := .iconst 1) (len := 1) (p' := 44) (s' := [.int 1, .int l_3]) rfl rfl rfl ?_
            refine ev_x (i := .iadd) (len := 1) (p' := 45) (s' := [.int (l_3 + 1)]) rfl rfl rfl ?_
            refine ev_x (i := .goto 17) (len := 3) (p' := 62) (s' := [.int (l_3 + 1)]) rfl rfl rfl ?_
            exact ev_st (congrArg (fun z => Value.int z :: []) (by rw [if_pos c_5])) J
          · refine ev_b2 (t := 48) (p' := 48) rfl rfl rfl (if_pos c_5) ?_
            refine ev_x (i := .iload 6) (len := 2) (p' := 50) (s' := [.int p_4.1]) rfl rfl (ld_i (vg_s (lv) 6 (.int p_4.1))) ?_
            refine ev_x (i := .bipush 37) (len := 2) (p' := 52) (s' := [.int 37, .int p_4.1]) rfl rfl rfl ?_
            by_cases c_6 : p_4.1 = 37
            · refine ev_b2 (t := 61) (p' := 55) rfl rfl rfl (if_neg (fun q => q c_6)) ?_
              refine ev_x (i := .iload_n 3) (len := 1) (p' := 56) (s' := [.int l_3]) rfl rfl (ld_i (vg_o (i := 6) (v := .int p_4.1) g_3 (by decide) (Or.inl rfl))) ?_
              refine ev_x (i := .iconst 1) (len := 1) (p' := 57) (s' := [.int 1, .int l_3]) rfl rfl rfl ?_
              refine ev_x (i := .isub) (len := 1) (p' := 58) (s' := [.int (l_3 - 1)]) rfl rfl rfl ?_
              refine ev_x (i := .goto 4) (len := 3) (p' := 62) (s' := [.int (l_3 - 1)]) rfl rfl rfl ?_
              exact ev_st (congrArg (fun z => Value.int z :: []) (by rw [if_neg c_5, if_pos c_6])) J
            · refine ev_b2 (t := 61) (p' := 61) rfl rfl rfl (if_pos c_6) ?_
              refine ev_x (i := .iload_n 3) (len := 1) (p' := 62) (s' := [.int l_3]) rfl rfl (ld_i (vg_o (i := 6) (v := .int p_4.1) g_3 (by decide) (Or.inl rfl))) ?_
              exact ev_st (congrArg (fun z => Value.int z :: []) (by rw [if_neg c_5, if_neg c_6])) J
      · refine ev_b0 (t := 27) (p' := 22) rfl rfl rfl (if_neg c_3) ?_
        refine ev_x (i := .iload 4) (len := 2) (p' := 24) (s' := [.int l_4]) rfl rfl (ld_i g_4) ?_
        refine F_if H (fun c_10 H => ?_) (fun c_10 H => ?_)
        · refine ev_b0 (t := 110) (p' := 110) rfl rfl rfl (if_pos c_10) ?_
          refine ev_x (i := .iload 5) (len := 2) (p' := 112) (s' := [.int l_5]) rfl rfl (ld_i g_5) ?_
          obtain rfl := Option.some.inj H
          exact ev_iret rfl rfl rfl rfl
        · refine ev_b0 (t := 110) (p' := 27) rfl rfl rfl (if_neg c_10) ?_
          refine ev_x (i := .aload_n 0) (len := 1) (p' := 28) (s' := [.ref 66]) rfl rfl (ld_a g_0) ?_
          refine ev_x (i := .iload 5) (len := 2) (p' := 30) (s' := [.int l_5, .ref 66]) rfl rfl (ld_i g_5) ?_
          obtain ⟨p_11, G_11, H⟩ := F_bd H
          refine ev_cv (d := d + 2) (As := [.int l_5]) (a := 66) (p' := 33) rfl rfl rfl ly_66 rfl rfl rfl rfl rfl hnb rfl (F_162_ok (d := d + 0)   G_11) ?_
          refine ev_st (st' := [.int p_11.1]) rfl ?_
          have e_11 := F_162_R G_11
          refine ev_x (i := .istore 6) (len := 2) (p' := 35) (s' := []) (l' := vz_s1 (lv) 6 (.int p_11.1)) rfl rfl rfl ?_
          refine ev_x (i := .iload 6) (len := 2) (p' := 37) (s' := [.int p_11.1]) rfl rfl (ld_i (vg_s (lv) 6 (.int p_11.1))) ?_
          refine ev_x (i := .bipush 36) (len := 2) (p' := 39) (s' := [.int 36, .int p_11.1]) rfl rfl rfl ?_
          refine F_jn (A := vz_ev P0 (d + 3) 163 62 (vz_s1 (lv) 6 (.int p_11.1)) [.int (if p_11.1 = 36 then (l_3 + 1) else (if p_11.1 = 37 then (l_3 - 1) else l_3) : Int32)] (hp (p_11.2)) (.inl (some (.int p.1)), hp p.2)) ?_ (fun J => ?_)
          · refine ev_x (i := .istore_n 3) (len := 1) (p' := 63) (s' := []) (l' := vz_s1 (vz_s1 (lv) 6 (.int p_11.1)) 3 (.int (if p_11.1 = 36 then (l_3 + 1) else (if p_11.1 = 37 then (l_3 - 1) else l_3) : Int32))) rfl rfl rfl ?_
            refine ev_x (i := .iload_n 3) (len := 1) (p' := 64) (s' := [.int (if p_11.1 = 36 then (l_3 + 1) else (if p_11.1 = 37 then (l_3 - 1) else l_3) : Int32)]) rfl rfl (ld_i (vg_s (vz_s1 (lv) 6 (.int p_11.1)) 3 (.int (if p_11.1 = 36 then (l_3 + 1) else (if p_11.1 = 37 then (l_3 - 1) else l_3) : Int32)))) ?_
            refine F_jn (A := vz_ev P0 (d + 3) 163 102 (vz_s1 (vz_s1 (lv) 6 (.int p_11.1)) 3 (.int (if p_11.1 = 36 then (l_3 + 1) else (if p_11.1 = 37 then (l_3 - 1) else l_3) : Int32))) [.int (if (if p_11.1 = 36 then (l_3 + 1) else (if p_11.1 = 37 then (l_3 - 1) else l_3) : Int32) ≤ 0 then (if p_11.1 = 32 then (l_4 + 1) else (if p_11.1 = 33 then (l_4 - 1) else l_4)) else l_4 : Int32)] (hp (p_11.2)) (.inl (some (.int p.1)), hp p.2)) ?_ (fun J => ?_)
            · refine ev_x (i := .istore 4) (len := 2) (p' := 104) (s' := []) (l' := vz_s1 (vz_s1 (vz_s1 (lv) 6 (.int p_11.1)) 3 (.int (if p_11.1 = 36 then (l_3 + 1) else (if p_11.1 = 37 then (l_3 - 1) else l_3) : Int32))) 4 (.int (if (if p_11.1 = 36 then (l_3 + 1) else (if p_11.1 = 37 then (l_3 - 1) else l_3) : Int32) ≤ 0 then (if p_11.1 = 32 then (l_4 + 1) else (if p_11.1 = 33 then (l_4 - 1) else l_4)) else l_4 : Int32))) rfl rfl rfl ?_
              refine ev_x (i := .iinc 5 1) (len := 3) (p' := 107) (s' := []) (l' := vz_s1 (vz_s1 (vz_s1 (vz_s1 (lv) 6 (.int p_11.1)) 3 (.int (if p_11.1 = 36 then (l_3 + 1) else (if p_11.1 = 37 then (l_3 - 1) else l_3) : Int32))) 4 (.int (if (if p_11.1 = 36 then (l_3 + 1) else (if p_11.1 = 37 then (l_3 - 1) else l_3) : Int32) ≤ 0 then (if p_11.1 = 32 then (l_4 + 1) else (if p_11.1 = 33 then (l_4 - 1) else l_4)) else l_4 : Int32))) 5 (.int (l_5 + 1))) rfl rfl (ld_inc (vg_o (i := 4) (v := .int (if (if p_11.1 = 36 then (l_3 + 1) else (if p_11.1 = 37 then (l_3 - 1) else l_3) : Int32) ≤ 0 then (if p_11.1 = 32 then (l_4 + 1) else (if p_11.1 = 33 then (l_4 - 1) else l_4)) else l_4 : Int32)) (vg_o (i := 3) (v := .int (if p_11.1 = 36 then (l_3 + 1) else (if p_11.1 = 37 then (l_3 - 1) else l_3) : Int32)) (vg_o (i := 6) (v := .int p_11.1) g_5 (by decide) (Or.inl rfl)) (by decide) (Or.inl rfl)) (by decide) (Or.inl rfl)) rfl) ?_
              refine ev_x (i := .goto (-99)) (len := 3) (p' := 8) (s' := []) rfl rfl rfl ?_
              exact ih _ _ _ _ _ _ _ (vg_o (i := 5) (v := .int (l_5 + 1)) (vg_o (i := 4) (v := .int (if (if p_11.1 = 36 then (l_3 + 1) else (if p_11.1 = 37 then (l_3 - 1) else l_3) : Int32) ≤ 0 then (if p_11.1 = 32 then (l_4 + 1) else (if p_11.1 = 33 then (l_4 - 1) else l_4)) else l_4 : Int32)) (vg_o (i := 3) (v := .int (if p_11.1 = 36 then (l_3 + 1) else (if p_11.1 = 37 then (l_3 - 1) else l_3) : Int32)) (vg_o (i := 6) (v := .int p_11.1) g_0 (by decide) (Or.inl rfl)) (by decide) (Or.inl rfl)) (by decide) (Or.inl rfl)) (by decide) (Or.inl rfl)) (vg_o (i := 5) (v := .int (l_5 + 1)) (vg_o (i := 4) (v := .int (if (if p_11.1 = 36 then (l_3 + 1) else (if p_11.1 = 37 then (l_3 - 1) else l_3) : Int32) ≤ 0 then (if p_11.1 = 32 then (l_4 + 1) else (if p_11.1 = 33 then (l_4 - 1) else l_4)) else l_4 : Int32)) (vg_o (i := 3) (v := .int (if p_11.1 = 36 then (l_3 + 1) else (if p_11.1 = 37 then (l_3 - 1) else l_3) : Int32)) (vg_o (i := 6) (v := .int p_11.1) g_2 (by decide) (Or.inl rfl)) (by decide) (Or.inl rfl)) (by decide) (Or.inl rfl)) (by decide) (Or.inl rfl)) (vg_o (i := 5) (v := .int (l_5 + 1)) (vg_o (i := 4) (v := .int (if (if p_11.1 = 36 then (l_3 + 1) else (if p_11.1 = 37 then (l_3 - 1) else l_3) : Int32) ≤ 0 then (if p_11.1 = 32 then (l_4 + 1) else (if p_11.1 = 33 then (l_4 - 1) else l_4)) else l_4 : Int32)) (vg_s (vz_s1 (lv) 6 (.int p_11.1)) 3 (.int (if p_11.1 = 36 then (l_3 + 1) else (if p_11.1 = 37 then (l_3 - 1) else l_3) : Int32))) (by decide) (Or.inl rfl)) (by decide) (Or.inl rfl)) (vg_o (i := 5) (v := .int (l_5 + 1)) (vg_s (vz_s1 (vz_s1 (lv) 6 (.int p_11.1)) 3 (.int (if p_11.1 = 36 then (l_3 + 1) else (if p_11.1 = 37 then (l_3 - 1) else l_3) : Int32))) 4 (.int (if (if p_11.1 = 36 then (l_3 + 1) else (if p_11.1 = 37 then (l_3 - 1) else l_3) : Int32) ≤ 0 then (if p_11.1 = 32 then (l_4 + 1) else (if p_11.1 = 33 then (l_4 - 1) else l_4)) else l_4 : Int32))) (by decide) (Or.inl rfl)) (vg_s (vz_s1 (vz_s1 (vz_s1 (lv) 6 (.int p_11.1)) 3 (.int (if p_11.1 = 36 then (l_3 + 1) else (if p_11.1 = 37 then (l_3 - 1) else l_3) : Int32))) 4 (.int (if (if p_11.1 = 36 then (l_3 + 1) else (if p_11.1 = 37 then (l_3 - 1) else l_3) : Int32) ≤ 0 then (if p_11.1 = 32 then (l_4 + 1) else (if p_11.1 = 33 then (l_4 - 1) else l_4)) else l_4 : Int32))) 5 (.int (l_5 + 1))) (nb_s1 (nb_s1 (nb_s1 (nb_s1 hnb rfl) rfl) rfl) rfl)  H
            · by_cases c_14 : (if p_11.1 = 36 then (l_3 + 1) else (if p_11.1 = 37 then (l_3 - 1) else l_3) : Int32) ≤ 0
              · refine ev_b0 (t := 72) (p' := 72) rfl rfl rfl (if_pos c_14) ?_
                refine ev_x (i := .iload 6) (len := 2) (p' := 74) (s' := [.int p_11.1]) rfl rfl (ld_i (vg_o (i := 3) (v := .int (if p_11.1 = 36 then (l_3 + 1) else (if p_11.1 = 37 then (l_3 - 1) else l_3) : Int32)) (vg_s (lv) 6 (.int p_11.1)) (by decide) (Or.inl rfl))) ?_
                refine ev_x (i := .bipush 32) (len := 2) (p' := 76) (s' := [.int 32, .int p_11.1]) rfl rfl rfl ?_
                by_cases c_15 : p_11.1 = 32
                · refine ev_b2 (t := 86) (p' := 79) rfl rfl rfl (if_neg (fun q => q c_15)) ?_
                  refine ev_x (i := .iload 4) (len := 2) (p' := 81) (s' := [.int l_4]) rfl rfl (ld_i (vg_o (i := 3) (v := .int (if p_11.1 = 36 then (l_3 + 1) else (if p_11.1 = 37 then (l_3 - 1) else l_3) : Int32)) (vg_o (i := 6) (v := .int p_11.1) g_4 (by decide) (Or.inl rfl)) (by decide) (Or.inl rfl))) ?_
                  refine ev_x (i := .iconst 1) (len := 1) (p' := 82) (s' := [.int 1, .int l_4]) rfl rfl rfl ?_
                  refine ev_x (i := .iadd) (len := 1) (p' := 83) (s' := [.int (l_4 + 1)]) rfl rfl rfl ?_
                  refine ev_x (i := .goto 19) (len := 3) (p' := 102) (s' := [.int (l_4 + 1)]) rfl rfl rfl ?_
                  exact ev_st (congrArg (fun z => Value.int z :: []) (by rw [if_pos c_14, if_pos c_15])) J
                · refine ev_b2 (t := 86) (p' := 86) rfl rfl rfl (if_pos c_15) ?_
                  refine ev_x (i := .iload 6) (len := 2) (p' := 88) (s' := [.int p_11.1]) rfl rfl (ld_i (vg_o (i := 3) (v := .int (if p_11.1 = 36 then (l_3 + 1) else (if p_11.1 = 37 then (l_3 - 1) else l_3) : Int32)) (vg_s (lv) 6 (.int p_11.1)) (by decide) (Or.inl rfl))) ?_
                  refine ev_x (i := .bipush 33) (len := 2) (p' := 90) (s' := [.int 33, .int p_11.1]) rfl rfl rfl ?_
                  by_cases c_16 : p_11.1 = 33
                  · refine ev_b2 (t := 100) (p' := 93) rfl rfl rfl (if_neg (fun q => q c_16)) ?_
                    refine ev_x (i := .iload 4) (len := 2) (p' := 95) (s' := [.int l_4]) rfl rfl (ld_i (vg_o (i := 3) (v := .int (if p_11.1 = 36 then (l_3 + 1) else (if p_11.1 = 37 then (l_3 - 1) else l_3) : Int32)) (vg_o (i := 6) (v := .int p_11.1) g_4 (by decide) (Or.inl rfl)) (by decide) (Or.inl rfl))) ?_
                    refine ev_x (i := .iconst 1) (len := 1) (p' := 96) (s' := [.int 1, .int l_4]) rfl rfl rfl ?_
                    refine ev_x (i := .isub) (len := 1) (p' := 97) (s' := [.int (l_4 - 1)]) rfl rfl rfl ?_
                    refine ev_x (i := .goto 5) (len := 3) (p' := 102) (s' := [.int (l_4 - 1)]) rfl rfl rfl ?_
                    exact ev_st (congrArg (fun z => Value.int z :: []) (by rw [if_pos c_14, if_neg c_15, if_pos c_16])) J
                  · refine ev_b2 (t := 100) (p' := 100) rfl rfl rfl (if_pos c_16) ?_
                    refine ev_x (i := .iload 4) (len := 2) (p' := 102) (s' := [.int l_4]) rfl rfl (ld_i (vg_o (i := 3) (v := .int (if p_11.1 = 36 then (l_3 + 1) else (if p_11.1 = 37 then (l_3 - 1) else l_3) : Int32)) (vg_o (i := 6) (v := .int p_11.1) g_4 (by decide) (Or.inl rfl)) (by decide) (Or.inl rfl))) ?_
                    exact ev_st (congrArg (fun z => Value.int z :: []) (by rw [if_pos c_14, if_neg c_15, if_neg c_16])) J
              · refine ev_b0 (t := 72) (p' := 67) rfl rfl rfl (if_neg c_14) ?_
                refine ev_x (i := .iload 4) (len := 2) (p' := 69) (s' := [.int l_4]) rfl rfl (ld_i (vg_o (i := 3) (v := .int (if p_11.1 = 36 then (l_3 + 1) else (if p_11.1 = 37 then (l_3 - 1) else l_3) : Int32)) (vg_o (i := 6) (v := .int p_11.1) g_4 (by decide) (Or.inl rfl)) (by decide) (Or.inl rfl))) ?_
                refine ev_x (i := .goto 33) (len := 3) (p' := 102) (s' := [.int l_4]) rfl rfl rfl ?_
                exact ev_st (congrArg (fun z => Value.int z :: []) (by rw [if_neg c_14])) J
          · by_cases c_12 : p_11.1 = 36
            · refine ev_b2 (t := 48) (p' := 42) rfl rfl rfl (if_neg (fun q => q c_12)) ?_
              refine ev_x (i := .iload_n 3) (len := 1) (p' := 43) (s' := [.int l_3]) rfl rfl (ld_i (vg_o (i := 6) (v := .int p_11.1) g_3 (by decide) (Or.inl rfl))) ?_
              refine ev_x (i := .iconst 1) (len := 1) (p' := 44) (s' := [.int 1, .int l_3]) rfl rfl rfl ?_
              refine ev_x (i := .iadd) (len := 1) (p' := 45) (s' := [.int (l_3 + 1)]) rfl rfl rfl ?_
              refine ev_x (i := .goto 17) (len := 3) (p' := 62) (s' := [.int (l_3 + 1)]) rfl rfl rfl ?_
              exact ev_st (congrArg (fun z => Value.int z :: []) (by rw [if_pos c_12])) J
            · refine ev_b2 (t := 48) (p' := 48) rfl rfl rfl (if_pos c_12) ?_
              refine ev_x (i := .iload 6) (len := 2) (p' := 50) (s' := [.int p_11.1]) rfl rfl (ld_i (vg_s (lv) 6 (.int p_11.1))) ?_
              refine ev_x (i := .bipush 37) (len := 2) (p' := 52) (s' := [.int 37, .int p_11.1]) rfl rfl rfl ?_
              by_cases c_13 : p_11.1 = 37
              · refine ev_b2 (t := 61) (p' := 55) rfl rfl rfl (if_neg (fun q => q c_13)) ?_
                refine ev_x (i := .iload_n 3) (len := 1) (p' := 56) (s' := [.int l_3]) rfl rfl (ld_i (vg_o (i := 6) (v := .int p_11.1) g_3 (by decide) (Or.inl rfl))) ?_
                refine ev_x (i := .iconst 1) (len := 1) (p' := 57) (s' := [.int 1, .int l_3]) rfl rfl rfl ?_
                refine ev_x (i := .isub) (len := 1) (p' := 58) (s' := [.int (l_3 - 1)]) rfl rfl rfl ?_
                refine ev_x (i := .goto 4) (len := 3) (p' := 62) (s' := [.int (l_3 - 1)]) rfl rfl rfl ?_
                exact ev_st (congrArg (fun z => Value.int z :: []) (by rw [if_neg c_12, if_pos c_13])) J
              · refine ev_b2 (t := 61) (p' := 61) rfl rfl rfl (if_pos c_13) ?_
                refine ev_x (i := .iload_n 3) (len := 1) (p' := 62) (s' := [.int l_3]) rfl rfl (ld_i (vg_o (i := 6) (v := .int p_11.1) g_3 (by decide) (Or.inl rfl))) ?_
                exact ev_st (congrArg (fun z => Value.int z :: []) (by rw [if_neg c_12, if_neg c_13])) J
    · refine ev_b2 (t := 27) (p' := 27) rfl rfl rfl (if_pos c_2) ?_
      refine ev_x (i := .aload_n 0) (len := 1) (p' := 28) (s' := [.ref 66]) rfl rfl (ld_a g_0) ?_
      refine ev_x (i := .iload 5) (len := 2) (p' := 30) (s' := [.int l_5, .ref 66]) rfl rfl (ld_i g_5) ?_
      obtain ⟨p_17, G_17, H⟩ := F_bd H
      refine ev_cv (d := d + 2) (As := [.int l_5]) (a := 66) (p' := 33) rfl rfl rfl ly_66 rfl rfl rfl rfl rfl hnb rfl (F_162_ok (d := d + 0)   G_17) ?_
      refine ev_st (st' := [.int p_17.1]) rfl ?_
      have e_17 := F_162_R G_17
      refine ev_x (i := .istore 6) (len := 2) (p' := 35) (s' := []) (l' := vz_s1 (lv) 6 (.int p_17.1)) rfl rfl rfl ?_
      refine ev_x (i := .iload 6) (len := 2) (p' := 37) (s' := [.int p_17.1]) rfl rfl (ld_i (vg_s (lv) 6 (.int p_17.1))) ?_
      refine ev_x (i := .bipush 36) (len := 2) (p' := 39) (s' := [.int 36, .int p_17.1]) rfl rfl rfl ?_
      refine F_jn (A := vz_ev P0 (d + 3) 163 62 (vz_s1 (lv) 6 (.int p_17.1)) [.int (if p_17.1 = 36 then (l_3 + 1) else (if p_17.1 = 37 then (l_3 - 1) else l_3) : Int32)] (hp (p_17.2)) (.inl (some (.int p.1)), hp p.2)) ?_ (fun J => ?_)
      · refine ev_x (i := .istore_n 3) (len := 1) (p' := 63) (s' := []) (l' := vz_s1 (vz_s1 (lv) 6 (.int p_17.1)) 3 (.int (if p_17.1 = 36 then (l_3 + 1) else (if p_17.1 = 37 then (l_3 - 1) else l_3) : Int32))) rfl rfl rfl ?_
        refine ev_x (i := .iload_n 3) (len := 1) (p' := 64) (s' := [.int (if p_17.1 = 36 then (l_3 + 1) else (if p_17.1 = 37 then (l_3 - 1) else l_3) : Int32)]) rfl rfl (ld_i (vg_s (vz_s1 (lv) 6 (.int p_17.1)) 3 (.int (if p_17.1 = 36 then (l_3 + 1) else (if p_17.1 = 37 then (l_3 - 1) else l_3) : Int32)))) ?_
        refine F_jn (A := vz_ev P0 (d + 3) 163 102 (vz_s1 (vz_s1 (lv) 6 (.int p_17.1)) 3 (.int (if p_17.1 = 36 then (l_3 + 1) else (if p_17.1 = 37 then (l_3 - 1) else l_3) : Int32))) [.int (if (if p_17.1 = 36 then (l_3 + 1) else (if p_17.1 = 37 then (l_3 - 1) else l_3) : Int32) ≤ 0 then (if p_17.1 = 32 then (l_4 + 1) else (if p_17.1 = 33 then (l_4 - 1) else l_4)) else l_4 : Int32)] (hp (p_17.2)) (.inl (some (.int p.1)), hp p.2)) ?_ (fun J => ?_)
        · refine ev_x (i := .istore 4) (len := 2) (p' := 104) (s' := []) (l' := vz_s1 (vz_s1 (vz_s1 (lv) 6 (.int p_17.1)) 3 (.int (if p_17.1 = 36 then (l_3 + 1) else (if p_17.1 = 37 then (l_3 - 1) else l_3) : Int32))) 4 (.int (if (if p_17.1 = 36 then (l_3 + 1) else (if p_17.1 = 37 then (l_3 - 1) else l_3) : Int32) ≤ 0 then (if p_17.1 = 32 then (l_4 + 1) else (if p_17.1 = 33 then (l_4 - 1) else l_4)) else l_4 : Int32))) rfl rfl rfl ?_
          refine ev_x (i := .iinc 5 1) (len := 3) (p' := 107) (s' := []) (l' := vz_s1 (vz_s1 (vz_s1 (vz_s1 (lv) 6 (.int p_17.1)) 3 (.int (if p_17.1 = 36 then (l_3 + 1) else (if p_17.1 = 37 then (l_3 - 1) else l_3) : Int32))) 4 (.int (if (if p_17.1 = 36 then (l_3 + 1) else (if p_17.1 = 37 then (l_3 - 1) else l_3) : Int32) ≤ 0 then (if p_17.1 = 32 then (l_4 + 1) else (if p_17.1 = 33 then (l_4 - 1) else l_4)) else l_4 : Int32))) 5 (.int (l_5 + 1))) rfl rfl (ld_inc (vg_o (i := 4) (v := .int (if (if p_17.1 = 36 then (l_3 + 1) else (if p_17.1 = 37 then (l_3 - 1) else l_3) : Int32) ≤ 0 then (if p_17.1 = 32 then (l_4 + 1) else (if p_17.1 = 33 then (l_4 - 1) else l_4)) else l_4 : Int32)) (vg_o (i := 3) (v := .int (if p_17.1 = 36 then (l_3 + 1) else (if p_17.1 = 37 then (l_3 - 1) else l_3) : Int32)) (vg_o (i := 6) (v := .int p_17.1) g_5 (by decide) (Or.inl rfl)) (by decide) (Or.inl rfl)) (by decide) (Or.inl rfl)) rfl) ?_
          refine ev_x (i := .goto (-99)) (len := 3) (p' := 8) (s' := []) rfl rfl rfl ?_
          exact ih _ _ _ _ _ _ _ (vg_o (i := 5) (v := .int (l_5 + 1)) (vg_o (i := 4) (v := .int (if (if p_17.1 = 36 then (l_3 + 1) else (if p_17.1 = 37 then (l_3 - 1) else l_3) : Int32) ≤ 0 then (if p_17.1 = 32 then (l_4 + 1) else (if p_17.1 = 33 then (l_4 - 1) else l_4)) else l_4 : Int32)) (vg_o (i := 3) (v := .int (if p_17.1 = 36 then (l_3 + 1) else (if p_17.1 = 37 then (l_3 - 1) else l_3) : Int32)) (vg_o (i := 6) (v := .int p_17.1) g_0 (by decide) (Or.inl rfl)) (by decide) (Or.inl rfl)) (by decide) (Or.inl rfl)) (by decide) (Or.inl rfl)) (vg_o (i := 5) (v := .int (l_5 + 1)) (vg_o (i := 4) (v := .int (if (if p_17.1 = 36 then (l_3 + 1) else (if p_17.1 = 37 then (l_3 - 1) else l_3) : Int32) ≤ 0 then (if p_17.1 = 32 then (l_4 + 1) else (if p_17.1 = 33 then (l_4 - 1) else l_4)) else l_4 : Int32)) (vg_o (i := 3) (v := .int (if p_17.1 = 36 then (l_3 + 1) else (if p_17.1 = 37 then (l_3 - 1) else l_3) : Int32)) (vg_o (i := 6) (v := .int p_17.1) g_2 (by decide) (Or.inl rfl)) (by decide) (Or.inl rfl)) (by decide) (Or.inl rfl)) (by decide) (Or.inl rfl)) (vg_o (i := 5) (v := .int (l_5 + 1)) (vg_o (i := 4) (v := .int (if (if p_17.1 = 36 then (l_3 + 1) else (if p_17.1 = 37 then (l_3 - 1) else l_3) : Int32) ≤ 0 then (if p_17.1 = 32 then (l_4 + 1) else (if p_17.1 = 33 then (l_4 - 1) else l_4)) else l_4 : Int32)) (vg_s (vz_s1 (lv) 6 (.int p_17.1)) 3 (.int (if p_17.1 = 36 then (l_3 + 1) else (if p_17.1 = 37 then (l_3 - 1) else l_3) : Int32))) (by decide) (Or.inl rfl)) (by decide) (Or.inl rfl)) (vg_o (i := 5) (v := .int (l_5 + 1)) (vg_s (vz_s1 (vz_s1 (lv) 6 (.int p_17.1)) 3 (.int (if p_17.1 = 36 then (l_3 + 1) else (if p_17.1 = 37 then (l_3 - 1) else l_3) : Int32))) 4 (.int (if (if p_17.1 = 36 then (l_3 + 1) else (if p_17.1 = 37 then (l_3 - 1) else l_3) : Int32) ≤ 0 then (if p_17.1 = 32 then (l_4 + 1) else (if p_17.1 = 33 then (l_4 - 1) else l_4)) else l_4 : Int32))) (by decide) (Or.inl rfl)) (vg_s (vz_s1 (vz_s1 (vz_s1 (lv) 6 (.int p_17.1)) 3 (.int (if p_17.1 = 36 then (l_3 + 1) else (if p_17.1 = 37 then (l_3 - 1) else l_3) : Int32))) 4 (.int (if (if p_17.1 = 36 then (l_3 + 1) else (if p_17.1 = 37 then (l_3 - 1) else l_3) : Int32) ≤ 0 then (if p_17.1 = 32 then (l_4 + 1) else (if p_17.1 = 33 then (l_4 - 1) else l_4)) else l_4 : Int32))) 5 (.int (l_5 + 1))) (nb_s1 (nb_s1 (nb_s1 (nb_s1 hnb rfl) rfl) rfl) rfl)  H
        · by_cases c_20 : (if p_17.1 = 36 then (l_3 + 1) else (if p_17.1 = 37 then (l_3 - 1) else l_3) : Int32) ≤ 0
          · refine ev_b0 (t := 72) (p' := 72) rfl rfl rfl (if_pos c_20) ?_
            refine ev_x (i := .iload 6) (len := 2) (p' := 74) (s' := [.int p_17.1]) rfl rfl (ld_i (vg_o (i := 3) (v := .int (if p_17.1 = 36 then (l_3 + 1) else (if p_17.1 = 37 then (l_3 - 1) else l_3) : Int32)) (vg_s (lv) 6 (.int p_17.1)) (by decide) (Or.inl rfl))) ?_
            refine ev_x (i := .bipush 32) (len := 2) (p' := 76) (s' := [.int 32, .int p_17.1]) rfl rfl rfl ?_
            by_cases c_21 : p_17.1 = 32
            · refine ev_b2 (t := 86) (p' := 79) rfl rfl rfl (if_neg (fun q => q c_21)) ?_
              refine ev_x (i := .iload 4) (len := 2) (p' := 81) (s' := [.int l_4]) rfl rfl (ld_i (vg_o (i := 3) (v := .int (if p_17.1 = 36 then (l_3 + 1) else (if p_17.1 = 37 then (l_3 - 1) else l_3) : Int32)) (vg_o (i := 6) (v := .int p_17.1) g_4 (by decide) (Or.inl rfl)) (by decide) (Or.inl rfl))) ?_
              refine ev_x (i := .iconst 1) (len := 1) (p' := 82) (s' := [.int 1, .int l_4]) rfl rfl rfl ?_
              refine ev_x (i := .iadd) (len := 1) (p' := 83) (s' := [.int (l_4 + 1)]) rfl rfl rfl ?_
              refine ev_x (i := .goto 19) (len := 3) (p' := 102) (s' := [.int (l_4 + 1)]) rfl rfl rfl ?_
              exact ev_st (congrArg (fun z => Value.int z :: []) (by rw [if_pos c_20, if_pos c_21])) J
            · refine ev_b2 (t := 86) (p' := 86) rfl rfl rfl (if_pos c_21) ?_
              refine ev_x (i := .iload 6) (len := 2) (p' := 88) (s' := [.int p_17.1]) rfl rfl (ld_i (vg_o (i := 3) (v := .int (if p_17.1 = 36 then (l_3 + 1) else (if p_17.1 = 37 then (l_3 - 1) else l_3) : Int32)) (vg_s (lv) 6 (.int p_17.1)) (by decide) (Or.inl rfl))) ?_
              refine ev_x (i := .bipush 33) (len := 2) (p' := 90) (s' := [.int 33, .int p_17.1]) rfl rfl rfl ?_
              by_cases c_22 : p_17.1 = 33
              · refine ev_b2 (t := 100) (p' := 93) rfl rfl rfl (if_neg (fun q => q c_22)) ?_
                refine ev_x (i := .iload 4) (len := 2) (p' := 95) (s' := [.int l_4]) rfl rfl (ld_i (vg_o (i := 3) (v := .int (if p_17.1 = 36 then (l_3 + 1) else (if p_17.1 = 37 then (l_3 - 1) else l_3) : Int32)) (vg_o (i := 6) (v := .int p_17.1) g_4 (by decide) (Or.inl rfl)) (by decide) (Or.inl rfl))) ?_
                refine ev_x (i := .iconst 1) (len := 1) (p' := 96) (s' := [.int 1, .int l_4]) rfl rfl rfl ?_
                refine ev_x (i := .isub) (len := 1) (p' := 97) (s' := [.int (l_4 - 1)]) rfl rfl rfl ?_
                refine ev_x (i := .goto 5) (len := 3) (p' := 102) (s' := [.int (l_4 - 1)]) rfl rfl rfl ?_
                exact ev_st (congrArg (fun z => Value.int z :: []) (by rw [if_pos c_20, if_neg c_21, if_pos c_22])) J
              · refine ev_b2 (t := 100) (p' := 100) rfl rfl rfl (if_pos c_22) ?_
                refine ev_x (i := .iload 4) (len := 2) (p' := 102) (s' := [.int l_4]) rfl rfl (ld_i (vg_o (i := 3) (v := .int (if p_17.1 = 36 then (l_3 + 1) else (if p_17.1 = 37 then (l_3 - 1) else l_3) : Int32)) (vg_o (i := 6) (v := .int p_17.1) g_4 (by decide) (Or.inl rfl)) (by decide) (Or.inl rfl))) ?_
                exact ev_st (congrArg (fun z => Value.int z :: []) (by rw [if_pos c_20, if_neg c_21, if_neg c_22])) J
          · refine ev_b0 (t := 72) (p' := 67) rfl rfl rfl (if_neg c_20) ?_
            refine ev_x (i := .iload 4) (len := 2) (p' := 69) (s' := [.int l_4]) rfl rfl (ld_i (vg_o (i := 3) (v := .int (if p_17.1 = 36 then (l_3 + 1) else (if p_17.1 = 37 then (l_3 - 1) else l_3) : Int32)) (vg_o (i := 6) (v := .int p_17.1) g_4 (by decide) (Or.inl rfl)) (by decide) (Or.inl rfl))) ?_
            refine ev_x (i := .goto 33) (len := 3) (p' := 102) (s' := [.int l_4]) rfl rfl rfl ?_
            exact ev_st (congrArg (fun z => Value.int z :: []) (by rw [if_neg c_20])) J
      · by_cases c_18 : p_17.1 = 36
        · refine ev_b2 (t := 48) (p' := 42) rfl rfl rfl (if_neg (fun q => q c_18)) ?_
          refine ev_x (i := .iload_n 3) (len := 1) (p' := 43) (s' := [.int l_3]) rfl rfl (ld_i (vg_o (i := 6) (v := .int p_17.1) g_3 (by decide) (Or.inl rfl))) ?_
          refine ev_x (i := .iconst 1) (len := 1) (p' := 44) (s' := [.int 1, .int l_3]) rfl rfl rfl ?_
          refine ev_x (i := .iadd) (len := 1) (p' := 45) (s' := [.int (l_3 + 1)]) rfl rfl rfl ?_
          refine ev_x (i := .goto 17) (len := 3) (p' := 62) (s' := [.int (l_3 + 1)]) rfl rfl rfl ?_
          exact ev_st (congrArg (fun z => Value.int z :: []) (by rw [if_pos c_18])) J
        · refine ev_b2 (t := 48) (p' := 48) rfl rfl rfl (if_pos c_18) ?_
          refine ev_x (i := .iload 6) (len := 2) (p' := 50) (s' := [.int p_17.1]) rfl rfl (ld_i (vg_s (lv) 6 (.int p_17.1))) ?_
          refine ev_x (i := .bipush 37) (len := 2) (p' := 52) (s' := [.int 37, .int p_17.1]) rfl rfl rfl ?_
          by_cases c_19 : p_17.1 = 37
          · refine ev_b2 (t := 61) (p' := 55) rfl rfl rfl (if_neg (fun q => q c_19)) ?_
            refine ev_x (i := .iload_n 3) (len := 1) (p' := 56) (s' := [.int l_3]) rfl rfl (ld_i (vg_o (i := 6) (v := .int p_17.1) g_3 (by decide) (Or.inl rfl))) ?_
            refine ev_x (i := .iconst 1) (len := 1) (p' := 57) (s' := [.int 1, .int l_3]) rfl rfl rfl ?_
            refine ev_x (i := .isub) (len := 1) (p' := 58) (s' := [.int (l_3 - 1)]) rfl rfl rfl ?_
            refine ev_x (i := .goto 4) (len := 3) (p' := 62) (s' := [.int (l_3 - 1)]) rfl rfl rfl ?_
            exact ev_st (congrArg (fun z => Value.int z :: []) (by rw [if_neg c_18, if_pos c_19])) J
          · refine ev_b2 (t := 61) (p' := 61) rfl rfl rfl (if_pos c_19) ?_
            refine ev_x (i := .iload_n 3) (len := 1) (p' := 62) (s' := [.int l_3]) rfl rfl (ld_i (vg_o (i := 6) (v := .int p_17.1) g_3 (by decide) (Or.inl rfl))) ?_
            exact ev_st (congrArg (fun z => Value.int z :: []) (by rw [if_neg c_18, if_neg c_19])) J
/-- GameTextModel.until(II)I -/
def F_163 (N : Nat) (x_1 : Int32) (x_2 : Int32) (σ : st_S) : Option (Int32 × st_S) :=
  L_163 N N x_2 0 0 x_1 (σ)
set_option maxRecDepth 100000 in
theorem F_163_R {N : Nat} {x_1 : Int32} {x_2 : Int32} {σ : st_S} {p : Int32 × st_S} (H : F_163 N x_1 x_2 σ = some p) : gR p.2 = gR σ := by
  unfold F_163 at H
  exact (((L_163_R _ _ _ _ _ _ _ H)).trans rfl)
set_option maxHeartbeats 4000000 in
set_option maxRecDepth 100000 in
theorem F_163_ok {N d : Nat} {x_1 : Int32} {x_2 : Int32} {σ : st_S} {p : Int32 × st_S}  (H : F_163 N x_1 x_2 σ = some p) : vz_ev P0 (d + 3) 163 0 (lv_args 0 [.ref 66, .int x_1, .int x_2]) [] (hp σ) (.inl (some (.int p.1)), hp p.2) := by
  unfold F_163 at H
  refine ev_x (i := .iconst 0) (len := 1) (p' := 1) (s' := [.int 0]) rfl rfl rfl ?_
  refine ev_x (i := .istore_n 3) (len := 1) (p' := 2) (s' := []) (l' := [(3, .int 0), (0, .ref 66), (1, .int x_1), (2, .int x_2)]) rfl rfl rfl ?_
  refine ev_x (i := .iconst 0) (len := 1) (p' := 3) (s' := [.int 0]) rfl rfl rfl ?_
  refine ev_x (i := .istore 4) (len := 2) (p' := 5) (s' := []) (l' := [(4, .int 0), (3, .int 0), (0, .ref 66), (1, .int x_1), (2, .int x_2)]) rfl rfl rfl ?_
  refine ev_x (i := .iload_n 1) (len := 1) (p' := 6) (s' := [.int x_1]) rfl rfl rfl ?_
  refine ev_x (i := .istore 5) (len := 2) (p' := 8) (s' := []) (l' := [(5, .int x_1), (4, .int 0), (3, .int 0), (0, .ref 66), (1, .int x_1), (2, .int x_2)]) rfl rfl rfl ?_
  exact (L_163_ok (d := d) N) _ _ _ _ _ _ _ rfl rfl rfl rfl rfl rfl  H
/-- GameTextModel.stop(II)V -/
def F_165 (N : Nat) (x_1 : Int32) (x_2 : Int32) (σ : st_S) : Option (st_S) :=
  some (st_i (st_i (σ) 66 16 x_1) 66 17 x_2)
set_option maxRecDepth 100000 in
theorem F_165_R {N : Nat} {x_1 : Int32} {x_2 : Int32} {σ : st_S} {p : st_S} (H : F_165 N x_1 x_2 σ = some p) : gR p = gR σ := by
  unfold F_165 at H
  obtain rfl := Option.some.inj H
  exact rfl
set_option maxHeartbeats 4000000 in
set_option maxRecDepth 100000 in
theorem F_165_ok {N d : Nat} {x_1 : Int32} {x_2 : Int32} {σ : st_S} {p : st_S}  (H : F_165 N x_1 x_2 σ = some p) : vz_ev P0 (d + 1) 165 0 (lv_args 0 [.ref 66, .int x_1, .int x_2]) [] (hp σ) (.inl none, hp p) := by
  unfold F_165 at H
  refine ev_x (i := .aload_n 0) (len := 1) (p' := 1) (s' := [.ref 66]) rfl rfl rfl ?_
  refine ev_x (i := .iload_n 1) (len := 1) (p' := 2) (s' := [.int x_1, .ref 66]) rfl rfl rfl ?_
  refine ev_pi (p' := 5) rfl rfl rfl ly_66 rfl rfl rfl rfl ?_
  refine ev_x (i := .aload_n 0) (len := 1) (p' := 6) (s' := [.ref 66]) rfl rfl rfl ?_
  refine ev_x (i := .iload_n 2) (len := 1) (p' := 7) (s' := [.int x_2, .ref 66]) rfl rfl rfl ?_
  refine ev_pi (p' := 10) rfl rfl rfl ly_66 rfl rfl rfl rfl ?_
  obtain rfl := Option.some.inj H
  exact ev_vret rfl rfl rfl
/-- GameTextModel.sameWord(II)Z, its loops -/
def L_167 (N : Nat) (x : Nat) : Nat → Int32 → Int32 → Int32 → Int32 → Int32 → st_S → Option (Int32 × st_S)
  | 0, _, _, _, _, _, _ => none
  | k + 1, l_1, l_2, l_3, l_4, l_5, σ =>
      if l_3 ≤ l_5 then
        if (l_4 = 0 ∨ l_4 = 1) then
        some (l_4, σ)
        else none
      else
        if l_4 = 0 then
          if (l_4 = 0 ∨ l_4 = 1) then
          some (l_4, σ)
          else none
        else
          (F_159 N l_1 (σ)).bind fun p_10 =>
          (N_139 N x (p_10.1 + l_5) (p_10.2)).bind fun p_11 =>
          (F_159 N l_2 (p_11.2)).bind fun p_12 =>
          (N_139 N x (p_12.1 + l_5) (p_12.2)).bind fun p_13 =>
          L_167 N x k l_1 l_2 l_3 (if p_11.1 = p_13.1 then 1 else 0 : Int32) (l_5 + 1) (p_13.2)
set_option maxRecDepth 100000 in
theorem L_167_R {N : Nat} {x : Nat} : ∀ (k : Nat) (l_1 : Int32) (l_2 : Int32) (l_3 : Int32) (l_4 : Int32) (l_5 : Int32) (σ : st_S) (p : Int32 × st_S), L_167 N x k l_1 l_2 l_3 l_4 l_5 σ = some p → gR p.2 = gR σ := by
  intro k
  induction k with
  | zero => intro l_1 l_2 l_3 l_4 l_5 σ p H; unfold L_167 at H; cases H
  | succ k ih =>
    intro l_1 l_2 l_3 l_4 l_5 σ p H
    unfold L_167 at H
    refine F_if H (fun _ H => ?_) (fun _ H => ?_)
    · obtain ⟨_, H⟩ := F_gd H
      obtain rfl := Option.some.inj H
      exact rfl
    · refine F_if H (fun _ H => ?_) (fun _ H => ?_)
      · obtain ⟨_, H⟩ := F_gd H
        obtain rfl := Option.some.inj H
        exact rfl
      · obtain ⟨p_10, G_10, H⟩ := F_bd H
        obtain ⟨p_11, G_11, H⟩ := F_bd H
        obtain ⟨p_12, G_12, H⟩ := F_bd H
        obtain ⟨p_13, G_13, H⟩ := F_bd H
        exact (((ih _ _ _ _ _ _ _ H)).trans ((N_139_R G_13).trans ((F_159_R G_12).trans ((N_139_R G_11).trans ((F_159_R G_10).trans rfl)))))
set_option maxHeartbeats 4000000 in
set_option maxRecDepth 100000 in
theorem L_167_ok {N d : Nat} {x : Nat} (hx : x = 67 ∨ x = 69) : ∀ k : Nat, ∀ (l_1 : Int32) (l_2 : Int32) (l_3 : Int32) (l_4 : Int32) (l_5 : Int32) (σ : st_S) (lv : vz_L) (p : Int32 × st_S), vz_g lv 0 = some (.ref 66) → vz_g lv 1 = some (.int l_1) → vz_g lv 2 = some (.int l_2) → vz_g lv 3 = some (.int l_3) → vz_g lv 4 = some (.int l_4) → vz_g lv 5 = some (.int l_5) → vz_nbL (vz_gr P0) lv = true → gR σ 66 2 = x → L_167 N x k l_1 l_2 l_3 l_4 l_5 σ = some p → vz_ev P0 (d + 3) 167 43 lv [] (hp σ) (.inl (some (.int p.1)), hp p.2) := by
  rcases hx with rfl | rfl
  · intro k
    induction k with
    | zero => intro l_1 l_2 l_3 l_4 l_5 σ lv p g_0 g_1 g_2 g_3 g_4 g_5 hnb hr_66_2 H; unfold L_167 at H; cases H
    | succ k ih =>
      intro l_1 l_2 l_3 l_4 l_5 σ lv p g_0 g_1 g_2 g_3 g_4 g_5 hnb hr_66_2 H
      unfold L_167 at H
      refine ev_x (i := .iload 5) (len := 2) (p' := 45) (s' := [.int l_5]) rfl rfl (ld_i g_5) ?_
      refine ev_x (i := .iload_n 3) (len := 1) (p' := 46) (s' := [.int l_3, .int l_5]) rfl rfl (ld_i g_3) ?_
      refine F_if H (fun c_6 H => ?_) (fun c_6 H => ?_)
      · refine ev_b2 (t := 100) (p' := 100) rfl rfl rfl (if_pos c_6) ?_
        refine ev_x (i := .iload 4) (len := 2) (p' := 102) (s' := [.int l_4]) rfl rfl (ld_i g_4) ?_
        obtain ⟨b_7, H⟩ := F_gd H
        obtain rfl := Option.some.inj H
        exact ev_iret rfl rfl rfl (fit_b b_7)
      · refine ev_b2 (t := 100) (p' := 49) rfl rfl rfl (if_neg c_6) ?_
        refine ev_x (i := .iload 4) (len := 2) (p' := 51) (s' := [.int l_4]) rfl rfl (ld_i g_4) ?_
        refine F_if H (fun c_8 H => ?_) (fun c_8 H => ?_)
        · refine ev_b0 (t := 100) (p' := 100) rfl rfl rfl (if_pos c_8) ?_
          refine ev_x (i := .iload 4) (len := 2) (p' := 102) (s' := [.int l_4]) rfl rfl (ld_i g_4) ?_
          obtain ⟨b_9, H⟩ := F_gd H
          obtain rfl := Option.some.inj H
          exact ev_iret rfl rfl rfl (fit_b b_9)
        · refine ev_b0 (t := 100) (p' := 54) rfl rfl rfl (if_neg c_8) ?_
          refine ev_x (i := .aload_n 0) (len := 1) (p' := 55) (s' := [.ref 66]) rfl rfl (ld_a g_0) ?_
          refine ev_gr (p' := 58) (v := 67) rfl rfl rfl ly_66 rfl rfl hr_66_2 ?_
          refine ev_x (i := .aload_n 0) (len := 1) (p' := 59) (s' := [.ref 66, .ref 67]) rfl rfl (ld_a g_0) ?_
          refine ev_x (i := .iload_n 1) (len := 1) (p' := 60) (s' := [.int l_1, .ref 66, .ref 67]) rfl rfl (ld_i g_1) ?_
          obtain ⟨p_10, G_10, H⟩ := F_bd H
          refine ev_cv (d := d + 2) (As := [.int l_1]) (a := 66) (p' := 63) rfl rfl rfl ly_66 rfl rfl rfl rfl rfl hnb rfl (F_159_ok (d := d + 0)   G_10) ?_
          refine ev_st (st' := [.int p_10.1, .ref 67]) rfl ?_
          have e_10 := F_159_R G_10
          refine ev_x (i := .iload 5) (len := 2) (p' := 65) (s' := [.int l_5, .int p_10.1, .ref 67]) rfl rfl (ld_i g_5) ?_
          refine ev_x (i := .iadd) (len := 1) (p' := 66) (s' := [.int (p_10.1 + l_5), .ref 67]) rfl rfl rfl ?_
          obtain ⟨p_11, G_11, H⟩ := F_bd H
          refine ev_cv (d := d + 2) (As := [.int (p_10.1 + l_5)]) (a := 67) (p' := 69) rfl rfl rfl ly_67 rfl rfl rfl rfl rfl hnb rfl (N_139_ok (d := d + 1) nm_67 G_11) ?_
          refine ev_st (st' := [.int p_11.1]) rfl ?_
          have e_11 := N_139_R G_11
          refine ev_x (i := .aload_n 0) (len := 1) (p' := 70) (s' := [.ref 66, .int p_11.1]) rfl rfl (ld_a g_0) ?_
          refine ev_gr (p' := 73) (v := 67) rfl rfl rfl ly_66 rfl rfl ((congrFun (congrFun e_11 66) 2).trans ((congrFun (congrFun e_10 66) 2).trans hr_66_2)) ?_
          refine ev_x (i := .aload_n 0) (len := 1) (p' := 74) (s' := [.ref 66, .ref 67, .int p_11.1]) rfl rfl (ld_a g_0) ?_
          refine ev_x (i := .iload_n 2) (len := 1) (p' := 75) (s' := [.int l_2, .ref 66, .ref 67, .int p_11.1]) rfl rfl (ld_i g_2) ?_
          obtain ⟨p_12, G_12, H⟩ := F_bd H
          refine ev_cv (d := d + 2) (As := [.int l_2]) (a := 66) (p' := 78) rfl rfl rfl ly_66 rfl rfl rfl rfl rfl hnb rfl (F_159_ok (d := d + 0)   G_12) ?_
          refine ev_st (st' := [.int p_12.1, .ref 67, .int p_11.1]) rfl ?_
          have e_12 := F_159_R G_12
          refine ev_x (i := .iload 5) (len := 2) (p' := 80) (s' := [.int l_5, .int p_12.1, .ref 67, .int p_11.1]) rfl rfl (ld_i g_5) ?_
          refine ev_x (i := .iadd) (len := 1) (p' := 81) (s' := [.int (p_12.1 + l_5), .ref 67, .int p_11.1]) rfl rfl rfl ?_
          obtain ⟨p_13, G_13, H⟩ := F_bd H
          refine ev_cv (d := d + 2) (As := [.int (p_12.1 + l_5)]) (a := 67) (p' := 84) rfl rfl rfl ly_67 rfl rfl rfl rfl rfl hnb rfl (N_139_ok (d := d + 1) nm_67 G_13) ?_
          refine ev_st (st' := [.int p_13.1, .int p_11.1]) rfl ?_
          have e_13 := N_139_R G_13
          refine F_jn (A := vz_ev P0 (d + 3) 167 92 (lv) [.int (if p_11.1 = p_13.1 then 1 else 0 : Int32)] (hp (p_13.2)) (.inl (some (.int p.1)), hp p.2)) ?_ (fun J => ?_)
          · refine ev_x (i := .istore 4) (len := 2) (p' := 94) (s' := []) (l' := vz_s1 (lv) 4 (.int (if p_11.1 = p_13.1 then 1 else 0 : Int32))) rfl rfl rfl ?_
            refine ev_x (i := .iinc 5 1) (len := 3) (p' := 97) (s' := []) (l' := vz_s1 (vz_s1 (lv) 4 (.int (if p_11.1 = p_13.1 then 1 else 0 : Int32))) 5 (.int (l_5 + 1))) rfl rfl (ld_inc (vg_o (i := 4) (v := .int (if p_11.1 = p_13.1 then 1 else 0 : Int32)) g_5 (by decide) (Or.inl rfl)) rfl) ?_
            refine ev_x (i := .goto (-54)) (len := 3) (p' := 43) (s' := []) rfl rfl rfl ?_
            exact ih _ _ _ _ _ _ _ _ (vg_o (i := 5) (v := .int (l_5 + 1)) (vg_o (i := 4) (v := .int (if p_11.1 = p_13.1 then 1 else 0 : Int32)) g_0 (by decide) (Or.inl rfl)) (by decide) (Or.inl rfl)) (vg_o (i := 5) (v := .int (l_5 + 1)) (vg_o (i := 4) (v := .int (if p_11.1 = p_13.1 then 1 else 0 : Int32)) g_1 (by decide) (Or.inl rfl)) (by decide) (Or.inl rfl)) (vg_o (i := 5) (v := .int (l_5 + 1)) (vg_o (i := 4) (v := .int (if p_11.1 = p_13.1 then 1 else 0 : Int32)) g_2 (by decide) (Or.inl rfl)) (by decide) (Or.inl rfl)) (vg_o (i := 5) (v := .int (l_5 + 1)) (vg_o (i := 4) (v := .int (if p_11.1 = p_13.1 then 1 else 0 : Int32)) g_3 (by decide) (Or.inl rfl)) (by decide) (Or.inl rfl)) (vg_o (i := 5) (v := .int (l_5 + 1)) (vg_s (lv) 4 (.int (if p_11.1 = p_13.1 then 1 else 0 : Int32))) (by decide) (Or.inl rfl)) (vg_s (vz_s1 (lv) 4 (.int (if p_11.1 = p_13.1 then 1 else 0 : Int32))) 5 (.int (l_5 + 1))) (nb_s1 (nb_s1 hnb rfl) rfl) ((congrFun (congrFun e_13 66) 2).trans ((congrFun (congrFun e_12 66) 2).trans ((congrFun (congrFun e_11 66) 2).trans ((congrFun (congrFun e_10 66) 2).trans hr_66_2)))) H
          · by_cases c_14 : p_11.1 = p_13.1
            · refine ev_b2 (t := 91) (p' := 87) rfl rfl rfl (if_neg (fun q => q c_14)) ?_
              refine ev_x (i := .iconst 1) (len := 1) (p' := 88) (s' := [.int 1]) rfl rfl rfl ?_
              refine ev_x (i := .goto 4) (len := 3) (p' := 92) (s' := [.int 1]) rfl rfl rfl ?_
              exact ev_st (congrArg (fun z => Value.int z :: []) (by rw [if_pos c_14])) J
            · refine ev_b2 (t := 91) (p' := 91) rfl rfl rfl (if_pos c_14) ?_
              refine ev_x (i := .iconst 0) (len := 1) (p' := 92) (s' := [.int 0]) rfl rfl rfl ?_
              exact ev_st (congrArg (fun z => Value.int z :: []) (by rw [if_neg c_14])) J
  · intro k
    induction k with
    | zero => intro l_1 l_2 l_3 l_4 l_5 σ lv p g_0 g_1 g_2 g_3 g_4 g_5 hnb hr_66_2 H; unfold L_167 at H; cases H
    | succ k ih =>
      intro l_1 l_2 l_3 l_4 l_5 σ lv p g_0 g_1 g_2 g_3 g_4 g_5 hnb hr_66_2 H
      unfold L_167 at H
      refine ev_x (i := .iload 5) (len := 2) (p' := 45) (s' := [.int l_5]) rfl rfl (ld_i g_5) ?_
      refine ev_x (i := .iload_n 3) (len := 1) (p' := 46) (s' := [.int l_3, .int l_5]) rfl rfl (ld_i g_3) ?_
      refine F_if H (fun c_6 H => ?_) (fun c_6 H => ?_)
      · refine ev_b2 (t := 100) (p' := 100) rfl rfl rfl (if_pos c_6) ?_
        refine ev_x (i := .iload 4) (len := 2) (p' := 102) (s' := [.int l_4]) rfl rfl (ld_i g_4) ?_
        obtain ⟨b_7, H⟩ := F_gd H
        obtain rfl := Option.some.inj H
        exact ev_iret rfl rfl rfl (fit_b b_7)
      · refine ev_b2 (t := 100) (p' := 49) rfl rfl rfl (if_neg c_6) ?_
        refine ev_x (i := .iload 4) (len := 2) (p' := 51) (s' := [.int l_4]) rfl rfl (ld_i g_4) ?_
        refine F_if H (fun c_8 H => ?_) (fun c_8 H => ?_)
        · refine ev_b0 (t := 100) (p' := 100) rfl rfl rfl (if_pos c_8) ?_
          refine ev_x (i := .iload 4) (len := 2) (p' := 102) (s' := [.int l_4]) rfl rfl (ld_i g_4) ?_
          obtain ⟨b_9, H⟩ := F_gd H
          obtain rfl := Option.some.inj H
          exact ev_iret rfl rfl rfl (fit_b b_9)
        · refine ev_b0 (t := 100) (p' := 54) rfl rfl rfl (if_neg c_8) ?_
          refine ev_x (i := .aload_n 0) (len := 1) (p' := 55) (s' := [.ref 66]) rfl rfl (ld_a g_0) ?_
          refine ev_gr (p' := 58) (v := 69) rfl rfl rfl ly_66 rfl rfl hr_66_2 ?_
          refine ev_x (i := .aload_n 0) (len := 1) (p' := 59) (s' := [.ref 66, .ref 69]) rfl rfl (ld_a g_0) ?_
          refine ev_x (i := .iload_n 1) (len := 1) (p' := 60) (s' := [.int l_1, .ref 66, .ref 69]) rfl rfl (ld_i g_1) ?_
          obtain ⟨p_10, G_10, H⟩ := F_bd H
          refine ev_cv (d := d + 2) (As := [.int l_1]) (a := 66) (p' := 63) rfl rfl rfl ly_66 rfl rfl rfl rfl rfl hnb rfl (F_159_ok (d := d + 0)   G_10) ?_
          refine ev_st (st' := [.int p_10.1, .ref 69]) rfl ?_
          have e_10 := F_159_R G_10
          refine ev_x (i := .iload 5) (len := 2) (p' := 65) (s' := [.int l_5, .int p_10.1, .ref 69]) rfl rfl (ld_i g_5) ?_
          refine ev_x (i := .iadd) (len := 1) (p' := 66) (s' := [.int (p_10.1 + l_5), .ref 69]) rfl rfl rfl ?_
          obtain ⟨p_11, G_11, H⟩ := F_bd H
          refine ev_cv (d := d + 2) (As := [.int (p_10.1 + l_5)]) (a := 69) (p' := 69) rfl rfl rfl ly_69 rfl rfl rfl rfl rfl hnb rfl (N_139_ok (d := d + 1) nm_69 G_11) ?_
          refine ev_st (st' := [.int p_11.1]) rfl ?_
          have e_11 := N_139_R G_11
          refine ev_x (i := .aload_n 0) (len := 1) (p' := 70) (s' := [.ref 66, .int p_11.1]) rfl rfl (ld_a g_0) ?_
          refine ev_gr (p' := 73) (v := 69) rfl rfl rfl ly_66 rfl rfl ((congrFun (congrFun e_11 66) 2).trans ((congrFun (congrFun e_10 66) 2).trans hr_66_2)) ?_
          refine ev_x (i := .aload_n 0) (len := 1) (p' := 74) (s' := [.ref 66, .ref 69, .int p_11.1]) rfl rfl (ld_a g_0) ?_
          refine ev_x (i := .iload_n 2) (len := 1) (p' := 75) (s' := [.int l_2, .ref 66, .ref 69, .int p_11.1]) rfl rfl (ld_i g_2) ?_
          obtain ⟨p_12, G_12, H⟩ := F_bd H
          refine ev_cv (d := d + 2) (As := [.int l_2]) (a := 66) (p' := 78) rfl rfl rfl ly_66 rfl rfl rfl rfl rfl hnb rfl (F_159_ok (d := d + 0)   G_12) ?_
          refine ev_st (st' := [.int p_12.1, .ref 69, .int p_11.1]) rfl ?_
          have e_12 := F_159_R G_12
          refine ev_x (i := .iload 5) (len := 2) (p' := 80) (s' := [.int l_5, .int p_12.1, .ref 69, .int p_11.1]) rfl rfl (ld_i g_5) ?_
          refine ev_x (i := .iadd) (len := 1) (p' := 81) (s' := [.int (p_12.1 + l_5), .ref 69, .int p_11.1]) rfl rfl rfl ?_
          obtain ⟨p_13, G_13, H⟩ := F_bd H
          refine ev_cv (d := d + 2) (As := [.int (p_12.1 + l_5)]) (a := 69) (p' := 84) rfl rfl rfl ly_69 rfl rfl rfl rfl rfl hnb rfl (N_139_ok (d := d + 1) nm_69 G_13) ?_
          refine ev_st (st' := [.int p_13.1, .int p_11.1]) rfl ?_
          have e_13 := N_139_R G_13
          refine F_jn (A := vz_ev P0 (d + 3) 167 92 (lv) [.int (if p_11.1 = p_13.1 then 1 else 0 : Int32)] (hp (p_13.2)) (.inl (some (.int p.1)), hp p.2)) ?_ (fun J => ?_)
          · refine ev_x (i := .istore 4) (len := 2) (p' := 94) (s' := []) (l' := vz_s1 (lv) 4 (.int (if p_11.1 = p_13.1 then 1 else 0 : Int32))) rfl rfl rfl ?_
            refine ev_x (i := .iinc 5 1) (len := 3) (p' := 97) (s' := []) (l' := vz_s1 (vz_s1 (lv) 4 (.int (if p_11.1 = p_13.1 then 1 else 0 : Int32))) 5 (.int (l_5 + 1))) rfl rfl (ld_inc (vg_o (i := 4) (v := .int (if p_11.1 = p_13.1 then 1 else 0 : Int32)) g_5 (by decide) (Or.inl rfl)) rfl) ?_
            refine ev_x (i := .goto (-54)) (len := 3) (p' := 43) (s' := []) rfl rfl rfl ?_
            exact ih _ _ _ _ _ _ _ _ (vg_o (i := 5) (v := .int (l_5 + 1)) (vg_o (i := 4) (v := .int (if p_11.1 = p_13.1 then 1 else 0 : Int32)) g_0 (by decide) (Or.inl rfl)) (by decide) (Or.inl rfl)) (vg_o (i := 5) (v := .int (l_5 + 1)) (vg_o (i := 4) (v := .int (if p_11.1 = p_13.1 then 1 else 0 : Int32)) g_1 (by decide) (Or.inl rfl)) (by decide) (Or.inl rfl)) (vg_o (i := 5) (v := .int (l_5 + 1)) (vg_o (i := 4) (v := .int (if p_11.1 = p_13.1 then 1 else 0 : Int32)) g_2 (by decide) (Or.inl rfl)) (by decide) (Or.inl rfl)) (vg_o (i := 5) (v := .int (l_5 + 1)) (vg_o (i := 4) (v := .int (if p_11.1 = p_13.1 then 1 else 0 : Int32)) g_3 (by decide) (Or.inl rfl)) (by decide) (Or.inl rfl)) (vg_o (i := 5) (v := .int (l_5 + 1)) (vg_s (lv) 4 (.int (if p_11.1 = p_13.1 then 1 else 0 : Int32))) (by decide) (Or.inl rfl)) (vg_s (vz_s1 (lv) 4 (.int (if p_11.1 = p_13.1 then 1 else 0 : Int32))) 5 (.int (l_5 + 1))) (nb_s1 (nb_s1 hnb rfl) rfl) ((congrFun (congrFun e_13 66) 2).trans ((congrFun (congrFun e_12 66) 2).trans ((congrFun (congrFun e_11 66) 2).trans ((congrFun (congrFun e_10 66) 2).trans hr_66_2)))) H
          · by_cases c_14 : p_11.1 = p_13.1
            · refine ev_b2 (t := 91) (p' := 87) rfl rfl rfl (if_neg (fun q => q c_14)) ?_
              refine ev_x (i := .iconst 1) (len := 1) (p' := 88) (s' := [.int 1]) rfl rfl rfl ?_
              refine ev_x (i := .goto 4) (len := 3) (p' := 92) (s' := [.int 1]) rfl rfl rfl ?_
              exact ev_st (congrArg (fun z => Value.int z :: []) (by rw [if_pos c_14])) J
            · refine ev_b2 (t := 91) (p' := 91) rfl rfl rfl (if_pos c_14) ?_
              refine ev_x (i := .iconst 0) (len := 1) (p' := 92) (s' := [.int 0]) rfl rfl rfl ?_
              exact ev_st (congrArg (fun z => Value.int z :: []) (by rw [if_neg c_14])) J
/-- GameTextModel.sameWord(II)Z -/
def F_167 (N : Nat) (x : Nat) (x_1 : Int32) (x_2 : Int32) (σ : st_S) : Option (Int32 × st_S) :=
  (N_139 N 75 x_1 (σ)).bind fun p_1 =>
  (F_159 N x_1 (p_1.2)).bind fun p_2 =>
  (N_139 N 75 x_2 (p_2.2)).bind fun p_3 =>
  (F_159 N x_2 (p_3.2)).bind fun p_4 =>
  L_167 N x N x_1 x_2 (p_1.1 - p_2.1) (if (p_3.1 - p_4.1) = (p_1.1 - p_2.1) then 1 else 0 : Int32) 0 (p_4.2)
set_option maxRecDepth 100000 in
theorem F_167_R {N : Nat} {x : Nat} {x_1 : Int32} {x_2 : Int32} {σ : st_S} {p : Int32 × st_S} (H : F_167 N x x_1 x_2 σ = some p) : gR p.2 = gR σ := by
  unfold F_167 at H
  obtain ⟨p_1, G_1, H⟩ := F_bd H
  obtain ⟨p_2, G_2, H⟩ := F_bd H
  obtain ⟨p_3, G_3, H⟩ := F_bd H
  obtain ⟨p_4, G_4, H⟩ := F_bd H
  exact (((L_167_R _ _ _ _ _ _ _ _ H)).trans ((F_159_R G_4).trans ((N_139_R G_3).trans ((F_159_R G_2).trans ((N_139_R G_1).trans rfl)))))
set_option maxHeartbeats 4000000 in
set_option maxRecDepth 100000 in
theorem F_167_ok {N d : Nat} {x : Nat} (hx : x = 67 ∨ x = 69) {x_1 : Int32} {x_2 : Int32} {σ : st_S} {p : Int32 × st_S} (hr_66_2 : gR σ 66 2 = x) (H : F_167 N x x_1 x_2 σ = some p) : vz_ev P0 (d + 3) 167 0 (lv_args 0 [.ref 66, .int x_1, .int x_2]) [] (hp σ) (.inl (some (.int p.1)), hp p.2) := by
  unfold F_167 at H
  refine ev_x (i := .aload_n 0) (len := 1) (p' := 1) (s' := [.ref 66]) rfl rfl rfl ?_
  refine ev_gc (p' := 4) (v := 75) rfl rfl rfl ly_66 rfl rfl ?_
  refine ev_x (i := .iload_n 1) (len := 1) (p' := 5) (s' := [.int x_1, .ref 75]) rfl rfl rfl ?_
  obtain ⟨p_1, G_1, H⟩ := F_bd H
  refine ev_cv (d := d + 2) (As := [.int x_1]) (a := 75) (p' := 8) rfl rfl rfl ly_75 rfl rfl rfl rfl rfl rfl rfl (N_139_ok (d := d + 1) nm_75 G_1) ?_
  refine ev_st (st' := [.int p_1.1]) rfl ?_
  have e_1 := N_139_R G_1
  refine ev_x (i := .aload_n 0) (len := 1) (p' := 9) (s' := [.ref 66, .int p_1.1]) rfl rfl rfl ?_
  refine ev_x (i := .iload_n 1) (len := 1) (p' := 10) (s' := [.int x_1, .ref 66, .int p_1.1]) rfl rfl rfl ?_
  obtain ⟨p_2, G_2, H⟩ := F_bd H
  refine ev_cv (d := d + 2) (As := [.int x_1]) (a := 66) (p' := 13) rfl rfl rfl ly_66 rfl rfl rfl rfl rfl rfl rfl (F_159_ok (d := d + 0)   G_2) ?_
  refine ev_st (st' := [.int p_2.1, .int p_1.1]) rfl ?_
  have e_2 := F_159_R G_2
  refine ev_x (i := .isub) (len := 1) (p' := 14) (s' := [.int (p_1.1 - p_2.1)]) rfl rfl rfl ?_
  refine ev_x (i := .istore_n 3) (len := 1) (p' := 15) (s' := []) (l' := [(3, .int (p_1.1 - p_2.1)), (0, .ref 66), (1, .int x_1), (2, .int x_2)]) rfl rfl rfl ?_
  refine ev_x (i := .aload_n 0) (len := 1) (p' := 16) (s' := [.ref 66]) rfl rfl rfl ?_
  refine ev_gc (p' := 19) (v := 75) rfl rfl rfl ly_66 rfl rfl ?_
  refine ev_x (i := .iload_n 2) (len := 1) (p' := 20) (s' := [.int x_2, .ref 75]) rfl rfl rfl ?_
  obtain ⟨p_3, G_3, H⟩ := F_bd H
  refine ev_cv (d := d + 2) (As := [.int x_2]) (a := 75) (p' := 23) rfl rfl rfl ly_75 rfl rfl rfl rfl rfl rfl rfl (N_139_ok (d := d + 1) nm_75 G_3) ?_
  refine ev_st (st' := [.int p_3.1]) rfl ?_
  have e_3 := N_139_R G_3
  refine ev_x (i := .aload_n 0) (len := 1) (p' := 24) (s' := [.ref 66, .int p_3.1]) rfl rfl rfl ?_
  refine ev_x (i := .iload_n 2) (len := 1) (p' := 25) (s' := [.int x_2, .ref 66, .int p_3.1]) rfl rfl rfl ?_
  obtain ⟨p_4, G_4, H⟩ := F_bd H
  refine ev_cv (d := d + 2) (As := [.int x_2]) (a := 66) (p' := 28) rfl rfl rfl ly_66 rfl rfl rfl rfl rfl rfl rfl (F_159_ok (d := d + 0)   G_4) ?_
  refine ev_st (st' := [.int p_4.1, .int p_3.1]) rfl ?_
  have e_4 := F_159_R G_4
  refine ev_x (i := .isub) (len := 1) (p' := 29) (s' := [.int (p_3.1 - p_4.1)]) rfl rfl rfl ?_
  refine ev_x (i := .iload_n 3) (len := 1) (p' := 30) (s' := [.int (p_1.1 - p_2.1), .int (p_3.1 - p_4.1)]) rfl rfl rfl ?_
  refine F_jn (A := vz_ev P0 (d + 3) 167 38 [(3, .int (p_1.1 - p_2.1)), (0, .ref 66), (1, .int x_1), (2, .int x_2)] [.int (if (p_3.1 - p_4.1) = (p_1.1 - p_2.1) then 1 else 0 : Int32)] (hp (p_4.2)) (.inl (some (.int p.1)), hp p.2)) ?_ (fun J => ?_)
  · refine ev_x (i := .istore 4) (len := 2) (p' := 40) (s' := []) (l' := [(4, .int (if (p_3.1 - p_4.1) = (p_1.1 - p_2.1) then 1 else 0 : Int32)), (3, .int (p_1.1 - p_2.1)), (0, .ref 66), (1, .int x_1), (2, .int x_2)]) rfl rfl rfl ?_
    refine ev_x (i := .iconst 0) (len := 1) (p' := 41) (s' := [.int 0]) rfl rfl rfl ?_
    refine ev_x (i := .istore 5) (len := 2) (p' := 43) (s' := []) (l' := [(5, .int 0), (4, .int (if (p_3.1 - p_4.1) = (p_1.1 - p_2.1) then 1 else 0 : Int32)), (3, .int (p_1.1 - p_2.1)), (0, .ref 66), (1, .int x_1), (2, .int x_2)]) rfl rfl rfl ?_
    exact (L_167_ok (d := d) hx N) _ _ _ _ _ _ _ _ rfl rfl rfl rfl rfl rfl rfl ((congrFun (congrFun e_4 66) 2).trans ((congrFun (congrFun e_3 66) 2).trans ((congrFun (congrFun e_2 66) 2).trans ((congrFun (congrFun e_1 66) 2).trans hr_66_2)))) H
  · by_cases c_5 : (p_3.1 - p_4.1) = (p_1.1 - p_2.1)
    · refine ev_b2 (t := 37) (p' := 33) rfl rfl rfl (if_neg (fun q => q c_5)) ?_
      refine ev_x (i := .iconst 1) (len := 1) (p' := 34) (s' := [.int 1]) rfl rfl rfl ?_
      refine ev_x (i := .goto 4) (len := 3) (p' := 38) (s' := [.int 1]) rfl rfl rfl ?_
      exact ev_st (congrArg (fun z => Value.int z :: []) (by rw [if_pos c_5])) J
    · refine ev_b2 (t := 37) (p' := 37) rfl rfl rfl (if_pos c_5) ?_
      refine ev_x (i := .iconst 0) (len := 1) (p' := 38) (s' := [.int 0]) rfl rfl rfl ?_
      exact ev_st (congrArg (fun z => Value.int z :: []) (by rw [if_neg c_5])) J
/-- GameTextModel.find(I)I, its loops -/
def L_166 (N : Nat) (x : Nat) : Nat → Int32 → Int32 → Int32 → st_S → Option (Int32 × st_S)
  | 0, _, _, _, _ => none
  | k + 1, l_1, l_2, l_3, σ =>
      if (gI σ 151 1) ≤ l_3 then
        some (l_2, σ)
      else
        (N_139 N 151 l_3 (σ)).bind fun p_2 =>
        (F_167 N x p_2.1 l_1 (p_2.2)).bind fun p_3 =>
        L_166 N x k l_1 (if p_3.1 = 0 then l_2 else l_3 : Int32) (l_3 + 1) (p_3.2)
set_option maxRecDepth 100000 in
theorem L_166_R {N : Nat} {x : Nat} : ∀ (k : Nat) (l_1 : Int32) (l_2 : Int32) (l_3 : Int32) (σ : st_S) (p : Int32 × st_S), L_166 N x k l_1 l_2 l_3 σ = some p → gR p.2 = gR σ := by
  intro k
  induction k with
  | zero => intro l_1 l_2 l_3 σ p H; unfold L_166 at H; cases H
  | succ k ih =>
    intro l_1 l_2 l_3 σ p H
    unfold L_166 at H
    refine F_if H (fun _ H => ?_) (fun _ H => ?_)
    · obtain rfl := Option.some.inj H
      exact rfl
    · obtain ⟨p_2, G_2, H⟩ := F_bd H
      obtain ⟨p_3, G_3, H⟩ := F_bd H
      exact (((ih _ _ _ _ _ H)).trans ((F_167_R G_3).trans ((N_139_R G_2).trans rfl)))
set_option maxHeartbeats 4000000 in
set_option maxRecDepth 100000 in
theorem L_166_ok {N d : Nat} {x : Nat} (hx : x = 67 ∨ x = 69) : ∀ k : Nat, ∀ (l_1 : Int32) (l_2 : Int32) (l_3 : Int32) (σ : st_S) (lv : vz_L) (p : Int32 × st_S), vz_g lv 0 = some (.ref 66) → vz_g lv 1 = some (.int l_1) → vz_g lv 2 = some (.int l_2) → vz_g lv 3 = some (.int l_3) → vz_nbL (vz_gr P0) lv = true → gR σ 66 2 = x → L_166 N x k l_1 l_2 l_3 σ = some p → vz_ev P0 (d + 4) 166 4 lv [] (hp σ) (.inl (some (.int p.1)), hp p.2) := by
  intro k
  induction k with
  | zero => intro l_1 l_2 l_3 σ lv p g_0 g_1 g_2 g_3 hnb hr_66_2 H; unfold L_166 at H; cases H
  | succ k ih =>
    intro l_1 l_2 l_3 σ lv p g_0 g_1 g_2 g_3 hnb hr_66_2 H
    unfold L_166 at H
    refine ev_x (i := .iload_n 3) (len := 1) (p' := 5) (s' := [.int l_3]) rfl rfl (ld_i g_3) ?_
    refine ev_x (i := .aload_n 0) (len := 1) (p' := 6) (s' := [.ref 66, .int l_3]) rfl rfl (ld_a g_0) ?_
    refine ev_gc (p' := 9) (v := 151) rfl rfl rfl ly_66 rfl rfl ?_
    refine ev_gi (p' := 12) (v := (gI σ 151 1)) rfl rfl rfl ly_151 rfl rfl rfl ?_
    refine F_if H (fun c_1 H => ?_) (fun c_1 H => ?_)
    · refine ev_b2 (t := 43) (p' := 43) rfl rfl rfl (if_pos c_1) ?_
      refine ev_x (i := .iload_n 2) (len := 1) (p' := 44) (s' := [.int l_2]) rfl rfl (ld_i g_2) ?_
      obtain rfl := Option.some.inj H
      exact ev_iret rfl rfl rfl rfl
    · refine ev_b2 (t := 43) (p' := 15) rfl rfl rfl (if_neg c_1) ?_
      refine ev_x (i := .aload_n 0) (len := 1) (p' := 16) (s' := [.ref 66]) rfl rfl (ld_a g_0) ?_
      refine ev_x (i := .aload_n 0) (len := 1) (p' := 17) (s' := [.ref 66, .ref 66]) rfl rfl (ld_a g_0) ?_
      refine ev_gc (p' := 20) (v := 151) rfl rfl rfl ly_66 rfl rfl ?_
      refine ev_x (i := .iload_n 3) (len := 1) (p' := 21) (s' := [.int l_3, .ref 151, .ref 66]) rfl rfl (ld_i g_3) ?_
      obtain ⟨p_2, G_2, H⟩ := F_bd H
      refine ev_cv (d := d + 3) (As := [.int l_3]) (a := 151) (p' := 24) rfl rfl rfl ly_151 rfl rfl rfl rfl rfl hnb rfl (N_139_ok (d := d + 2) nm_151 G_2) ?_
      refine ev_st (st' := [.int p_2.1, .ref 66]) rfl ?_
      have e_2 := N_139_R G_2
      refine ev_x (i := .iload_n 1) (len := 1) (p' := 25) (s' := [.int l_1, .int p_2.1, .ref 66]) rfl rfl (ld_i g_1) ?_
      obtain ⟨p_3, G_3, H⟩ := F_bd H
      refine ev_cv (d := d + 3) (As := [.int p_2.1, .int l_1]) (a := 66) (p' := 28) rfl rfl rfl ly_66 rfl rfl rfl rfl rfl hnb rfl (F_167_ok (d := d + 0) (hx := hx) (hr_66_2 := ((congrFun (congrFun e_2 66) 2).trans hr_66_2)) G_3) ?_
      refine ev_st (st' := [.int p_3.1]) rfl ?_
      have e_3 := F_167_R G_3
      refine F_jn (A := vz_ev P0 (d + 4) 166 36 (lv) [.int (if p_3.1 = 0 then l_2 else l_3 : Int32)] (hp (p_3.2)) (.inl (some (.int p.1)), hp p.2)) ?_ (fun J => ?_)
      · refine ev_x (i := .istore_n 2) (len := 1) (p' := 37) (s' := []) (l' := vz_s1 (lv) 2 (.int (if p_3.1 = 0 then l_2 else l_3 : Int32))) rfl rfl rfl ?_
        refine ev_x (i := .iinc 3 1) (len := 3) (p' := 40) (s' := []) (l' := vz_s1 (vz_s1 (lv) 2 (.int (if p_3.1 = 0 then l_2 else l_3 : Int32))) 3 (.int (l_3 + 1))) rfl rfl (ld_inc (vg_o (i := 2) (v := .int (if p_3.1 = 0 then l_2 else l_3 : Int32)) g_3 (by decide) (Or.inl rfl)) rfl) ?_
        refine ev_x (i := .goto (-36)) (len := 3) (p' := 4) (s' := []) rfl rfl rfl ?_
        exact ih _ _ _ _ _ _ (vg_o (i := 3) (v := .int (l_3 + 1)) (vg_o (i := 2) (v := .int (if p_3.1 = 0 then l_2 else l_3 : Int32)) g_0 (by decide) (Or.inl rfl)) (by decide) (Or.inl rfl)) (vg_o (i := 3) (v := .int (l_3 + 1)) (vg_o (i := 2) (v := .int (if p_3.1 = 0 then l_2 else l_3 : Int32)) g_1 (by decide) (Or.inl rfl)) (by decide) (Or.inl rfl)) (vg_o (i := 3) (v := .int (l_3 + 1)) (vg_s (lv) 2 (.int (if p_3.1 = 0 then l_2 else l_3 : Int32))) (by decide) (Or.inl rfl)) (vg_s (vz_s1 (lv) 2 (.int (if p_3.1 = 0 then l_2 else l_3 : Int32))) 3 (.int (l_3 + 1))) (nb_s1 (nb_s1 hnb rfl) rfl) ((congrFun (congrFun e_3 66) 2).trans ((congrFun (congrFun e_2 66) 2).trans hr_66_2)) H
      · by_cases c_4 : p_3.1 = 0
        · refine ev_b0 (t := 35) (p' := 35) rfl rfl rfl (if_pos c_4) ?_
          refine ev_x (i := .iload_n 2) (len := 1) (p' := 36) (s' := [.int l_2]) rfl rfl (ld_i g_2) ?_
          exact ev_st (congrArg (fun z => Value.int z :: []) (by rw [if_pos c_4])) J
        · refine ev_b0 (t := 35) (p' := 31) rfl rfl rfl (if_neg c_4) ?_
          refine ev_x (i := .iload_n 3) (len := 1) (p' := 32) (s' := [.int l_3]) rfl rfl (ld_i g_3) ?_
          refine ev_x (i := .goto 4) (len := 3) (p' := 36) (s' := [.int l_3]) rfl rfl rfl ?_
          exact ev_st (congrArg (fun z => Value.int z :: []) (by rw [if_neg c_4])) J
/-- GameTextModel.find(I)I -/
def F_166 (N : Nat) (x : Nat) (x_1 : Int32) (σ : st_S) : Option (Int32 × st_S) :=
  L_166 N x N x_1 (-1) 0 (σ)
set_option maxRecDepth 100000 in
theorem F_166_R {N : Nat} {x : Nat} {x_1 : Int32} {σ : st_S} {p : Int32 × st_S} (H : F_166 N x x_1 σ = some p) : gR p.2 = gR σ := by
  unfold F_166 at H
  exact (((L_166_R _ _ _ _ _ _ H)).trans rfl)
set_option maxHeartbeats 4000000 in
set_option maxRecDepth 100000 in
theorem F_166_ok {N d : Nat} {x : Nat} (hx : x = 67 ∨ x = 69) {x_1 : Int32} {σ : st_S} {p : Int32 × st_S} (hr_66_2 : gR σ 66 2 = x) (H : F_166 N x x_1 σ = some p) : vz_ev P0 (d + 4) 166 0 (lv_args 0 [.ref 66, .int x_1]) [] (hp σ) (.inl (some (.int p.1)), hp p.2) := by
  unfold F_166 at H
  refine ev_x (i := .iconst (-1)) (len := 1) (p' := 1) (s' := [.int (-1)]) rfl rfl rfl ?_
  refine ev_x (i := .istore_n 2) (len := 1) (p' := 2) (s' := []) (l' := [(2, .int (-1)), (0, .ref 66), (1, .int x_1)]) rfl rfl rfl ?_
  refine ev_x (i := .iconst 0) (len := 1) (p' := 3) (s' := [.int 0]) rfl rfl rfl ?_
  refine ev_x (i := .istore_n 3) (len := 1) (p' := 4) (s' := []) (l' := [(3, .int 0), (2, .int (-1)), (0, .ref 66), (1, .int x_1)]) rfl rfl rfl ?_
  exact (L_166_ok (d := d) hx N) _ _ _ _ _ _ rfl rfl rfl rfl rfl hr_66_2 H
/-- GameTextModel.job(III)V -/
def F_169 (N : Nat) (x_1 : Int32) (x_2 : Int32) (x_3 : Int32) (σ : st_S) : Option (st_S) :=
  (N_133 N 157 x_1 (σ)).bind fun p_1 =>
  (N_133 N 157 x_2 (p_1)).bind fun p_2 =>
  (N_133 N 157 x_3 (p_2)).bind fun p_3 =>
  some (p_3)
set_option maxRecDepth 100000 in
theorem F_169_R {N : Nat} {x_1 : Int32} {x_2 : Int32} {x_3 : Int32} {σ : st_S} {p : st_S} (H : F_169 N x_1 x_2 x_3 σ = some p) : gR p = gR σ := by
  unfold F_169 at H
  obtain ⟨p_1, G_1, H⟩ := F_bd H
  obtain ⟨p_2, G_2, H⟩ := F_bd H
  obtain ⟨p_3, G_3, H⟩ := F_bd H
  obtain rfl := Option.some.inj H
  exact ((N_133_R G_3).trans ((N_133_R G_2).trans ((N_133_R G_1).trans rfl)))
set_option maxHeartbeats 4000000 in
set_option maxRecDepth 100000 in
theorem F_169_ok {N d : Nat} {x_1 : Int32} {x_2 : Int32} {x_3 : Int32} {σ : st_S} {p : st_S}  (H : F_169 N x_1 x_2 x_3 σ = some p) : vz_ev P0 (d + 2) 169 0 (lv_args 0 [.ref 66, .int x_1, .int x_2, .int x_3]) [] (hp σ) (.inl none, hp p) := by
  unfold F_169 at H
  refine ev_x (i := .aload_n 0) (len := 1) (p' := 1) (s' := [.ref 66]) rfl rfl rfl ?_
  refine ev_gc (p' := 4) (v := 157) rfl rfl rfl ly_66 rfl rfl ?_
  refine ev_x (i := .iload_n 1) (len := 1) (p' := 5) (s' := [.int x_1, .ref 157]) rfl rfl rfl ?_
  obtain ⟨p_1, G_1, H⟩ := F_bd H
  refine ev_cv (d := d + 1) (As := [.int x_1]) (a := 157) (p' := 8) rfl rfl rfl ly_157 rfl rfl rfl rfl rfl rfl rfl (N_133_ok (d := d + 0) nm_157 G_1) ?_
  refine ev_st (st' := []) rfl ?_
  have e_1 := N_133_R G_1
  refine ev_x (i := .aload_n 0) (len := 1) (p' := 9) (s' := [.ref 66]) rfl rfl rfl ?_
  refine ev_gc (p' := 12) (v := 157) rfl rfl rfl ly_66 rfl rfl ?_
  refine ev_x (i := .iload_n 2) (len := 1) (p' := 13) (s' := [.int x_2, .ref 157]) rfl rfl rfl ?_
  obtain ⟨p_2, G_2, H⟩ := F_bd H
  refine ev_cv (d := d + 1) (As := [.int x_2]) (a := 157) (p' := 16) rfl rfl rfl ly_157 rfl rfl rfl rfl rfl rfl rfl (N_133_ok (d := d + 0) nm_157 G_2) ?_
  refine ev_st (st' := []) rfl ?_
  have e_2 := N_133_R G_2
  refine ev_x (i := .aload_n 0) (len := 1) (p' := 17) (s' := [.ref 66]) rfl rfl rfl ?_
  refine ev_gc (p' := 20) (v := 157) rfl rfl rfl ly_66 rfl rfl ?_
  refine ev_x (i := .iload_n 3) (len := 1) (p' := 21) (s' := [.int x_3, .ref 157]) rfl rfl rfl ?_
  obtain ⟨p_3, G_3, H⟩ := F_bd H
  refine ev_cv (d := d + 1) (As := [.int x_3]) (a := 157) (p' := 24) rfl rfl rfl ly_157 rfl rfl rfl rfl rfl rfl rfl (N_133_ok (d := d + 0) nm_157 G_3) ?_
  refine ev_st (st' := []) rfl ?_
  have e_3 := N_133_R G_3
  obtain rfl := Option.some.inj H
  exact ev_vret rfl rfl rfl
/-- GameTextModel.isOperand(I)Z -/
def F_173 (N : Nat) (x_1 : Int32) (σ : st_S) : Option (Int32 × st_S) :=
  (F_162 N x_1 (σ)).bind fun p_1 =>
  if p_1.1 = 2 then
    some (1, p_1.2)
  else
    (F_162 N x_1 (p_1.2)).bind fun p_3 =>
    if p_3.1 = 1 then
      some (1, p_3.2)
    else
      (F_162 N x_1 (p_3.2)).bind fun p_5 =>
      if p_5.1 = 12 then
        some (1, p_5.2)
      else
        (F_162 N x_1 (p_5.2)).bind fun p_7 =>
        if p_7.1 = 13 then
          some (1, p_7.2)
        else
          (F_162 N x_1 (p_7.2)).bind fun p_9 =>
          some ((if p_9.1 = 37 then 1 else 0 : Int32), p_9.2)
set_option maxRecDepth 100000 in
theorem F_173_R {N : Nat} {x_1 : Int32} {σ : st_S} {p : Int32 × st_S} (H : F_173 N x_1 σ = some p) : gR p.2 = gR σ := by
  unfold F_173 at H
  obtain ⟨p_1, G_1, H⟩ := F_bd H
  refine F_if H (fun _ H => ?_) (fun _ H => ?_)
  · obtain rfl := Option.some.inj H
    exact ((F_162_R G_1).trans rfl)
  · obtain ⟨p_3, G_3, H⟩ := F_bd H
    refine F_if H (fun _ H => ?_) (fun _ H => ?_)
    · obtain rfl := Option.some.inj H
      exact ((F_162_R G_3).trans ((F_162_R G_1).trans rfl))
    · obtain ⟨p_5, G_5, H⟩ := F_bd H
      refine F_if H (fun _ H => ?_) (fun _ H => ?_)
      · obtain rfl := Option.some.inj H
        exact ((F_162_R G_5).trans ((F_162_R G_3).trans ((F_162_R G_1).trans rfl)))
      · obtain ⟨p_7, G_7, H⟩ := F_bd H
        refine F_if H (fun _ H => ?_) (fun _ H => ?_)
        · obtain rfl := Option.some.inj H
          exact ((F_162_R G_7).trans ((F_162_R G_5).trans ((F_162_R G_3).trans ((F_162_R G_1).trans rfl))))
        · obtain ⟨p_9, G_9, H⟩ := F_bd H
          obtain rfl := Option.some.inj H
          exact ((F_162_R G_9).trans ((F_162_R G_7).trans ((F_162_R G_5).trans ((F_162_R G_3).trans ((F_162_R G_1).trans rfl)))))
set_option maxHeartbeats 4000000 in
set_option maxRecDepth 100000 in
theorem F_173_ok {N d : Nat} {x_1 : Int32} {σ : st_S} {p : Int32 × st_S}  (H : F_173 N x_1 σ = some p) : vz_ev P0 (d + 3) 173 0 (lv_args 0 [.ref 66, .int x_1]) [] (hp σ) (.inl (some (.int p.1)), hp p.2) := by
  unfold F_173 at H
  refine ev_x (i := .aload_n 0) (len := 1) (p' := 1) (s' := [.ref 66]) rfl rfl rfl ?_
  refine ev_x (i := .iload_n 1) (len := 1) (p' := 2) (s' := [.int x_1, .ref 66]) rfl rfl rfl ?_
  obtain ⟨p_1, G_1, H⟩ := F_bd H
  refine ev_cv (d := d + 2) (As := [.int x_1]) (a := 66) (p' := 5) rfl rfl rfl ly_66 rfl rfl rfl rfl rfl rfl rfl (F_162_ok (d := d + 0)   G_1) ?_
  refine ev_st (st' := [.int p_1.1]) rfl ?_
  have e_1 := F_162_R G_1
  refine ev_x (i := .iconst 2) (len := 1) (p' := 6) (s' := [.int 2, .int p_1.1]) rfl rfl rfl ?_
  refine F_if H (fun c_2 H => ?_) (fun c_2 H => ?_)
  · refine ev_b2 (t := 48) (p' := 48) rfl rfl rfl (if_pos c_2) ?_
    refine ev_x (i := .iconst 1) (len := 1) (p' := 49) (s' := [.int 1]) rfl rfl rfl ?_
    refine ev_x (i := .goto 4) (len := 3) (p' := 53) (s' := [.int 1]) rfl rfl rfl ?_
    obtain rfl := Option.some.inj H
    exact ev_iret rfl rfl rfl rfl
  · refine ev_b2 (t := 48) (p' := 9) rfl rfl rfl (if_neg c_2) ?_
    refine ev_x (i := .aload_n 0) (len := 1) (p' := 10) (s' := [.ref 66]) rfl rfl rfl ?_
    refine ev_x (i := .iload_n 1) (len := 1) (p' := 11) (s' := [.int x_1, .ref 66]) rfl rfl rfl ?_
    obtain ⟨p_3, G_3, H⟩ := F_bd H
    refine ev_cv (d := d + 2) (As := [.int x_1]) (a := 66) (p' := 14) rfl rfl rfl ly_66 rfl rfl rfl rfl rfl rfl rfl (F_162_ok (d := d + 0)   G_3) ?_
    refine ev_st (st' := [.int p_3.1]) rfl ?_
    have e_3 := F_162_R G_3
    refine ev_x (i := .iconst 1) (len := 1) (p' := 15) (s' := [.int 1, .int p_3.1]) rfl rfl rfl ?_
    refine F_if H (fun c_4 H => ?_) (fun c_4 H => ?_)
    · refine ev_b2 (t := 48) (p' := 48) rfl rfl rfl (if_pos c_4) ?_
      refine ev_x (i := .iconst 1) (len := 1) (p' := 49) (s' := [.int 1]) rfl rfl rfl ?_
      refine ev_x (i := .goto 4) (len := 3) (p' := 53) (s' := [.int 1]) rfl rfl rfl ?_
      obtain rfl := Option.some.inj H
      exact ev_iret rfl rfl rfl rfl
    · refine ev_b2 (t := 48) (p' := 18) rfl rfl rfl (if_neg c_4) ?_
      refine ev_x (i := .aload_n 0) (len := 1) (p' := 19) (s' := [.ref 66]) rfl rfl rfl ?_
      refine ev_x (i := .iload_n 1) (len := 1) (p' := 20) (s' := [.int x_1, .ref 66]) rfl rfl rfl ?_
      obtain ⟨p_5, G_5, H⟩ := F_bd H
      refine ev_cv (d := d + 2) (As := [.int x_1]) (a := 66) (p' := 23) rfl rfl rfl ly_66 rfl rfl rfl rfl rfl rfl rfl (F_162_ok (d := d + 0)   G_5) ?_
      refine ev_st (st' := [.int p_5.1]) rfl ?_
      have e_5 := F_162_R G_5
      refine ev_x (i := .bipush 12) (len := 2) (p' := 25) (s' := [.int 12, .int p_5.1]) rfl rfl rfl ?_
      refine F_if H (fun c_6 H => ?_) (fun c_6 H => ?_)
      · refine ev_b2 (t := 48) (p' := 48) rfl rfl rfl (if_pos c_6) ?_
        refine ev_x (i := .iconst 1) (len := 1) (p' := 49) (s' := [.int 1]) rfl rfl rfl ?_
        refine ev_x (i := .goto 4) (len := 3) (p' := 53) (s' := [.int 1]) rfl rfl rfl ?_
        obtain rfl := Option.some.inj H
        exact ev_iret rfl rfl rfl rfl
      · refine ev_b2 (t := 48) (p' := 28) rfl rfl rfl (if_neg c_6) ?_
        refine ev_x (i := .aload_n 0) (len := 1) (p' := 29) (s' := [.ref 66]) rfl rfl rfl ?_
        refine ev_x (i := .iload_n 1) (len := 1) (p' := 30) (s' := [.int x_1, .ref 66]) rfl rfl rfl ?_
        obtain ⟨p_7, G_7, H⟩ := F_bd H
        refine ev_cv (d := d + 2) (As := [.int x_1]) (a := 66) (p' := 33) rfl rfl rfl ly_66 rfl rfl rfl rfl rfl rfl rfl (F_162_ok (d := d + 0)   G_7) ?_
        refine ev_st (st' := [.int p_7.1]) rfl ?_
        have e_7 := F_162_R G_7
        refine ev_x (i := .bipush 13) (len := 2) (p' := 35) (s' := [.int 13, .int p_7.1]) rfl rfl rfl ?_
        refine F_if H (fun c_8 H => ?_) (fun c_8 H => ?_)
        · refine ev_b2 (t := 48) (p' := 48) rfl rfl rfl (if_pos c_8) ?_
          refine ev_x (i := .iconst 1) (len := 1) (p' := 49) (s' := [.int 1]) rfl rfl rfl ?_
          refine ev_x (i := .goto 4) (len := 3) (p' := 53) (s' := [.int 1]) rfl rfl rfl ?_
          obtain rfl := Option.some.inj H
          exact ev_iret rfl rfl rfl rfl
        · refine ev_b2 (t := 48) (p' := 38) rfl rfl rfl (if_neg c_8) ?_
          refine ev_x (i := .aload_n 0) (len := 1) (p' := 39) (s' := [.ref 66]) rfl rfl rfl ?_
          refine ev_x (i := .iload_n 1) (len := 1) (p' := 40) (s' := [.int x_1, .ref 66]) rfl rfl rfl ?_
          obtain ⟨p_9, G_9, H⟩ := F_bd H
          refine ev_cv (d := d + 2) (As := [.int x_1]) (a := 66) (p' := 43) rfl rfl rfl ly_66 rfl rfl rfl rfl rfl rfl rfl (F_162_ok (d := d + 0)   G_9) ?_
          refine ev_st (st' := [.int p_9.1]) rfl ?_
          have e_9 := F_162_R G_9
          refine ev_x (i := .bipush 37) (len := 2) (p' := 45) (s' := [.int 37, .int p_9.1]) rfl rfl rfl ?_
          refine F_jn (A := vz_ev P0 (d + 3) 173 53 [(0, .ref 66), (1, .int x_1)] [.int (if p_9.1 = 37 then 1 else 0 : Int32)] (hp (p_9.2)) (.inl (some (.int p.1)), hp p.2)) ?_ (fun J => ?_)
          · obtain rfl := Option.some.inj H
            exact ev_iret rfl rfl rfl (fit_b (by (repeat' split) <;> decide))
          · by_cases c_10 : p_9.1 = 37
            · refine ev_b2 (t := 52) (p' := 48) rfl rfl rfl (if_neg (fun q => q c_10)) ?_
              refine ev_x (i := .iconst 1) (len := 1) (p' := 49) (s' := [.int 1]) rfl rfl rfl ?_
              refine ev_x (i := .goto 4) (len := 3) (p' := 53) (s' := [.int 1]) rfl rfl rfl ?_
              exact ev_st (congrArg (fun z => Value.int z :: []) (by rw [if_pos c_10])) J
            · refine ev_b2 (t := 52) (p' := 52) rfl rfl rfl (if_pos c_10) ?_
              refine ev_x (i := .iconst 0) (len := 1) (p' := 53) (s' := [.int 0]) rfl rfl rfl ?_
              exact ev_st (congrArg (fun z => Value.int z :: []) (by rw [if_neg c_10])) J
/-- GameTextModel.looseness(II)I, from 60 -/
def J_172_60 (N : Nat) (l_1 : Int32) (l_2 : Int32) (σ : st_S) : Option (Int32 × st_S) :=
  if l_1 ≤ l_2 then
    some (0, σ)
  else
    (F_173 N (l_1 - 1) (σ)).bind fun p_13 =>
    some ((if p_13.1 = 0 then 0 else 2 : Int32), p_13.2)
set_option maxRecDepth 100000 in
theorem J_172_60_R {N : Nat} {l_1 : Int32} {l_2 : Int32} {σ : st_S} {p : Int32 × st_S} (H : J_172_60 N l_1 l_2 σ = some p) : gR p.2 = gR σ := by
  unfold J_172_60 at H
  refine F_if H (fun _ H => ?_) (fun _ H => ?_)
  · obtain rfl := Option.some.inj H
    exact rfl
  · obtain ⟨p_13, G_13, H⟩ := F_bd H
    obtain rfl := Option.some.inj H
    exact ((F_173_R G_13).trans rfl)
set_option maxHeartbeats 4000000 in
set_option maxRecDepth 100000 in
theorem J_172_60_ok {N d : Nat} {l_1 : Int32} {l_2 : Int32} {σ : st_S} {lv : vz_L} {p : Int32 × st_S} (g_0 : vz_g lv 0 = some (.ref 66)) (g_1 : vz_g lv 1 = some (.int l_1)) (g_2 : vz_g lv 2 = some (.int l_2)) (hnb : vz_nbL (vz_gr P0) lv = true)  (H : J_172_60 N l_1 l_2 σ = some p) : vz_ev P0 (d + 4) 172 60 lv [] (hp σ) (.inl (some (.int p.1)), hp p.2) := by
  unfold J_172_60 at H
  refine ev_x (i := .iload_n 1) (len := 1) (p' := 61) (s' := [.int l_1]) rfl rfl (ld_i g_1) ?_
  refine ev_x (i := .iload_n 2) (len := 1) (p' := 62) (s' := [.int l_2, .int l_1]) rfl rfl (ld_i g_2) ?_
  refine F_if H (fun c_12 H => ?_) (fun c_12 H => ?_)
  · refine ev_b2 (t := 79) (p' := 79) rfl rfl rfl (if_pos c_12) ?_
    refine ev_x (i := .iconst 0) (len := 1) (p' := 80) (s' := [.int 0]) rfl rfl rfl ?_
    obtain rfl := Option.some.inj H
    exact ev_iret rfl rfl rfl rfl
  · refine ev_b2 (t := 79) (p' := 65) rfl rfl rfl (if_neg c_12) ?_
    refine ev_x (i := .aload_n 0) (len := 1) (p' := 66) (s' := [.ref 66]) rfl rfl (ld_a g_0) ?_
    refine ev_x (i := .iload_n 1) (len := 1) (p' := 67) (s' := [.int l_1, .ref 66]) rfl rfl (ld_i g_1) ?_
    refine ev_x (i := .iconst 1) (len := 1) (p' := 68) (s' := [.int 1, .int l_1, .ref 66]) rfl rfl rfl ?_
    refine ev_x (i := .isub) (len := 1) (p' := 69) (s' := [.int (l_1 - 1), .ref 66]) rfl rfl rfl ?_
    obtain ⟨p_13, G_13, H⟩ := F_bd H
    refine ev_cv (d := d + 3) (As := [.int (l_1 - 1)]) (a := 66) (p' := 72) rfl rfl rfl ly_66 rfl rfl rfl rfl rfl hnb rfl (F_173_ok (d := d + 0)   G_13) ?_
    refine ev_st (st' := [.int p_13.1]) rfl ?_
    have e_13 := F_173_R G_13
    refine F_jn (A := vz_ev P0 (d + 4) 172 80 (lv) [.int (if p_13.1 = 0 then 0 else 2 : Int32)] (hp (p_13.2)) (.inl (some (.int p.1)), hp p.2)) ?_ (fun J => ?_)
    · obtain rfl := Option.some.inj H
      exact ev_iret rfl rfl rfl rfl
    · by_cases c_14 : p_13.1 = 0
      · refine ev_b0 (t := 79) (p' := 79) rfl rfl rfl (if_pos c_14) ?_
        refine ev_x (i := .iconst 0) (len := 1) (p' := 80) (s' := [.int 0]) rfl rfl rfl ?_
        exact ev_st (congrArg (fun z => Value.int z :: []) (by rw [if_pos c_14])) J
      · refine ev_b0 (t := 79) (p' := 75) rfl rfl rfl (if_neg c_14) ?_
        refine ev_x (i := .iconst 2) (len := 1) (p' := 76) (s' := [.int 2]) rfl rfl rfl ?_
        refine ev_x (i := .goto 4) (len := 3) (p' := 80) (s' := [.int 2]) rfl rfl rfl ?_
        exact ev_st (congrArg (fun z => Value.int z :: []) (by rw [if_neg c_14])) J
/-- GameTextModel.looseness(II)I -/
def F_172 (N : Nat) (x_1 : Int32) (x_2 : Int32) (σ : st_S) : Option (Int32 × st_S) :=
  (F_162 N x_1 (σ)).bind fun p_1 =>
  if p_1.1 = 32 then
    some (6, p_1.2)
  else
    if p_1.1 = 30 then
        some (5, p_1.2)
    else
      if p_1.1 = 29 then
          some (4, p_1.2)
      else
        (F_157 N p_1.1 (p_1.2)).bind fun p_5 =>
        if p_5.1 = 0 then
          if p_1.1 = 24 then
            J_172_60 N x_1 x_2 (p_5.2)
          else
            if p_1.1 = 25 then
              J_172_60 N x_1 x_2 (p_5.2)
            else
              some ((if p_1.1 = 26 then 1 else (if p_1.1 = 27 then 1 else (if p_1.1 = 28 then 1 else 0)) : Int32), p_5.2)
        else
          some (3, p_5.2)
set_option maxRecDepth 100000 in
theorem F_172_R {N : Nat} {x_1 : Int32} {x_2 : Int32} {σ : st_S} {p : Int32 × st_S} (H : F_172 N x_1 x_2 σ = some p) : gR p.2 = gR σ := by
  unfold F_172 at H
  obtain ⟨p_1, G_1, H⟩ := F_bd H
  refine F_if H (fun _ H => ?_) (fun _ H => ?_)
  · obtain rfl := Option.some.inj H
    exact ((F_162_R G_1).trans rfl)
  · refine F_if H (fun _ H => ?_) (fun _ H => ?_)
    · obtain rfl := Option.some.inj H
      exact ((F_162_R G_1).trans rfl)
    · refine F_if H (fun _ H => ?_) (fun _ H => ?_)
      · obtain rfl := Option.some.inj H
        exact ((F_162_R G_1).trans rfl)
      · obtain ⟨p_5, G_5, H⟩ := F_bd H
        refine F_if H (fun _ H => ?_) (fun _ H => ?_)
        · refine F_if H (fun _ H => ?_) (fun _ H => ?_)
          · exact (((J_172_60_R H)).trans ((F_157_R G_5).trans ((F_162_R G_1).trans rfl)))
          · refine F_if H (fun _ H => ?_) (fun _ H => ?_)
            · exact (((J_172_60_R H)).trans ((F_157_R G_5).trans ((F_162_R G_1).trans rfl)))
            · obtain rfl := Option.some.inj H
              exact ((F_157_R G_5).trans ((F_162_R G_1).trans rfl))
        · obtain rfl := Option.some.inj H
          exact ((F_157_R G_5).trans ((F_162_R G_1).trans rfl))
set_option maxHeartbeats 4000000 in
set_option maxRecDepth 100000 in
theorem F_172_ok {N d : Nat} {x_1 : Int32} {x_2 : Int32} {σ : st_S} {p : Int32 × st_S}  (H : F_172 N x_1 x_2 σ = some p) : vz_ev P0 (d + 4) 172 0 (lv_args 0 [.ref 66, .int x_1, .int x_2]) [] (hp σ) (.inl (some (.int p.1)), hp p.2) := by
  unfold F_172 at H
  refine ev_x (i := .aload_n 0) (len := 1) (p' := 1) (s' := [.ref 66]) rfl rfl rfl ?_
  refine ev_x (i := .iload_n 1) (len := 1) (p' := 2) (s' := [.int x_1, .ref 66]) rfl rfl rfl ?_
  obtain ⟨p_1, G_1, H⟩ := F_bd H
  refine ev_cv (d := d + 3) (As := [.int x_1]) (a := 66) (p' := 5) rfl rfl rfl ly_66 rfl rfl rfl rfl rfl rfl rfl (F_162_ok (d := d + 1)   G_1) ?_
  refine ev_st (st' := [.int p_1.1]) rfl ?_
  have e_1 := F_162_R G_1
  refine ev_x (i := .istore_n 3) (len := 1) (p' := 6) (s' := []) (l' := [(3, .int p_1.1), (0, .ref 66), (1, .int x_1), (2, .int x_2)]) rfl rfl rfl ?_
  refine ev_x (i := .iload_n 3) (len := 1) (p' := 7) (s' := [.int p_1.1]) rfl rfl rfl ?_
  refine ev_x (i := .bipush 32) (len := 2) (p' := 9) (s' := [.int 32, .int p_1.1]) rfl rfl rfl ?_
  refine F_if H (fun c_2 H => ?_) (fun c_2 H => ?_)
  · refine ev_b2 (t := 15) (p' := 12) rfl rfl rfl (if_neg (fun q => q c_2)) ?_
    refine ev_x (i := .bipush 6) (len := 2) (p' := 14) (s' := [.int 6]) rfl rfl rfl ?_
    obtain rfl := Option.some.inj H
    exact ev_iret rfl rfl rfl rfl
  · refine ev_b2 (t := 15) (p' := 15) rfl rfl rfl (if_pos c_2) ?_
    refine ev_x (i := .iload_n 3) (len := 1) (p' := 16) (s' := [.int p_1.1]) rfl rfl rfl ?_
    refine ev_x (i := .bipush 30) (len := 2) (p' := 18) (s' := [.int 30, .int p_1.1]) rfl rfl rfl ?_
    refine F_if H (fun c_3 H => ?_) (fun c_3 H => ?_)
    · refine ev_b2 (t := 27) (p' := 27) rfl rfl rfl (if_pos c_3) ?_
      refine ev_x (i := .iload_n 3) (len := 1) (p' := 28) (s' := [.int p_1.1]) rfl rfl rfl ?_
      refine ev_x (i := .bipush 30) (len := 2) (p' := 30) (s' := [.int 30, .int p_1.1]) rfl rfl rfl ?_
      refine ev_b2 (t := 37) (p' := 33) rfl rfl rfl (if_neg (fun q => q c_3)) ?_
      refine ev_x (i := .iconst 5) (len := 1) (p' := 34) (s' := [.int 5]) rfl rfl rfl ?_
      refine ev_x (i := .goto 4) (len := 3) (p' := 38) (s' := [.int 5]) rfl rfl rfl ?_
      obtain rfl := Option.some.inj H
      exact ev_iret rfl rfl rfl rfl
    · refine ev_b2 (t := 27) (p' := 21) rfl rfl rfl (if_neg c_3) ?_
      refine ev_x (i := .iload_n 3) (len := 1) (p' := 22) (s' := [.int p_1.1]) rfl rfl rfl ?_
      refine ev_x (i := .bipush 29) (len := 2) (p' := 24) (s' := [.int 29, .int p_1.1]) rfl rfl rfl ?_
      refine F_if H (fun c_4 H => ?_) (fun c_4 H => ?_)
      · refine ev_b2 (t := 39) (p' := 27) rfl rfl rfl (if_neg (fun q => q c_4)) ?_
        refine ev_x (i := .iload_n 3) (len := 1) (p' := 28) (s' := [.int p_1.1]) rfl rfl rfl ?_
        refine ev_x (i := .bipush 30) (len := 2) (p' := 30) (s' := [.int 30, .int p_1.1]) rfl rfl rfl ?_
        refine ev_b2 (t := 37) (p' := 37) rfl rfl rfl (if_pos c_3) ?_
        refine ev_x (i := .iconst 4) (len := 1) (p' := 38) (s' := [.int 4]) rfl rfl rfl ?_
        obtain rfl := Option.some.inj H
        exact ev_iret rfl rfl rfl rfl
      · refine ev_b2 (t := 39) (p' := 39) rfl rfl rfl (if_pos c_4) ?_
        refine ev_x (i := .iload_n 3) (len := 1) (p' := 40) (s' := [.int p_1.1]) rfl rfl rfl ?_
        obtain ⟨p_5, G_5, H⟩ := F_bd H
        refine ev_callS (d := d + 3) (As := [.int p_1.1]) rfl rfl rfl (by decide) rfl rfl rfl rfl rfl (F_157_ok (d := d + 2)   G_5) ?_
        refine ev_st (st' := [.int p_5.1]) rfl ?_
        refine ev_pc (pc' := 43) rfl ?_
        have e_5 := F_157_R G_5
        refine F_if H (fun c_6 H => ?_) (fun c_6 H => ?_)
        · refine ev_b0 (t := 48) (p' := 48) rfl rfl rfl (if_pos c_6) ?_
          refine ev_x (i := .iload_n 3) (len := 1) (p' := 49) (s' := [.int p_1.1]) rfl rfl rfl ?_
          refine ev_x (i := .bipush 24) (len := 2) (p' := 51) (s' := [.int 24, .int p_1.1]) rfl rfl rfl ?_
          refine F_if H (fun c_7 H => ?_) (fun c_7 H => ?_)
          · refine ev_b2 (t := 60) (p' := 60) rfl rfl rfl (if_pos c_7) ?_
            exact J_172_60_ok (d := d) rfl rfl rfl rfl  H
          · refine ev_b2 (t := 60) (p' := 54) rfl rfl rfl (if_neg c_7) ?_
            refine ev_x (i := .iload_n 3) (len := 1) (p' := 55) (s' := [.int p_1.1]) rfl rfl rfl ?_
            refine ev_x (i := .bipush 25) (len := 2) (p' := 57) (s' := [.int 25, .int p_1.1]) rfl rfl rfl ?_
            refine F_if H (fun c_8 H => ?_) (fun c_8 H => ?_)
            · refine ev_b2 (t := 81) (p' := 60) rfl rfl rfl (if_neg (fun q => q c_8)) ?_
              exact J_172_60_ok (d := d) rfl rfl rfl rfl  H
            · refine ev_b2 (t := 81) (p' := 81) rfl rfl rfl (if_pos c_8) ?_
              refine ev_x (i := .iload_n 3) (len := 1) (p' := 82) (s' := [.int p_1.1]) rfl rfl rfl ?_
              refine ev_x (i := .bipush 26) (len := 2) (p' := 84) (s' := [.int 26, .int p_1.1]) rfl rfl rfl ?_
              refine F_jn (A := vz_ev P0 (d + 4) 172 104 [(3, .int p_1.1), (0, .ref 66), (1, .int x_1), (2, .int x_2)] [.int (if p_1.1 = 26 then 1 else (if p_1.1 = 27 then 1 else (if p_1.1 = 28 then 1 else 0)) : Int32)] (hp (p_5.2)) (.inl (some (.int p.1)), hp p.2)) ?_ (fun J => ?_)
              · obtain rfl := Option.some.inj H
                exact ev_iret rfl rfl rfl rfl
              · by_cases c_9 : p_1.1 = 26
                · refine ev_b2 (t := 99) (p' := 99) rfl rfl rfl (if_pos c_9) ?_
                  refine ev_x (i := .iconst 1) (len := 1) (p' := 100) (s' := [.int 1]) rfl rfl rfl ?_
                  refine ev_x (i := .goto 4) (len := 3) (p' := 104) (s' := [.int 1]) rfl rfl rfl ?_
                  exact ev_st (congrArg (fun z => Value.int z :: []) (by rw [if_pos c_9])) J
                · refine ev_b2 (t := 99) (p' := 87) rfl rfl rfl (if_neg c_9) ?_
                  refine ev_x (i := .iload_n 3) (len := 1) (p' := 88) (s' := [.int p_1.1]) rfl rfl rfl ?_
                  refine ev_x (i := .bipush 27) (len := 2) (p' := 90) (s' := [.int 27, .int p_1.1]) rfl rfl rfl ?_
                  by_cases c_10 : p_1.1 = 27
                  · refine ev_b2 (t := 99) (p' := 99) rfl rfl rfl (if_pos c_10) ?_
                    refine ev_x (i := .iconst 1) (len := 1) (p' := 100) (s' := [.int 1]) rfl rfl rfl ?_
                    refine ev_x (i := .goto 4) (len := 3) (p' := 104) (s' := [.int 1]) rfl rfl rfl ?_
                    exact ev_st (congrArg (fun z => Value.int z :: []) (by rw [if_neg c_9, if_pos c_10])) J
                  · refine ev_b2 (t := 99) (p' := 93) rfl rfl rfl (if_neg c_10) ?_
                    refine ev_x (i := .iload_n 3) (len := 1) (p' := 94) (s' := [.int p_1.1]) rfl rfl rfl ?_
                    refine ev_x (i := .bipush 28) (len := 2) (p' := 96) (s' := [.int 28, .int p_1.1]) rfl rfl rfl ?_
                    by_cases c_11 : p_1.1 = 28
                    · refine ev_b2 (t := 103) (p' := 99) rfl rfl rfl (if_neg (fun q => q c_11)) ?_
                      refine ev_x (i := .iconst 1) (len := 1) (p' := 100) (s' := [.int 1]) rfl rfl rfl ?_
                      refine ev_x (i := .goto 4) (len := 3) (p' := 104) (s' := [.int 1]) rfl rfl rfl ?_
                      exact ev_st (congrArg (fun z => Value.int z :: []) (by rw [if_neg c_9, if_neg c_10, if_pos c_11])) J
                    · refine ev_b2 (t := 103) (p' := 103) rfl rfl rfl (if_pos c_11) ?_
                      refine ev_x (i := .iconst 0) (len := 1) (p' := 104) (s' := [.int 0]) rfl rfl rfl ?_
                      exact ev_st (congrArg (fun z => Value.int z :: []) (by rw [if_neg c_9, if_neg c_10, if_neg c_11])) J
        · refine ev_b0 (t := 48) (p' := 46) rfl rfl rfl (if_neg c_6) ?_
          refine ev_x (i := .iconst 3) (len := 1) (p' := 47) (s' := [.int 3]) rfl rfl rfl ?_
          obtain rfl := Option.some.inj H
          exact ev_iret rfl rfl rfl rfl
/-- GameTextModel.loosest(II)I, its loops -/
def L_171 (N : Nat) : Nat → Int32 → Int32 → Int32 → Int32 → Int32 → Int32 → st_S → Option (Int32 × st_S)
  | 0, _, _, _, _, _, _, _ => none
  | k + 1, l_1, l_2, l_3, l_4, l_5, l_6, σ =>
      if l_2 ≤ l_6 then
        (F_162 N l_1 (σ)).bind fun p_2 =>
        some ((if p_2.1 = 31 then (if 4 ≤ l_4 then l_3 else (-1)) else l_3 : Int32), p_2.2)
      else
        (F_162 N l_6 (σ)).bind fun p_5 =>
        if (if p_5.1 = 37 then (l_5 - 1) else l_5 : Int32) = 0 then
          (F_172 N l_6 l_1 (p_5.2)).bind fun p_8 =>
          if l_4 < p_8.1 then
            (F_162 N l_6 (p_8.2)).bind fun p_10 =>
            L_171 N k l_1 l_2 l_6 p_8.1 (if p_10.1 = 36 then ((if p_5.1 = 37 then (l_5 - 1) else l_5 : Int32) + 1) else (if p_5.1 = 37 then (l_5 - 1) else l_5 : Int32) : Int32) (l_6 + 1) (p_10.2)
          else
            if p_8.1 ≤ 0 then
              (F_162 N l_6 (p_8.2)).bind fun p_13 =>
              L_171 N k l_1 l_2 l_3 l_4 (if p_13.1 = 36 then ((if p_5.1 = 37 then (l_5 - 1) else l_5 : Int32) + 1) else (if p_5.1 = 37 then (l_5 - 1) else l_5 : Int32) : Int32) (l_6 + 1) (p_13.2)
            else
              if p_8.1 = l_4 then
                if 6 ≤ p_8.1 then
                  (F_162 N l_6 (p_8.2)).bind fun p_17 =>
                  L_171 N k l_1 l_2 l_3 l_4 (if p_17.1 = 36 then ((if p_5.1 = 37 then (l_5 - 1) else l_5 : Int32) + 1) else (if p_5.1 = 37 then (l_5 - 1) else l_5 : Int32) : Int32) (l_6 + 1) (p_17.2)
                else
                  (F_162 N l_6 (p_8.2)).bind fun p_19 =>
                  L_171 N k l_1 l_2 l_6 p_8.1 (if p_19.1 = 36 then ((if p_5.1 = 37 then (l_5 - 1) else l_5 : Int32) + 1) else (if p_5.1 = 37 then (l_5 - 1) else l_5 : Int32) : Int32) (l_6 + 1) (p_19.2)
              else
                (F_162 N l_6 (p_8.2)).bind fun p_21 =>
                L_171 N k l_1 l_2 l_3 l_4 (if p_21.1 = 36 then ((if p_5.1 = 37 then (l_5 - 1) else l_5 : Int32) + 1) else (if p_5.1 = 37 then (l_5 - 1) else l_5 : Int32) : Int32) (l_6 + 1) (p_21.2)
        else
          if l_4 < (0 : Int32) then
            (F_162 N l_6 (p_5.2)).bind fun p_24 =>
            L_171 N k l_1 l_2 l_6 0 (if p_24.1 = 36 then ((if p_5.1 = 37 then (l_5 - 1) else l_5 : Int32) + 1) else (if p_5.1 = 37 then (l_5 - 1) else l_5 : Int32) : Int32) (l_6 + 1) (p_24.2)
          else
            (F_162 N l_6 (p_5.2)).bind fun p_26 =>
            L_171 N k l_1 l_2 l_3 l_4 (if p_26.1 = 36 then ((if p_5.1 = 37 then (l_5 - 1) else l_5 : Int32) + 1) else (if p_5.1 = 37 then (l_5 - 1) else l_5 : Int32) : Int32) (l_6 + 1) (p_26.2)
set_option maxRecDepth 100000 in
theorem L_171_R {N : Nat} : ∀ (k : Nat) (l_1 : Int32) (l_2 : Int32) (l_3 : Int32) (l_4 : Int32) (l_5 : Int32) (l_6 : Int32) (σ : st_S) (p : Int32 × st_S), L_171 N k l_1 l_2 l_3 l_4 l_5 l_6 σ = some p → gR p.2 = gR σ := by
  intro k
  induction k with
  | zero => intro l_1 l_2 l_3 l_4 l_5 l_6 σ p H; unfold L_171 at H; cases H
  | succ k ih =>
    intro l_1 l_2 l_3 l_4 l_5 l_6 σ p H
    unfold L_171 at H
    refine F_if H (fun _ H => ?_) (fun _ H => ?_)
    · obtain ⟨p_2, G_2, H⟩ := F_bd H
      obtain rfl := Option.some.inj H
      exact ((F_162_R G_2).trans rfl)
    · obtain ⟨p_5, G_5, H⟩ := F_bd H
      refine F_if H (fun _ H => ?_) (fun _ H => ?_)
      · obtain ⟨p_8, G_8, H⟩ := F_bd H
        refine F_if H (fun _ H => ?_) (fun _ H => ?_)
        · obtain ⟨p_10, G_10, H⟩ := F_bd H
          exact (((ih _ _ _ _ _ _ _ _ H)).trans ((F_162_R G_10).trans ((F_172_R G_8).trans ((F_162_R G_5).trans rfl))))
        · refine F_if H (fun _ H => ?_) (fun _ H => ?_)
          · obtain ⟨p_13, G_13, H⟩ := F_bd H
            exact (((ih _ _ _ _ _ _ _ _ H)).trans ((F_162_R G_13).trans ((F_172_R G_8).trans ((F_162_R G_5).trans rfl))))
          · refine F_if H (fun _ H => ?_) (fun _ H => ?_)
            · refine F_if H (fun _ H => ?_) (fun _ H => ?_)
              · obtain ⟨p_17, G_17, H⟩ := F_bd H
                exact (((ih _ _ _ _ _ _ _ _ H)).trans ((F_162_R G_17).trans ((F_172_R G_8).trans ((F_162_R G_5).trans rfl))))
              · obtain ⟨p_19, G_19, H⟩ := F_bd H
                exact (((ih _ _ _ _ _ _ _ _ H)).trans ((F_162_R G_19).trans ((F_172_R G_8).trans ((F_162_R G_5).trans rfl))))
            · obtain ⟨p_21, G_21, H⟩ := F_bd H
              exact (((ih _ _ _ _ _ _ _ _ H)).trans ((F_162_R G_21).trans ((F_172_R G_8).trans ((F_162_R G_5).trans rfl))))
      · refine F_if H (fun _ H => ?_) (fun _ H => ?_)
        · obtain ⟨p_24, G_24, H⟩ := F_bd H
          exact (((ih _ _ _ _ _ _ _ _ H)).trans ((F_162_R G_24).trans ((F_162_R G_5).trans rfl)))
        · obtain ⟨p_26, G_26, H⟩ := F_bd H
          exact (((ih _ _ _ _ _ _ _ _ H)).trans ((F_162_R G_26).trans ((F_162_R G_5).trans rfl)))
set_option maxHeartbeats 4000000 in
set_option maxRecDepth 100000 in
theorem L_171_ok {N d : Nat} : ∀ k : Nat, ∀ (l_1 : Int32) (l_2 : Int32) (l_3 : Int32) (l_4 : Int32) (l_5 : Int32) (l_6 : Int32) (σ : st_S) (lv : vz_L) (p : Int32 × st_S), vz_g lv 0 = some (.ref 66) → vz_g lv 1 = some (.int l_1) → vz_g lv 2 = some (.int l_2) → vz_g lv 3 = some (.int l_3) → vz_g lv 4 = some (.int l_4) → vz_g lv 5 = some (.int l_5) → vz_g lv 6 = some (.int l_6) → vz_nbL (vz_gr P0) lv = true → L_171 N k l_1 l_2 l_3 l_4 l_5 l_6 σ = some p → vz_ev P0 (d + 5) 171 11 lv [] (hp σ) (.inl (some (.int p.1)), hp p.2) := by
  intro k
  induction k with
  | zero => intro l_1 l_2 l_3 l_4 l_5 l_6 σ lv p g_0 g_1 g_2 g_3 g_4 g_5 g_6 hnb H; unfold L_171 at H; cases H
  | succ k ih =>
    intro l_1 l_2 l_3 l_4 l_5 l_6 σ lv p g_0 g_1 g_2 g_3 g_4 g_5 g_6 hnb H
    unfold L_171 at H
    refine ev_x (i := .iload 6) (len := 2) (p' := 13) (s' := [.int l_6]) rfl rfl (ld_i g_6) ?_
    refine ev_x (i := .iload_n 2) (len := 1) (p' := 14) (s' := [.int l_2, .int l_6]) rfl rfl (ld_i g_2) ?_
    refine F_if H (fun c_1 H => ?_) (fun c_1 H => ?_)
    · refine ev_b2 (t := 118) (p' := 118) rfl rfl rfl (if_pos c_1) ?_
      refine ev_x (i := .aload_n 0) (len := 1) (p' := 119) (s' := [.ref 66]) rfl rfl (ld_a g_0) ?_
      refine ev_x (i := .iload_n 1) (len := 1) (p' := 120) (s' := [.int l_1, .ref 66]) rfl rfl (ld_i g_1) ?_
      obtain ⟨p_2, G_2, H⟩ := F_bd H
      refine ev_cv (d := d + 4) (As := [.int l_1]) (a := 66) (p' := 123) rfl rfl rfl ly_66 rfl rfl rfl rfl rfl hnb rfl (F_162_ok (d := d + 2)   G_2) ?_
      refine ev_st (st' := [.int p_2.1]) rfl ?_
      have e_2 := F_162_R G_2
      refine ev_x (i := .bipush 31) (len := 2) (p' := 125) (s' := [.int 31, .int p_2.1]) rfl rfl rfl ?_
      refine F_jn (A := vz_ev P0 (d + 5) 171 139 (lv) [.int (if p_2.1 = 31 then (if 4 ≤ l_4 then l_3 else (-1)) else l_3 : Int32)] (hp (p_2.2)) (.inl (some (.int p.1)), hp p.2)) ?_ (fun J => ?_)
      · obtain rfl := Option.some.inj H
        exact ev_iret rfl rfl rfl rfl
      · by_cases c_3 : p_2.1 = 31
        · refine ev_b2 (t := 138) (p' := 128) rfl rfl rfl (if_neg (fun q => q c_3)) ?_
          refine ev_x (i := .iload 4) (len := 2) (p' := 130) (s' := [.int l_4]) rfl rfl (ld_i g_4) ?_
          refine ev_x (i := .iconst 4) (len := 1) (p' := 131) (s' := [.int 4, .int l_4]) rfl rfl rfl ?_
          by_cases c_4 : 4 ≤ l_4
          · refine ev_b2 (t := 138) (p' := 138) rfl rfl rfl (if_pos c_4) ?_
            refine ev_x (i := .iload_n 3) (len := 1) (p' := 139) (s' := [.int l_3]) rfl rfl (ld_i g_3) ?_
            exact ev_st (congrArg (fun z => Value.int z :: []) (by rw [if_pos c_3, if_pos c_4])) J
          · refine ev_b2 (t := 138) (p' := 134) rfl rfl rfl (if_neg c_4) ?_
            refine ev_x (i := .iconst (-1)) (len := 1) (p' := 135) (s' := [.int (-1)]) rfl rfl rfl ?_
            refine ev_x (i := .goto 4) (len := 3) (p' := 139) (s' := [.int (-1)]) rfl rfl rfl ?_
            exact ev_st (congrArg (fun z => Value.int z :: []) (by rw [if_pos c_3, if_neg c_4])) J
        · refine ev_b2 (t := 138) (p' := 138) rfl rfl rfl (if_pos c_3) ?_
          refine ev_x (i := .iload_n 3) (len := 1) (p' := 139) (s' := [.int l_3]) rfl rfl (ld_i g_3) ?_
          exact ev_st (congrArg (fun z => Value.int z :: []) (by rw [if_neg c_3])) J
    · refine ev_b2 (t := 118) (p' := 17) rfl rfl rfl (if_neg c_1) ?_
      refine ev_x (i := .aload_n 0) (len := 1) (p' := 18) (s' := [.ref 66]) rfl rfl (ld_a g_0) ?_
      refine ev_x (i := .iload 6) (len := 2) (p' := 20) (s' := [.int l_6, .ref 66]) rfl rfl (ld_i g_6) ?_
      obtain ⟨p_5, G_5, H⟩ := F_bd H
      refine ev_cv (d := d + 4) (As := [.int l_6]) (a := 66) (p' := 23) rfl rfl rfl ly_66 rfl rfl rfl rfl rfl hnb rfl (F_162_ok (d := d + 2)   G_5) ?_
      refine ev_st (st' := [.int p_5.1]) rfl ?_
      have e_5 := F_162_R G_5
      refine ev_x (i := .bipush 37) (len := 2) (p' := 25) (s' := [.int 37, .int p_5.1]) rfl rfl rfl ?_
      refine F_jn (A := vz_ev P0 (d + 5) 171 37 (lv) [.int (if p_5.1 = 37 then (l_5 - 1) else l_5 : Int32)] (hp (p_5.2)) (.inl (some (.int p.1)), hp p.2)) ?_ (fun J => ?_)
      · refine ev_x (i := .istore 5) (len := 2) (p' := 39) (s' := []) (l' := vz_s1 (lv) 5 (.int (if p_5.1 = 37 then (l_5 - 1) else l_5 : Int32))) rfl rfl rfl ?_
        refine ev_x (i := .iload 5) (len := 2) (p' := 41) (s' := [.int (if p_5.1 = 37 then (l_5 - 1) else l_5 : Int32)]) rfl rfl (ld_i (vg_s (lv) 5 (.int (if p_5.1 = 37 then (l_5 - 1) else l_5 : Int32)))) ?_
        refine F_if H (fun c_7 H => ?_) (fun c_7 H => ?_)
        · refine ev_b0 (t := 54) (p' := 44) rfl rfl rfl (if_neg (fun q => q c_7)) ?_
          refine ev_x (i := .aload_n 0) (len := 1) (p' := 45) (s' := [.ref 66]) rfl rfl (ld_a (vg_o (i := 5) (v := .int (if p_5.1 = 37 then (l_5 - 1) else l_5 : Int32)) g_0 (by decide) (Or.inl rfl))) ?_
          refine ev_x (i := .iload 6) (len := 2) (p' := 47) (s' := [.int l_6, .ref 66]) rfl rfl (ld_i (vg_o (i := 5) (v := .int (if p_5.1 = 37 then (l_5 - 1) else l_5 : Int32)) g_6 (by decide) (Or.inl rfl))) ?_
          refine ev_x (i := .iload_n 1) (len := 1) (p' := 48) (s' := [.int l_1, .int l_6, .ref 66]) rfl rfl (ld_i (vg_o (i := 5) (v := .int (if p_5.1 = 37 then (l_5 - 1) else l_5 : Int32)) g_1 (by decide) (Or.inl rfl))) ?_
          obtain ⟨p_8, G_8, H⟩ := F_bd H
          refine ev_cv (d := d + 4) (As := [.int l_6, .int l_1]) (a := 66) (p' := 51) rfl rfl rfl ly_66 rfl rfl rfl rfl rfl (nb_s1 hnb rfl) rfl (F_172_ok (d := d + 0)   G_8) ?_
          refine ev_st (st' := [.int p_8.1]) rfl ?_
          have e_8 := F_172_R G_8
          refine ev_x (i := .goto 4) (len := 3) (p' := 55) (s' := [.int p_8.1]) rfl rfl rfl ?_
          refine ev_x (i := .istore 7) (len := 2) (p' := 57) (s' := []) (l' := vz_s1 (vz_s1 (lv) 5 (.int (if p_5.1 = 37 then (l_5 - 1) else l_5 : Int32))) 7 (.int p_8.1)) rfl rfl rfl ?_
          refine ev_x (i := .iload 7) (len := 2) (p' := 59) (s' := [.int p_8.1]) rfl rfl (ld_i (vg_s (vz_s1 (lv) 5 (.int (if p_5.1 = 37 then (l_5 - 1) else l_5 : Int32))) 7 (.int p_8.1))) ?_
          refine ev_x (i := .iload 4) (len := 2) (p' := 61) (s' := [.int l_4, .int p_8.1]) rfl rfl (ld_i (vg_o (i := 7) (v := .int p_8.1) (vg_o (i := 5) (v := .int (if p_5.1 = 37 then (l_5 - 1) else l_5 : Int32)) g_4 (by decide) (Or.inl rfl)) (by decide) (Or.inl rfl))) ?_
          refine F_if H (fun c_9 H => ?_) (fun c_9 H => ?_)
          · refine ev_b2 (t := 83) (p' := 83) rfl rfl rfl (if_pos c_9) ?_
            refine ev_x (i := .iload 7) (len := 2) (p' := 85) (s' := [.int p_8.1]) rfl rfl (ld_i (vg_s (vz_s1 (lv) 5 (.int (if p_5.1 = 37 then (l_5 - 1) else l_5 : Int32))) 7 (.int p_8.1))) ?_
            refine ev_x (i := .istore 4) (len := 2) (p' := 87) (s' := []) (l' := vz_s1 (vz_s1 (vz_s1 (lv) 5 (.int (if p_5.1 = 37 then (l_5 - 1) else l_5 : Int32))) 7 (.int p_8.1)) 4 (.int p_8.1)) rfl rfl rfl ?_
            refine ev_x (i := .iload 6) (len := 2) (p' := 89) (s' := [.int l_6]) rfl rfl (ld_i (vg_o (i := 4) (v := .int p_8.1) (vg_o (i := 7) (v := .int p_8.1) (vg_o (i := 5) (v := .int (if p_5.1 = 37 then (l_5 - 1) else l_5 : Int32)) g_6 (by decide) (Or.inl rfl)) (by decide) (Or.inl rfl)) (by decide) (Or.inl rfl))) ?_
            refine ev_x (i := .istore_n 3) (len := 1) (p' := 90) (s' := []) (l' := vz_s1 (vz_s1 (vz_s1 (vz_s1 (lv) 5 (.int (if p_5.1 = 37 then (l_5 - 1) else l_5 : Int32))) 7 (.int p_8.1)) 4 (.int p_8.1)) 3 (.int l_6)) rfl rfl rfl ?_
            refine ev_x (i := .aload_n 0) (len := 1) (p' := 91) (s' := [.ref 66]) rfl rfl (ld_a (vg_o (i := 3) (v := .int l_6) (vg_o (i := 4) (v := .int p_8.1) (vg_o (i := 7) (v := .int p_8.1) (vg_o (i := 5) (v := .int (if p_5.1 = 37 then (l_5 - 1) else l_5 : Int32)) g_0 (by decide) (Or.inl rfl)) (by decide) (Or.inl rfl)) (by decide) (Or.inl rfl)) (by decide) (Or.inl rfl))) ?_
            refine ev_x (i := .iload 6) (len := 2) (p' := 93) (s' := [.int l_6, .ref 66]) rfl rfl (ld_i (vg_o (i := 3) (v := .int l_6) (vg_o (i := 4) (v := .int p_8.1) (vg_o (i := 7) (v := .int p_8.1) (vg_o (i := 5) (v := .int (if p_5.1 = 37 then (l_5 - 1) else l_5 : Int32)) g_6 (by decide) (Or.inl rfl)) (by decide) (Or.inl rfl)) (by decide) (Or.inl rfl)) (by decide) (Or.inl rfl))) ?_
            obtain ⟨p_10, G_10, H⟩ := F_bd H
            refine ev_cv (d := d + 4) (As := [.int l_6]) (a := 66) (p' := 96) rfl rfl rfl ly_66 rfl rfl rfl rfl rfl (nb_s1 (nb_s1 (nb_s1 (nb_s1 hnb rfl) rfl) rfl) rfl) rfl (F_162_ok (d := d + 2)   G_10) ?_
            refine ev_st (st' := [.int p_10.1]) rfl ?_
            have e_10 := F_162_R G_10
            refine ev_x (i := .bipush 36) (len := 2) (p' := 98) (s' := [.int 36, .int p_10.1]) rfl rfl rfl ?_
            refine F_jn (A := vz_ev P0 (d + 5) 171 110 (vz_s1 (vz_s1 (vz_s1 (vz_s1 (lv) 5 (.int (if p_5.1 = 37 then (l_5 - 1) else l_5 : Int32))) 7 (.int p_8.1)) 4 (.int p_8.1)) 3 (.int l_6)) [.int (if p_10.1 = 36 then ((if p_5.1 = 37 then (l_5 - 1) else l_5 : Int32) + 1) else (if p_5.1 = 37 then (l_5 - 1) else l_5 : Int32) : Int32)] (hp (p_10.2)) (.inl (some (.int p.1)), hp p.2)) ?_ (fun J => ?_)
            · refine ev_x (i := .istore 5) (len := 2) (p' := 112) (s' := []) (l' := vz_s1 (vz_s1 (vz_s1 (vz_s1 (vz_s1 (lv) 5 (.int (if p_5.1 = 37 then (l_5 - 1) else l_5 : Int32))) 7 (.int p_8.1)) 4 (.int p_8.1)) 3 (.int l_6)) 5 (.int (if p_10.1 = 36 then ((if p_5.1 = 37 then (l_5 - 1) else l_5 : Int32) + 1) else (if p_5.1 = 37 then (l_5 - 1) else l_5 : Int32) : Int32))) rfl rfl rfl ?_
              refine ev_x (i := .iinc 6 1) (len := 3) (p' := 115) (s' := []) (l' := vz_s1 (vz_s1 (vz_s1 (vz_s1 (vz_s1 (vz_s1 (lv) 5 (.int (if p_5.1 = 37 then (l_5 - 1) else l_5 : Int32))) 7 (.int p_8.1)) 4 (.int p_8.1)) 3 (.int l_6)) 5 (.int (if p_10.1 = 36 then ((if p_5.1 = 37 then (l_5 - 1) else l_5 : Int32) + 1) else (if p_5.1 = 37 then (l_5 - 1) else l_5 : Int32) : Int32))) 6 (.int (l_6 + 1))) rfl rfl (ld_inc (vg_o (i := 5) (v := .int (if p_10.1 = 36 then ((if p_5.1 = 37 then (l_5 - 1) else l_5 : Int32) + 1) else (if p_5.1 = 37 then (l_5 - 1) else l_5 : Int32) : Int32)) (vg_o (i := 3) (v := .int l_6) (vg_o (i := 4) (v := .int p_8.1) (vg_o (i := 7) (v := .int p_8.1) (vg_o (i := 5) (v := .int (if p_5.1 = 37 then (l_5 - 1) else l_5 : Int32)) g_6 (by decide) (Or.inl rfl)) (by decide) (Or.inl rfl)) (by decide) (Or.inl rfl)) (by decide) (Or.inl rfl)) (by decide) (Or.inl rfl)) rfl) ?_
              refine ev_x (i := .goto (-104)) (len := 3) (p' := 11) (s' := []) rfl rfl rfl ?_
              exact ih _ _ _ _ _ _ _ _ _ (vg_o (i := 6) (v := .int (l_6 + 1)) (vg_o (i := 5) (v := .int (if p_10.1 = 36 then ((if p_5.1 = 37 then (l_5 - 1) else l_5 : Int32) + 1) else (if p_5.1 = 37 then (l_5 - 1) else l_5 : Int32) : Int32)) (vg_o (i := 3) (v := .int l_6) (vg_o (i := 4) (v := .int p_8.1) (vg_o (i := 7) (v := .int p_8.1) (vg_o (i := 5) (v := .int (if p_5.1 = 37 then (l_5 - 1) else l_5 : Int32)) g_0 (by decide) (Or.inl rfl)) (by decide) (Or.inl rfl)) (by decide) (Or.inl rfl)) (by decide) (Or.inl rfl)) (by decide) (Or.inl rfl)) (by decide) (Or.inl rfl)) (vg_o (i := 6) (v := .int (l_6 + 1)) (vg_o (i := 5) (v := .int (if p_10.1 = 36 then ((if p_5.1 = 37 then (l_5 - 1) else l_5 : Int32) + 1) else (if p_5.1 = 37 then (l_5 - 1) else l_5 : Int32) : Int32)) (vg_o (i := 3) (v := .int l_6) (vg_o (i := 4) (v := .int p_8.1) (vg_o (i := 7) (v := .int p_8.1) (vg_o (i := 5) (v := .int (if p_5.1 = 37 then (l_5 - 1) else l_5 : Int32)) g_1 (by decide) (Or.inl rfl)) (by decide) (Or.inl rfl)) (by decide) (Or.inl rfl)) (by decide) (Or.inl rfl)) (by decide) (Or.inl rfl)) (by decide) (Or.inl rfl)) (vg_o (i := 6) (v := .int (l_6 + 1)) (vg_o (i := 5) (v := .int (if p_10.1 = 36 then ((if p_5.1 = 37 then (l_5 - 1) else l_5 : Int32) + 1) else (if p_5.1 = 37 then (l_5 - 1) else l_5 : Int32) : Int32)) (vg_o (i := 3) (v := .int l_6) (vg_o (i := 4) (v := .int p_8.1) (vg_o (i := 7) (v := .int p_8.1) (vg_o (i := 5) (v := .int (if p_5.1 = 37 then (l_5 - 1) else l_5 : Int32)) g_2 (by decide) (Or.inl rfl)) (by decide) (Or.inl rfl)) (by decide) (Or.inl rfl)) (by decide) (Or.inl rfl)) (by decide) (Or.inl rfl)) (by decide) (Or.inl rfl)) (vg_o (i := 6) (v := .int (l_6 + 1)) (vg_o (i := 5) (v := .int (if p_10.1 = 36 then ((if p_5.1 = 37 then (l_5 - 1) else l_5 : Int32) + 1) else (if p_5.1 = 37 then (l_5 - 1) else l_5 : Int32) : Int32)) (vg_s (vz_s1 (vz_s1 (vz_s1 (lv) 5 (.int (if p_5.1 = 37 then (l_5 - 1) else l_5 : Int32))) 7 (.int p_8.1)) 4 (.int p_8.1)) 3 (.int l_6)) (by decide) (Or.inl rfl)) (by decide) (Or.inl rfl)) (vg_o (i := 6) (v := .int (l_6 + 1)) (vg_o (i := 5) (v := .int (if p_10.1 = 36 then ((if p_5.1 = 37 then (l_5 - 1) else l_5 : Int32) + 1) else (if p_5.1 = 37 then (l_5 - 1) else l_5 : Int32) : Int32)) (vg_o (i := 3) (v := .int l_6) (vg_s (vz_s1 (vz_s1 (lv) 5 (.int (if p_5.1 = 37 then (l_5 - 1) else l_5 : Int32))) 7 (.int p_8.1)) 4 (.int p_8.1)) (by decide) (Or.inl rfl)) (by decide) (Or.inl rfl)) (by decide) (Or.inl rfl)) (vg_o (i := 6) (v := .int (l_6 + 1)) (vg_s (vz_s1 (vz_s1 (vz_s1 (vz_s1 (lv) 5 (.int (if p_5.1 = 37 then (l_5 - 1) else l_5 : Int32))) 7 (.int p_8.1)) 4 (.int p_8.1)) 3 (.int l_6)) 5 (.int (if p_10.1 = 36 then ((if p_5.1 = 37 then (l_5 - 1) else l_5 : Int32) + 1) else (if p_5.1 = 37 then (l_5 - 1) else l_5 : Int32) : Int32))) (by decide) (Or.inl rfl)) (vg_s (vz_s1 (vz_s1 (vz_s1 (vz_s1 (vz_s1 (lv) 5 (.int (if p_5.1 = 37 then (l_5 - 1) else l_5 : Int32))) 7 (.int p_8.1)) 4 (.int p_8.1)) 3 (.int l_6)) 5 (.int (if p_10.1 = 36 then ((if p_5.1 = 37 then (l_5 - 1) else l_5 : Int32) + 1) else (if p_5.1 = 37 then (l_5 - 1) else l_5 : Int32) : Int32))) 6 (.int (l_6 + 1))) (nb_s1 (nb_s1 (nb_s1 (nb_s1 (nb_s1 (nb_s1 hnb rfl) rfl) rfl) rfl) rfl) rfl)  H
            · by_cases c_11 : p_10.1 = 36
              · refine ev_b2 (t := 108) (p' := 101) rfl rfl rfl (if_neg (fun q => q c_11)) ?_
                refine ev_x (i := .iload 5) (len := 2) (p' := 103) (s' := [.int (if p_5.1 = 37 then (l_5 - 1) else l_5 : Int32)]) rfl rfl (ld_i (vg_o (i := 3) (v := .int l_6) (vg_o (i := 4) (v := .int p_8.1) (vg_o (i := 7) (v := .int p_8.1) (vg_s (lv) 5 (.int (if p_5.1 = 37 then (l_5 - 1) else l_5 : Int32))) (by decide) (Or.inl rfl)) (by decide) (Or.inl rfl)) (by decide) (Or.inl rfl))) ?_
                refine ev_x (i := .iconst 1) (len := 1) (p' := 104) (s' := [.int 1, .int (if p_5.1 = 37 then (l_5 - 1) else l_5 : Int32)]) rfl rfl rfl ?_
                refine ev_x (i := .iadd) (len := 1) (p' := 105) (s' := [.int ((if p_5.1 = 37 then (l_5 - 1) else l_5 : Int32) + 1)]) rfl rfl rfl ?_
                refine ev_x (i := .goto 5) (len := 3) (p' := 110) (s' := [.int ((if p_5.1 = 37 then (l_5 - 1) else l_5 : Int32) + 1)]) rfl rfl rfl ?_
                exact ev_st (congrArg (fun z => Value.int z :: []) (by rw [if_pos c_11])) J
              · refine ev_b2 (t := 108) (p' := 108) rfl rfl rfl (if_pos c_11) ?_
                refine ev_x (i := .iload 5) (len := 2) (p' := 110) (s' := [.int (if p_5.1 = 37 then (l_5 - 1) else l_5 : Int32)]) rfl rfl (ld_i (vg_o (i := 3) (v := .int l_6) (vg_o (i := 4) (v := .int p_8.1) (vg_o (i := 7) (v := .int p_8.1) (vg_s (lv) 5 (.int (if p_5.1 = 37 then (l_5 - 1) else l_5 : Int32))) (by decide) (Or.inl rfl)) (by decide) (Or.inl rfl)) (by decide) (Or.inl rfl))) ?_
                exact ev_st (congrArg (fun z => Value.int z :: []) (by rw [if_neg c_11])) J
          · refine ev_b2 (t := 83) (p' := 64) rfl rfl rfl (if_neg c_9) ?_
            refine ev_x (i := .iload 7) (len := 2) (p' := 66) (s' := [.int p_8.1]) rfl rfl (ld_i (vg_s (vz_s1 (lv) 5 (.int (if p_5.1 = 37 then (l_5 - 1) else l_5 : Int32))) 7 (.int p_8.1))) ?_
            refine F_if H (fun c_12 H => ?_) (fun c_12 H => ?_)
            · refine ev_b0 (t := 90) (p' := 90) rfl rfl rfl (if_pos c_12) ?_
              refine ev_x (i := .aload_n 0) (len := 1) (p' := 91) (s' := [.ref 66]) rfl rfl (ld_a (vg_o (i := 7) (v := .int p_8.1) (vg_o (i := 5) (v := .int (if p_5.1 = 37 then (l_5 - 1) else l_5 : Int32)) g_0 (by decide) (Or.inl rfl)) (by decide) (Or.inl rfl))) ?_
              refine ev_x (i := .iload 6) (len := 2) (p' := 93) (s' := [.int l_6, .ref 66]) rfl rfl (ld_i (vg_o (i := 7) (v := .int p_8.1) (vg_o (i := 5) (v := .int (if p_5.1 = 37 then (l_5 - 1) else l_5 : Int32)) g_6 (by decide) (Or.inl rfl)) (by decide) (Or.inl rfl))) ?_
              obtain ⟨p_13, G_13, H⟩ := F_bd H
              refine ev_cv (d := d + 4) (As := [.int l_6]) (a := 66) (p' := 96) rfl rfl rfl ly_66 rfl rfl rfl rfl rfl (nb_s1 (nb_s1 hnb rfl) rfl) rfl (F_162_ok (d := d + 2)   G_13) ?_
              refine ev_st (st' := [.int p_13.1]) rfl ?_
              have e_13 := F_162_R G_13
              refine ev_x (i := .bipush 36) (len := 2) (p' := 98) (s' := [.int 36, .int p_13.1]) rfl rfl rfl ?_
              refine F_jn (A := vz_ev P0 (d + 5) 171 110 (vz_s1 (vz_s1 (lv) 5 (.int (if p_5.1 = 37 then (l_5 - 1) else l_5 : Int32))) 7 (.int p_8.1)) [.int (if p_13.1 = 36 then ((if p_5.1 = 37 then (l_5 - 1) else l_5 : Int32) + 1) else (if p_5.1 = 37 then (l_5 - 1) else l_5 : Int32) : Int32)] (hp (p_13.2)) (.inl (some (.int p.1)), hp p.2)) ?_ (fun J => ?_)
              · refine ev_x (i := .istore 5) (len := 2) (p' := 112) (s' := []) (l' := vz_s1 (vz_s1 (vz_s1 (lv) 5 (.int (if p_5.1 = 37 then (l_5 - 1) else l_5 : Int32))) 7 (.int p_8.1)) 5 (.int (if p_13.1 = 36 then ((if p_5.1 = 37 then (l_5 - 1) else l_5 : Int32) + 1) else (if p_5.1 = 37 then (l_5 - 1) else l_5 : Int32) : Int32))) rfl rfl rfl ?_
                refine ev_x (i := .iinc 6 1) (len := 3) (p' := 115) (s' := []) (l' := vz_s1 (vz_s1 (vz_s1 (vz_s1 (lv) 5 (.int (if p_5.1 = 37 then (l_5 - 1) else l_5 : Int32))) 7 (.int p_8.1)) 5 (.int (if p_13.1 = 36 then ((if p_5.1 = 37 then (l_5 - 1) else l_5 : Int32) + 1) else (if p_5.1 = 37 then (l_5 - 1) else l_5 : Int32) : Int32))) 6 (.int (l_6 + 1))) rfl rfl (ld_inc (vg_o (i := 5) (v := .int (if p_13.1 = 36 then ((if p_5.1 = 37 then (l_5 - 1) else l_5 : Int32) + 1) else (if p_5.1 = 37 then (l_5 - 1) else l_5 : Int32) : Int32)) (vg_o (i := 7) (v := .int p_8.1) (vg_o (i := 5) (v := .int (if p_5.1 = 37 then (l_5 - 1) else l_5 : Int32)) g_6 (by decide) (Or.inl rfl)) (by decide) (Or.inl rfl)) (by decide) (Or.inl rfl)) rfl) ?_
                refine ev_x (i := .goto (-104)) (len := 3) (p' := 11) (s' := []) rfl rfl rfl ?_
                exact ih _ _ _ _ _ _ _ _ _ (vg_o (i := 6) (v := .int (l_6 + 1)) (vg_o (i := 5) (v := .int (if p_13.1 = 36 then ((if p_5.1 = 37 then (l_5 - 1) else l_5 : Int32) + 1) else (if p_5.1 = 37 then (l_5 - 1) else l_5 : Int32) : Int32)) (vg_o (i := 7) (v := .int p_8.1) (vg_o (i := 5) (v := .int (if p_5.1 = 37 then (l_5 - 1) else l_5 : Int32)) g_0 (by decide) (Or.inl rfl)) (by decide) (Or.inl rfl)) (by decide) (Or.inl rfl)) (by decide) (Or.inl rfl)) (vg_o (i := 6) (v := .int (l_6 + 1)) (vg_o (i := 5) (v := .int (if p_13.1 = 36 then ((if p_5.1 = 37 then (l_5 - 1) else l_5 : Int32) + 1) else (if p_5.1 = 37 then (l_5 - 1) else l_5 : Int32) : Int32)) (vg_o (i := 7) (v := .int p_8.1) (vg_o (i := 5) (v := .int (if p_5.1 = 37 then (l_5 - 1) else l_5 : Int32)) g_1 (by decide) (Or.inl rfl)) (by decide) (Or.inl rfl)) (by decide) (Or.inl rfl)) (by decide) (Or.inl rfl)) (vg_o (i := 6) (v := .int (l_6 + 1)) (vg_o (i := 5) (v := .int (if p_13.1 = 36 then ((if p_5.1 = 37 then (l_5 - 1) else l_5 : Int32) + 1) else (if p_5.1 = 37 then (l_5 - 1) else l_5 : Int32) : Int32)) (vg_o (i := 7) (v := .int p_8.1) (vg_o (i := 5) (v := .int (if p_5.1 = 37 then (l_5 - 1) else l_5 : Int32)) g_2 (by decide) (Or.inl rfl)) (by decide) (Or.inl rfl)) (by decide) (Or.inl rfl)) (by decide) (Or.inl rfl)) (vg_o (i := 6) (v := .int (l_6 + 1)) (vg_o (i := 5) (v := .int (if p_13.1 = 36 then ((if p_5.1 = 37 then (l_5 - 1) else l_5 : Int32) + 1) else (if p_5.1 = 37 then (l_5 - 1) else l_5 : Int32) : Int32)) (vg_o (i := 7) (v := .int p_8.1) (vg_o (i := 5) (v := .int (if p_5.1 = 37 then (l_5 - 1) else l_5 : Int32)) g_3 (by decide) (Or.inl rfl)) (by decide) (Or.inl rfl)) (by decide) (Or.inl rfl)) (by decide) (Or.inl rfl)) (vg_o (i := 6) (v := .int (l_6 + 1)) (vg_o (i := 5) (v := .int (if p_13.1 = 36 then ((if p_5.1 = 37 then (l_5 - 1) else l_5 : Int32) + 1) else (if p_5.1 = 37 then (l_5 - 1) else l_5 : Int32) : Int32)) (vg_o (i := 7) (v := .int p_8.1) (vg_o (i := 5) (v := .int (if p_5.1 = 37 then (l_5 - 1) else l_5 : Int32)) g_4 (by decide) (Or.inl rfl)) (by decide) (Or.inl rfl)) (by decide) (Or.inl rfl)) (by decide) (Or.inl rfl)) (vg_o (i := 6) (v := .int (l_6 + 1)) (vg_s (vz_s1 (vz_s1 (lv) 5 (.int (if p_5.1 = 37 then (l_5 - 1) else l_5 : Int32))) 7 (.int p_8.1)) 5 (.int (if p_13.1 = 36 then ((if p_5.1 = 37 then (l_5 - 1) else l_5 : Int32) + 1) else (if p_5.1 = 37 then (l_5 - 1) else l_5 : Int32) : Int32))) (by decide) (Or.inl rfl)) (vg_s (vz_s1 (vz_s1 (vz_s1 (lv) 5 (.int (if p_5.1 = 37 then (l_5 - 1) else l_5 : Int32))) 7 (.int p_8.1)) 5 (.int (if p_13.1 = 36 then ((if p_5.1 = 37 then (l_5 - 1) else l_5 : Int32) + 1) else (if p_5.1 = 37 then (l_5 - 1) else l_5 : Int32) : Int32))) 6 (.int (l_6 + 1))) (nb_s1 (nb_s1 (nb_s1 (nb_s1 hnb rfl) rfl) rfl) rfl)  H
              · by_cases c_14 : p_13.1 = 36
                · refine ev_b2 (t := 108) (p' := 101) rfl rfl rfl (if_neg (fun q => q c_14)) ?_
                  refine ev_x (i := .iload 5) (len := 2) (p' := 103) (s' := [.int (if p_5.1 = 37 then (l_5 - 1) else l_5 : Int32)]) rfl rfl (ld_i (vg_o (i := 7) (v := .int p_8.1) (vg_s (lv) 5 (.int (if p_5.1 = 37 then (l_5 - 1) else l_5 : Int32))) (by decide) (Or.inl rfl))) ?_
                  refine ev_x (i := .iconst 1) (len := 1) (p' := 104) (s' := [.int 1, .int (if p_5.1 = 37 then (l_5 - 1) else l_5 : Int32)]) rfl rfl rfl ?_
                  refine ev_x (i := .iadd) (len := 1) (p' := 105) (s' := [.int ((if p_5.1 = 37 then (l_5 - 1) else l_5 : Int32) + 1)]) rfl rfl rfl ?_
                  refine ev_x (i := .goto 5) (len := 3) (p' := 110) (s' := [.int ((if p_5.1 = 37 then (l_5 - 1) else l_5 : Int32) + 1)]) rfl rfl rfl ?_
                  exact ev_st (congrArg (fun z => Value.int z :: []) (by rw [if_pos c_14])) J
                · refine ev_b2 (t := 108) (p' := 108) rfl rfl rfl (if_pos c_14) ?_
                  refine ev_x (i := .iload 5) (len := 2) (p' := 110) (s' := [.int (if p_5.1 = 37 then (l_5 - 1) else l_5 : Int32)]) rfl rfl (ld_i (vg_o (i := 7) (v := .int p_8.1) (vg_s (lv) 5 (.int (if p_5.1 = 37 then (l_5 - 1) else l_5 : Int32))) (by decide) (Or.inl rfl))) ?_
                  exact ev_st (congrArg (fun z => Value.int z :: []) (by rw [if_neg c_14])) J
            · refine ev_b0 (t := 90) (p' := 69) rfl rfl rfl (if_neg c_12) ?_
              refine ev_x (i := .iload 7) (len := 2) (p' := 71) (s' := [.int p_8.1]) rfl rfl (ld_i (vg_s (vz_s1 (lv) 5 (.int (if p_5.1 = 37 then (l_5 - 1) else l_5 : Int32))) 7 (.int p_8.1))) ?_
              refine ev_x (i := .iload 4) (len := 2) (p' := 73) (s' := [.int l_4, .int p_8.1]) rfl rfl (ld_i (vg_o (i := 7) (v := .int p_8.1) (vg_o (i := 5) (v := .int (if p_5.1 = 37 then (l_5 - 1) else l_5 : Int32)) g_4 (by decide) (Or.inl rfl)) (by decide) (Or.inl rfl))) ?_
              refine F_if H (fun c_15 H => ?_) (fun c_15 H => ?_)
              · refine ev_b2 (t := 90) (p' := 76) rfl rfl rfl (if_neg (fun q => q c_15)) ?_
                refine ev_x (i := .iload 7) (len := 2) (p' := 78) (s' := [.int p_8.1]) rfl rfl (ld_i (vg_s (vz_s1 (lv) 5 (.int (if p_5.1 = 37 then (l_5 - 1) else l_5 : Int32))) 7 (.int p_8.1))) ?_
                refine ev_x (i := .bipush 6) (len := 2) (p' := 80) (s' := [.int 6, .int p_8.1]) rfl rfl rfl ?_
                refine F_if H (fun c_16 H => ?_) (fun c_16 H => ?_)
                · refine ev_b2 (t := 90) (p' := 90) rfl rfl rfl (if_pos c_16) ?_
                  refine ev_x (i := .aload_n 0) (len := 1) (p' := 91) (s' := [.ref 66]) rfl rfl (ld_a (vg_o (i := 7) (v := .int p_8.1) (vg_o (i := 5) (v := .int (if p_5.1 = 37 then (l_5 - 1) else l_5 : Int32)) g_0 (by decide) (Or.inl rfl)) (by decide) (Or.inl rfl))) ?_
                  refine ev_x (i := .iload 6) (len := 2) (p' := 93) (s' := [.int l_6, .ref 66]) rfl rfl (ld_i (vg_o (i := 7) (v := .int p_8.1) (vg_o (i := 5) (v := .int (if p_5.1 = 37 then (l_5 - 1) else l_5 : Int32)) g_6 (by decide) (Or.inl rfl)) (by decide) (Or.inl rfl))) ?_
                  obtain ⟨p_17, G_17, H⟩ := F_bd H
                  refine ev_cv (d := d + 4) (As := [.int l_6]) (a := 66) (p' := 96) rfl rfl rfl ly_66 rfl rfl rfl rfl rfl (nb_s1 (nb_s1 hnb rfl) rfl) rfl (F_162_ok (d := d + 2)   G_17) ?_
                  refine ev_st (st' := [.int p_17.1]) rfl ?_
                  have e_17 := F_162_R G_17
                  refine ev_x (i := .bipush 36) (len := 2) (p' := 98) (s' := [.int 36, .int p_17.1]) rfl rfl rfl ?_
                  refine F_jn (A := vz_ev P0 (d + 5) 171 110 (vz_s1 (vz_s1 (lv) 5 (.int (if p_5.1 = 37 then (l_5 - 1) else l_5 : Int32))) 7 (.int p_8.1)) [.int (if p_17.1 = 36 then ((if p_5.1 = 37 then (l_5 - 1) else l_5 : Int32) + 1) else (if p_5.1 = 37 then (l_5 - 1) else l_5 : Int32) : Int32)] (hp (p_17.2)) (.inl (some (.int p.1)), hp p.2)) ?_ (fun J => ?_)
                  · refine ev_x (i := .istore 5) (len := 2) (p' := 112) (s' := []) (l' := vz_s1 (vz_s1 (vz_s1 (lv) 5 (.int (if p_5.1 = 37 then (l_5 - 1) else l_5 : Int32))) 7 (.int p_8.1)) 5 (.int (if p_17.1 = 36 then ((if p_5.1 = 37 then (l_5 - 1) else l_5 : Int32) + 1) else (if p_5.1 = 37 then (l_5 - 1) else l_5 : Int32) : Int32))) rfl rfl rfl ?_
                    refine ev_x (i := .iinc 6 1) (len := 3) (p' := 115) (s' := []) (l' := vz_s1 (vz_s1 (vz_s1 (vz_s1 (lv) 5 (.int (if p_5.1 = 37 then (l_5 - 1) else l_5 : Int32))) 7 (.int p_8.1)) 5 (.int (if p_17.1 = 36 then ((if p_5.1 = 37 then (l_5 - 1) else l_5 : Int32) + 1) else (if p_5.1 = 37 then (l_5 - 1) else l_5 : Int32) : Int32))) 6 (.int (l_6 + 1))) rfl rfl (ld_inc (vg_o (i := 5) (v := .int (if p_17.1 = 36 then ((if p_5.1 = 37 then (l_5 - 1) else l_5 : Int32) + 1) else (if p_5.1 = 37 then (l_5 - 1) else l_5 : Int32) : Int32)) (vg_o (i := 7) (v := .int p_8.1) (vg_o (i := 5) (v := .int (if p_5.1 = 37 then (l_5 - 1) else l_5 : Int32)) g_6 (by decide) (Or.inl rfl)) (by decide) (Or.inl rfl)) (by decide) (Or.inl rfl)) rfl) ?_
                    refine ev_x (i := .goto (-104)) (len := 3) (p' := 11) (s' := []) rfl rfl rfl ?_
                    exact ih _ _ _ _ _ _ _ _ _ (vg_o (i := 6) (v := .int (l_6 + 1)) (vg_o (i := 5) (v := .int (if p_17.1 = 36 then ((if p_5.1 = 37 then (l_5 - 1) else l_5 : Int32) + 1) else (if p_5.1 = 37 then (l_5 - 1) else l_5 : Int32) : Int32)) (vg_o (i := 7) (v := .int p_8.1) (vg_o (i := 5) (v := .int (if p_5.1 = 37 then (l_5 - 1) else l_5 : Int32)) g_0 (by decide) (Or.inl rfl)) (by decide) (Or.inl rfl)) (by decide) (Or.inl rfl)) (by decide) (Or.inl rfl)) (vg_o (i := 6) (v := .int (l_6 + 1)) (vg_o (i := 5) (v := .int (if p_17.1 = 36 then ((if p_5.1 = 37 then (l_5 - 1) else l_5 : Int32) + 1) else (if p_5.1 = 37 then (l_5 - 1) else l_5 : Int32) : Int32)) (vg_o (i := 7) (v := .int p_8.1) (vg_o (i := 5) (v := .int (if p_5.1 = 37 then (l_5 - 1) else l_5 : Int32)) g_1 (by decide) (Or.inl rfl)) (by decide) (Or.inl rfl)) (by decide) (Or.inl rfl)) (by decide) (Or.inl rfl)) (vg_o (i := 6) (v := .int (l_6 + 1)) (vg_o (i := 5) (v := .int (if p_17.1 = 36 then ((if p_5.1 = 37 then (l_5 - 1) else l_5 : Int32) + 1) else (if p_5.1 = 37 then (l_5 - 1) else l_5 : Int32) : Int32)) (vg_o (i := 7) (v := .int p_8.1) (vg_o (i := 5) (v := .int (if p_5.1 = 37 then (l_5 - 1) else l_5 : Int32)) g_2 (by decide) (Or.inl rfl)) (by decide) (Or.inl rfl)) (by decide) (Or.inl rfl)) (by decide) (Or.inl rfl)) (vg_o (i := 6) (v := .int (l_6 + 1)) (vg_o (i := 5) (v := .int (if p_17.1 = 36 then ((if p_5.1 = 37 then (l_5 - 1) else l_5 : Int32) + 1) else (if p_5.1 = 37 then (l_5 - 1) else l_5 : Int32) : Int32)) (vg_o (i := 7) (v := .int p_8.1) (vg_o (i := 5) (v := .int (if p_5.1 = 37 then (l_5 - 1) else l_5 : Int32)) g_3 (by decide) (Or.inl rfl)) (by decide) (Or.inl rfl)) (by decide) (Or.inl rfl)) (by decide) (Or.inl rfl)) (vg_o (i := 6) (v := .int (l_6 + 1)) (vg_o (i := 5) (v := .int (if p_17.1 = 36 then ((if p_5.1 = 37 then (l_5 - 1) else l_5 : Int32) + 1) else (if p_5.1 = 37 then (l_5 - 1) else l_5 : Int32) : Int32)) (vg_o (i := 7) (v := .int p_8.1) (vg_o (i := 5) (v := .int (if p_5.1 = 37 then (l_5 - 1) else l_5 : Int32)) g_4 (by decide) (Or.inl rfl)) (by decide) (Or.inl rfl)) (by decide) (Or.inl rfl)) (by decide) (Or.inl rfl)) (vg_o (i := 6) (v := .int (l_6 + 1)) (vg_s (vz_s1 (vz_s1 (lv) 5 (.int (if p_5.1 = 37 then (l_5 - 1) else l_5 : Int32))) 7 (.int p_8.1)) 5 (.int (if p_17.1 = 36 then ((if p_5.1 = 37 then (l_5 - 1) else l_5 : Int32) + 1) else (if p_5.1 = 37 then (l_5 - 1) else l_5 : Int32) : Int32))) (by decide) (Or.inl rfl)) (vg_s (vz_s1 (vz_s1 (vz_s1 (lv) 5 (.int (if p_5.1 = 37 then (l_5 - 1) else l_5 : Int32))) 7 (.int p_8.1)) 5 (.int (if p_17.1 = 36 then ((if p_5.1 = 37 then (l_5 - 1) else l_5 : Int32) + 1) else (if p_5.1 = 37 then (l_5 - 1) else l_5 : Int32) : Int32))) 6 (.int (l_6 + 1))) (nb_s1 (nb_s1 (nb_s1 (nb_s1 hnb rfl) rfl) rfl) rfl)  H
                  · by_cases c_18 : p_17.1 = 36
                    · refine ev_b2 (t := 108) (p' := 101) rfl rfl rfl (if_neg (fun q => q c_18)) ?_
                      refine ev_x (i := .iload 5) (len := 2) (p' := 103) (s' := [.int (if p_5.1 = 37 then (l_5 - 1) else l_5 : Int32)]) rfl rfl (ld_i (vg_o (i := 7) (v := .int p_8.1) (vg_s (lv) 5 (.int (if p_5.1 = 37 then (l_5 - 1) else l_5 : Int32))) (by decide) (Or.inl rfl))) ?_
                      refine ev_x (i := .iconst 1) (len := 1) (p' := 104) (s' := [.int 1, .int (if p_5.1 = 37 then (l_5 - 1) else l_5 : Int32)]) rfl rfl rfl ?_
                      refine ev_x (i := .iadd) (len := 1) (p' := 105) (s' := [.int ((if p_5.1 = 37 then (l_5 - 1) else l_5 : Int32) + 1)]) rfl rfl rfl ?_
                      refine ev_x (i := .goto 5) (len := 3) (p' := 110) (s' := [.int ((if p_5.1 = 37 then (l_5 - 1) else l_5 : Int32) + 1)]) rfl rfl rfl ?_
                      exact ev_st (congrArg (fun z => Value.int z :: []) (by rw [if_pos c_18])) J
                    · refine ev_b2 (t := 108) (p' := 108) rfl rfl rfl (if_pos c_18) ?_
                      refine ev_x (i := .iload 5) (len := 2) (p' := 110) (s' := [.int (if p_5.1 = 37 then (l_5 - 1) else l_5 : Int32)]) rfl rfl (ld_i (vg_o (i := 7) (v := .int p_8.1) (vg_s (lv) 5 (.int (if p_5.1 = 37 then (l_5 - 1) else l_5 : Int32))) (by decide) (Or.inl rfl))) ?_
                      exact ev_st (congrArg (fun z => Value.int z :: []) (by rw [if_neg c_18])) J
                · refine ev_b2 (t := 90) (p' := 83) rfl rfl rfl (if_neg c_16) ?_
                  refine ev_x (i := .iload 7) (len := 2) (p' := 85) (s' := [.int p_8.1]) rfl rfl (ld_i (vg_s (vz_s1 (lv) 5 (.int (if p_5.1 = 37 then (l_5 - 1) else l_5 : Int32))) 7 (.int p_8.1))) ?_
                  refine ev_x (i := .istore 4) (len := 2) (p' := 87) (s' := []) (l' := vz_s1 (vz_s1 (vz_s1 (lv) 5 (.int (if p_5.1 = 37 then (l_5 - 1) else l_5 : Int32))) 7 (.int p_8.1)) 4 (.int p_8.1)) rfl rfl rfl ?_
                  refine ev_x (i := .iload 6) (len := 2) (p' := 89) (s' := [.int l_6]) rfl rfl (ld_i (vg_o (i := 4) (v := .int p_8.1) (vg_o (i := 7) (v := .int p_8.1) (vg_o (i := 5) (v := .int (if p_5.1 = 37 then (l_5 - 1) else l_5 : Int32)) g_6 (by decide) (Or.inl rfl)) (by decide) (Or.inl rfl)) (by decide) (Or.inl rfl))) ?_
                  refine ev_x (i := .istore_n 3) (len := 1) (p' := 90) (s' := []) (l' := vz_s1 (vz_s1 (vz_s1 (vz_s1 (lv) 5 (.int (if p_5.1 = 37 then (l_5 - 1) else l_5 : Int32))) 7 (.int p_8.1)) 4 (.int p_8.1)) 3 (.int l_6)) rfl rfl rfl ?_
                  refine ev_x (i := .aload_n 0) (len := 1) (p' := 91) (s' := [.ref 66]) rfl rfl (ld_a (vg_o (i := 3) (v := .int l_6) (vg_o (i := 4) (v := .int p_8.1) (vg_o (i := 7) (v := .int p_8.1) (vg_o (i := 5) (v := .int (if p_5.1 = 37 then (l_5 - 1) else l_5 : Int32)) g_0 (by decide) (Or.inl rfl)) (by decide) (Or.inl rfl)) (by decide) (Or.inl rfl)) (by decide) (Or.inl rfl))) ?_
                  refine ev_x (i := .iload 6) (len := 2) (p' := 93) (s' := [.int l_6, .ref 66]) rfl rfl (ld_i (vg_o (i := 3) (v := .int l_6) (vg_o (i := 4) (v := .int p_8.1) (vg_o (i := 7) (v := .int p_8.1) (vg_o (i := 5) (v := .int (if p_5.1 = 37 then (l_5 - 1) else l_5 : Int32)) g_6 (by decide) (Or.inl rfl)) (by decide) (Or.inl rfl)) (by decide) (Or.inl rfl)) (by decide) (Or.inl rfl))) ?_
                  obtain ⟨p_19, G_19, H⟩ := F_bd H
                  refine ev_cv (d := d + 4) (As := [.int l_6]) (a := 66) (p' := 96) rfl rfl rfl ly_66 rfl rfl rfl rfl rfl (nb_s1 (nb_s1 (nb_s1 (nb_s1 hnb rfl) rfl) rfl) rfl) rfl (F_162_ok (d := d + 2)   G_19) ?_
                  refine ev_st (st' := [.int p_19.1]) rfl ?_
                  have e_19 := F_162_R G_19
                  refine ev_x (i := .bipush 36) (len := 2) (p' := 98) (s' := [.int 36, .int p_19.1]) rfl rfl rfl ?_
                  refine F_jn (A := vz_ev P0 (d + 5) 171 110 (vz_s1 (vz_s1 (vz_s1 (vz_s1 (lv) 5 (.int (if p_5.1 = 37 then (l_5 - 1) else l_5 : Int32))) 7 (.int p_8.1)) 4 (.int p_8.1)) 3 (.int l_6)) [.int (if p_19.1 = 36 then ((if p_5.1 = 37 then (l_5 - 1) else l_5 : Int32) + 1) else (if p_5.1 = 37 then (l_5 - 1) else l_5 : Int32) : Int32)] (hp (p_19.2)) (.inl (some (.int p.1)), hp p.2)) ?_ (fun J => ?_)
                  · refine ev_x (i := .istore 5) (len := 2) (p' := 112) (s' := []) (l' := vz_s1 (vz_s1 (vz_s1 (vz_s1 (vz_s1 (lv) 5 (.int (if p_5.1 = 37 then (l_5 - 1) else l_5 : Int32))) 7 (.int p_8.1)) 4 (.int p_8.1)) 3 (.int l_6)) 5 (.int (if p_19.1 = 36 then ((if p_5.1 = 37 then (l_5 - 1) else l_5 : Int32) + 1) else (if p_5.1 = 37 then (l_5 - 1) else l_5 : Int32) : Int32))) rfl rfl rfl ?_
                    refine ev_x (i := .iinc 6 1) (len := 3) (p' := 115) (s' := []) (l' := vz_s1 (vz_s1 (vz_s1 (vz_s1 (vz_s1 (vz_s1 (lv) 5 (.int (if p_5.1 = 37 then (l_5 - 1) else l_5 : Int32))) 7 (.int p_8.1)) 4 (.int p_8.1)) 3 (.int l_6)) 5 (.int (if p_19.1 = 36 then ((if p_5.1 = 37 then (l_5 - 1) else l_5 : Int32) + 1) else (if p_5.1 = 37 then (l_5 - 1) else l_5 : Int32) : Int32))) 6 (.int (l_6 + 1))) rfl rfl (ld_inc (vg_o (i := 5) (v := .int (if p_19.1 = 36 then ((if p_5.1 = 37 then (l_5 - 1) else l_5 : Int32) + 1) else (if p_5.1 = 37 then (l_5 - 1) else l_5 : Int32) : Int32)) (vg_o (i := 3) (v := .int l_6) (vg_o (i := 4) (v := .int p_8.1) (vg_o (i := 7) (v := .int p_8.1) (vg_o (i := 5) (v := .int (if p_5.1 = 37 then (l_5 - 1) else l_5 : Int32)) g_6 (by decide) (Or.inl rfl)) (by decide) (Or.inl rfl)) (by decide) (Or.inl rfl)) (by decide) (Or.inl rfl)) (by decide) (Or.inl rfl)) rfl) ?_
                    refine ev_x (i := .goto (-104)) (len := 3) (p' := 11) (s' := []) rfl rfl rfl ?_
                    exact ih _ _ _ _ _ _ _ _ _ (vg_o (i := 6) (v := .int (l_6 + 1)) (vg_o (i := 5) (v := .int (if p_19.1 = 36 then ((if p_5.1 = 37 then (l_5 - 1) else l_5 : Int32) + 1) else (if p_5.1 = 37 then (l_5 - 1) else l_5 : Int32) : Int32)) (vg_o (i := 3) (v := .int l_6) (vg_o (i := 4) (v := .int p_8.1) (vg_o (i := 7) (v := .int p_8.1) (vg_o (i := 5) (v := .int (if p_5.1 = 37 then (l_5 - 1) else l_5 : Int32)) g_0 (by decide) (Or.inl rfl)) (by decide) (Or.inl rfl)) (by decide) (Or.inl rfl)) (by decide) (Or.inl rfl)) (by decide) (Or.inl rfl)) (by decide) (Or.inl rfl)) (vg_o (i := 6) (v := .int (l_6 + 1)) (vg_o (i := 5) (v := .int (if p_19.1 = 36 then ((if p_5.1 = 37 then (l_5 - 1) else l_5 : Int32) + 1) else (if p_5.1 = 37 then (l_5 - 1) else l_5 : Int32) : Int32)) (vg_o (i := 3) (v := .int l_6) (vg_o (i := 4) (v := .int p_8.1) (vg_o (i := 7) (v := .int p_8.1) (vg_o (i := 5) (v := .int (if p_5.1 = 37 then (l_5 - 1) else l_5 : Int32)) g_1 (by decide) (Or.inl rfl)) (by decide) (Or.inl rfl)) (by decide) (Or.inl rfl)) (by decide) (Or.inl rfl)) (by decide) (Or.inl rfl)) (by decide) (Or.inl rfl)) (vg_o (i := 6) (v := .int (l_6 + 1)) (vg_o (i := 5) (v := .int (if p_19.1 = 36 then ((if p_5.1 = 37 then (l_5 - 1) else l_5 : Int32) + 1) else (if p_5.1 = 37 then (l_5 - 1) else l_5 : Int32) : Int32)) (vg_o (i := 3) (v := .int l_6) (vg_o (i := 4) (v := .int p_8.1) (vg_o (i := 7) (v := .int p_8.1) (vg_o (i := 5) (v := .int (if p_5.1 = 37 then (l_5 - 1) else l_5 : Int32)) g_2 (by decide) (Or.inl rfl)) (by decide) (Or.inl rfl)) (by decide) (Or.inl rfl)) (by decide) (Or.inl rfl)) (by decide) (Or.inl rfl)) (by decide) (Or.inl rfl)) (vg_o (i := 6) (v := .int (l_6 + 1)) (vg_o (i := 5) (v := .int (if p_19.1 = 36 then ((if p_5.1 = 37 then (l_5 - 1) else l_5 : Int32) + 1) else (if p_5.1 = 37 then (l_5 - 1) else l_5 : Int32) : Int32)) (vg_s (vz_s1 (vz_s1 (vz_s1 (lv) 5 (.int (if p_5.1 = 37 then (l_5 - 1) else l_5 : Int32))) 7 (.int p_8.1)) 4 (.int p_8.1)) 3 (.int l_6)) (by decide) (Or.inl rfl)) (by decide) (Or.inl rfl)) (vg_o (i := 6) (v := .int (l_6 + 1)) (vg_o (i := 5) (v := .int (if p_19.1 = 36 then ((if p_5.1 = 37 then (l_5 - 1) else l_5 : Int32) + 1) else (if p_5.1 = 37 then (l_5 - 1) else l_5 : Int32) : Int32)) (vg_o (i := 3) (v := .int l_6) (vg_s (vz_s1 (vz_s1 (lv) 5 (.int (if p_5.1 = 37 then (l_5 - 1) else l_5 : Int32))) 7 (.int p_8.1)) 4 (.int p_8.1)) (by decide) (Or.inl rfl)) (by decide) (Or.inl rfl)) (by decide) (Or.inl rfl)) (vg_o (i := 6) (v := .int (l_6 + 1)) (vg_s (vz_s1 (vz_s1 (vz_s1 (vz_s1 (lv) 5 (.int (if p_5.1 = 37 then (l_5 - 1) else l_5 : Int32))) 7 (.int p_8.1)) 4 (.int p_8.1)) 3 (.int l_6)) 5 (.int (if p_19.1 = 36 then ((if p_5.1 = 37 then (l_5 - 1) else l_5 : Int32) + 1) else (if p_5.1 = 37 then (l_5 - 1) else l_5 : Int32) : Int32))) (by decide) (Or.inl rfl)) (vg_s (vz_s1 (vz_s1 (vz_s1 (vz_s1 (vz_s1 (lv) 5 (.int (if p_5.1 = 37 then (l_5 - 1) else l_5 : Int32))) 7 (.int p_8.1)) 4 (.int p_8.1)) 3 (.int l_6)) 5 (.int (if p_19.1 = 36 then ((if p_5.1 = 37 then (l_5 - 1) else l_5 : Int32) + 1) else (if p_5.1 = 37 then (l_5 - 1) else l_5 : Int32) : Int32))) 6 (.int (l_6 + 1))) (nb_s1 (nb_s1 (nb_s1 (nb_s1 (nb_s1 (nb_s1 hnb rfl) rfl) rfl) rfl) rfl) rfl)  H
                  · by_cases c_20 : p_19.1 = 36
                    · refine ev_b2 (t := 108) (p' := 101) rfl rfl rfl (if_neg (fun q => q c_20)) ?_
                      refine ev_x (i := .iload 5) (len := 2) (p' := 103) (s' := [.int (if p_5.1 = 37 then (l_5 - 1) else l_5 : Int32)]) rfl rfl (ld_i (vg_o (i := 3) (v := .int l_6) (vg_o (i := 4) (v := .int p_8.1) (vg_o (i := 7) (v := .int p_8.1) (vg_s (lv) 5 (.int (if p_5.1 = 37 then (l_5 - 1) else l_5 : Int32))) (by decide) (Or.inl rfl)) (by decide) (Or.inl rfl)) (by decide) (Or.inl rfl))) ?_
                      refine ev_x (i := .iconst 1) (len := 1) (p' := 104) (s' := [.int 1, .int (if p_5.1 = 37 then (l_5 - 1) else l_5 : Int32)]) rfl rfl rfl ?_
                      refine ev_x (i := .iadd) (len := 1) (p' := 105) (s' := [.int ((if p_5.1 = 37 then (l_5 - 1) else l_5 : Int32) + 1)]) rfl rfl rfl ?_
                      refine ev_x (i := .goto 5) (len := 3) (p' := 110) (s' := [.int ((if p_5.1 = 37 then (l_5 - 1) else l_5 : Int32) + 1)]) rfl rfl rfl ?_
                      exact ev_st (congrArg (fun z => Value.int z :: []) (by rw [if_pos c_20])) J
                    · refine ev_b2 (t := 108) (p' := 108) rfl rfl rfl (if_pos c_20) ?_
                      refine ev_x (i := .iload 5) (len := 2) (p' := 110) (s' := [.int (if p_5.1 = 37 then (l_5 - 1) else l_5 : Int32)]) rfl rfl (ld_i (vg_o (i := 3) (v := .int l_6) (vg_o (i := 4) (v := .int p_8.1) (vg_o (i := 7) (v := .int p_8.1) (vg_s (lv) 5 (.int (if p_5.1 = 37 then (l_5 - 1) else l_5 : Int32))) (by decide) (Or.inl rfl)) (by decide) (Or.inl rfl)) (by decide) (Or.inl rfl))) ?_
                      exact ev_st (congrArg (fun z => Value.int z :: []) (by rw [if_neg c_20])) J
              · refine ev_b2 (t := 90) (p' := 90) rfl rfl rfl (if_pos c_15) ?_
                refine ev_x (i := .aload_n 0) (len := 1) (p' := 91) (s' := [.ref 66]) rfl rfl (ld_a (vg_o (i := 7) (v := .int p_8.1) (vg_o (i := 5) (v := .int (if p_5.1 = 37 then (l_5 - 1) else l_5 : Int32)) g_0 (by decide) (Or.inl rfl)) (by decide) (Or.inl rfl))) ?_
                refine ev_x (i := .iload 6) (len := 2) (p' := 93) (s' := [.int l_6, .ref 66]) rfl rfl (ld_i (vg_o (i := 7) (v := .int p_8.1) (vg_o (i := 5) (v := .int (if p_5.1 = 37 then (l_5 - 1) else l_5 : Int32)) g_6 (by decide) (Or.inl rfl)) (by decide) (Or.inl rfl))) ?_
                obtain ⟨p_21, G_21, H⟩ := F_bd H
                refine ev_cv (d := d + 4) (As := [.int l_6]) (a := 66) (p' := 96) rfl rfl rfl ly_66 rfl rfl rfl rfl rfl (nb_s1 (nb_s1 hnb rfl) rfl) rfl (F_162_ok (d := d + 2)   G_21) ?_
                refine ev_st (st' := [.int p_21.1]) rfl ?_
                have e_21 := F_162_R G_21
                refine ev_x (i := .bipush 36) (len := 2) (p' := 98) (s' := [.int 36, .int p_21.1]) rfl rfl rfl ?_
                refine F_jn (A := vz_ev P0 (d + 5) 171 110 (vz_s1 (vz_s1 (lv) 5 (.int (if p_5.1 = 37 then (l_5 - 1) else l_5 : Int32))) 7 (.int p_8.1)) [.int (if p_21.1 = 36 then ((if p_5.1 = 37 then (l_5 - 1) else l_5 : Int32) + 1) else (if p_5.1 = 37 then (l_5 - 1) else l_5 : Int32) : Int32)] (hp (p_21.2)) (.inl (some (.int p.1)), hp p.2)) ?_ (fun J => ?_)
                · refine ev_x (i := .istore 5) (len := 2) (p' := 112) (s' := []) (l' := vz_s1 (vz_s1 (vz_s1 (lv) 5 (.int (if p_5.1 = 37 then (l_5 - 1) else l_5 : Int32))) 7 (.int p_8.1)) 5 (.int (if p_21.1 = 36 then ((if p_5.1 = 37 then (l_5 - 1) else l_5 : Int32) + 1) else (if p_5.1 = 37 then (l_5 - 1) else l_5 : Int32) : Int32))) rfl rfl rfl ?_
                  refine ev_x (i := .iinc 6 1) (len := 3) (p' := 115) (s' := []) (l' := vz_s1 (vz_s1 (vz_s1 (vz_s1 (lv) 5 (.int (if p_5.1 = 37 then (l_5 - 1) else l_5 : Int32))) 7 (.int p_8.1)) 5 (.int (if p_21.1 = 36 then ((if p_5.1 = 37 then (l_5 - 1) else l_5 : Int32) + 1) else (if p_5.1 = 37 then (l_5 - 1) else l_5 : Int32) : Int32))) 6 (.int (l_6 + 1))) rfl rfl (ld_inc (vg_o (i := 5) (v := .int (if p_21.1 = 36 then ((if p_5.1 = 37 then (l_5 - 1) else l_5 : Int32) + 1) else (if p_5.1 = 37 then (l_5 - 1) else l_5 : Int32) : Int32)) (vg_o (i := 7) (v := .int p_8.1) (vg_o (i := 5) (v := .int (if p_5.1 = 37 then (l_5 - 1) else l_5 : Int32)) g_6 (by decide) (Or.inl rfl)) (by decide) (Or.inl rfl)) (by decide) (Or.inl rfl)) rfl) ?_
                  refine ev_x (i := .goto (-104)) (len := 3) (p' := 11) (s' := []) rfl rfl rfl ?_
                  exact ih _ _ _ _ _ _ _ _ _ (vg_o (i := 6) (v := .int (l_6 + 1)) (vg_o (i := 5) (v := .int (if p_21.1 = 36 then ((if p_5.1 = 37 then (l_5 - 1) else l_5 : Int32) + 1) else (if p_5.1 = 37 then (l_5 - 1) else l_5 : Int32) : Int32)) (vg_o (i := 7) (v := .int p_8.1) (vg_o (i := 5) (v := .int (if p_5.1 = 37 then (l_5 - 1) else l_5 : Int32)) g_0 (by decide) (Or.inl rfl)) (by decide) (Or.inl rfl)) (by decide) (Or.inl rfl)) (by decide) (Or.inl rfl)) (vg_o (i := 6) (v := .int (l_6 + 1)) (vg_o (i := 5) (v := .int (if p_21.1 = 36 then ((if p_5.1 = 37 then (l_5 - 1) else l_5 : Int32) + 1) else (if p_5.1 = 37 then (l_5 - 1) else l_5 : Int32) : Int32)) (vg_o (i := 7) (v := .int p_8.1) (vg_o (i := 5) (v := .int (if p_5.1 = 37 then (l_5 - 1) else l_5 : Int32)) g_1 (by decide) (Or.inl rfl)) (by decide) (Or.inl rfl)) (by decide) (Or.inl rfl)) (by decide) (Or.inl rfl)) (vg_o (i := 6) (v := .int (l_6 + 1)) (vg_o (i := 5) (v := .int (if p_21.1 = 36 then ((if p_5.1 = 37 then (l_5 - 1) else l_5 : Int32) + 1) else (if p_5.1 = 37 then (l_5 - 1) else l_5 : Int32) : Int32)) (vg_o (i := 7) (v := .int p_8.1) (vg_o (i := 5) (v := .int (if p_5.1 = 37 then (l_5 - 1) else l_5 : Int32)) g_2 (by decide) (Or.inl rfl)) (by decide) (Or.inl rfl)) (by decide) (Or.inl rfl)) (by decide) (Or.inl rfl)) (vg_o (i := 6) (v := .int (l_6 + 1)) (vg_o (i := 5) (v := .int (if p_21.1 = 36 then ((if p_5.1 = 37 then (l_5 - 1) else l_5 : Int32) + 1) else (if p_5.1 = 37 then (l_5 - 1) else l_5 : Int32) : Int32)) (vg_o (i := 7) (v := .int p_8.1) (vg_o (i := 5) (v := .int (if p_5.1 = 37 then (l_5 - 1) else l_5 : Int32)) g_3 (by decide) (Or.inl rfl)) (by decide) (Or.inl rfl)) (by decide) (Or.inl rfl)) (by decide) (Or.inl rfl)) (vg_o (i := 6) (v := .int (l_6 + 1)) (vg_o (i := 5) (v := .int (if p_21.1 = 36 then ((if p_5.1 = 37 then (l_5 - 1) else l_5 : Int32) + 1) else (if p_5.1 = 37 then (l_5 - 1) else l_5 : Int32) : Int32)) (vg_o (i := 7) (v := .int p_8.1) (vg_o (i := 5) (v := .int (if p_5.1 = 37 then (l_5 - 1) else l_5 : Int32)) g_4 (by decide) (Or.inl rfl)) (by decide) (Or.inl rfl)) (by decide) (Or.inl rfl)) (by decide) (Or.inl rfl)) (vg_o (i := 6) (v := .int (l_6 + 1)) (vg_s (vz_s1 (vz_s1 (lv) 5 (.int (if p_5.1 = 37 then (l_5 - 1) else l_5 : Int32))) 7 (.int p_8.1)) 5 (.int (if p_21.1 = 36 then ((if p_5.1 = 37 then (l_5 - 1) else l_5 : Int32) + 1) else (if p_5.1 = 37 then (l_5 - 1) else l_5 : Int32) : Int32))) (by decide) (Or.inl rfl)) (vg_s (vz_s1 (vz_s1 (vz_s1 (lv) 5 (.int (if p_5.1 = 37 then (l_5 - 1) else l_5 : Int32))) 7 (.int p_8.1)) 5 (.int (if p_21.1 = 36 then ((if p_5.1 = 37 then (l_5 - 1) else l_5 : Int32) + 1) else (if p_5.1 = 37 then (l_5 - 1) else l_5 : Int32) : Int32))) 6 (.int (l_6 + 1))) (nb_s1 (nb_s1 (nb_s1 (nb_s1 hnb rfl) rfl) rfl) rfl)  H
                · by_cases c_22 : p_21.1 = 36
                  · refine ev_b2 (t := 108) (p' := 101) rfl rfl rfl (if_neg (fun q => q c_22)) ?_
                    refine ev_x (i := .iload 5) (len := 2) (p' := 103) (s' := [.int (if p_5.1 = 37 then (l_5 - 1) else l_5 : Int32)]) rfl rfl (ld_i (vg_o (i := 7) (v := .int p_8.1) (vg_s (lv) 5 (.int (if p_5.1 = 37 then (l_5 - 1) else l_5 : Int32))) (by decide) (Or.inl rfl))) ?_
                    refine ev_x (i := .iconst 1) (len := 1) (p' := 104) (s' := [.int 1, .int (if p_5.1 = 37 then (l_5 - 1) else l_5 : Int32)]) rfl rfl rfl ?_
                    refine ev_x (i := .iadd) (len := 1) (p' := 105) (s' := [.int ((if p_5.1 = 37 then (l_5 - 1) else l_5 : Int32) + 1)]) rfl rfl rfl ?_
                    refine ev_x (i := .goto 5) (len := 3) (p' := 110) (s' := [.int ((if p_5.1 = 37 then (l_5 - 1) else l_5 : Int32) + 1)]) rfl rfl rfl ?_
                    exact ev_st (congrArg (fun z => Value.int z :: []) (by rw [if_pos c_22])) J
                  · refine ev_b2 (t := 108) (p' := 108) rfl rfl rfl (if_pos c_22) ?_
                    refine ev_x (i := .iload 5) (len := 2) (p' := 110) (s' := [.int (if p_5.1 = 37 then (l_5 - 1) else l_5 : Int32)]) rfl rfl (ld_i (vg_o (i := 7) (v := .int p_8.1) (vg_s (lv) 5 (.int (if p_5.1 = 37 then (l_5 - 1) else l_5 : Int32))) (by decide) (Or.inl rfl))) ?_
                    exact ev_st (congrArg (fun z => Value.int z :: []) (by rw [if_neg c_22])) J
        · refine ev_b0 (t := 54) (p' := 54) rfl rfl rfl (if_pos c_7) ?_
          refine ev_x (i := .iconst 0) (len := 1) (p' := 55) (s' := [.int 0]) rfl rfl rfl ?_
          refine ev_x (i := .istore 7) (len := 2) (p' := 57) (s' := []) (l' := vz_s1 (vz_s1 (lv) 5 (.int (if p_5.1 = 37 then (l_5 - 1) else l_5 : Int32))) 7 (.int 0)) rfl rfl rfl ?_
          refine ev_x (i := .iload 7) (len := 2) (p' := 59) (s' := [.int 0]) rfl rfl (ld_i (vg_s (vz_s1 (lv) 5 (.int (if p_5.1 = 37 then (l_5 - 1) else l_5 : Int32))) 7 (.int 0))) ?_
          refine ev_x (i := .iload 4) (len := 2) (p' := 61) (s' := [.int l_4, .int 0]) rfl rfl (ld_i (vg_o (i := 7) (v := .int 0) (vg_o (i := 5) (v := .int (if p_5.1 = 37 then (l_5 - 1) else l_5 : Int32)) g_4 (by decide) (Or.inl rfl)) (by decide) (Or.inl rfl))) ?_
          refine F_if H (fun c_23 H => ?_) (fun c_23 H => ?_)
          · refine ev_b2 (t := 83) (p' := 83) rfl rfl rfl (if_pos c_23) ?_
            refine ev_x (i := .iload 7) (len := 2) (p' := 85) (s' := [.int 0]) rfl rfl (ld_i (vg_s (vz_s1 (lv) 5 (.int (if p_5.1 = 37 then (l_5 - 1) else l_5 : Int32))) 7 (.int 0))) ?_
            refine ev_x (i := .istore 4) (len := 2) (p' := 87) (s' := []) (l' := vz_s1 (vz_s1 (vz_s1 (lv) 5 (.int (if p_5.1 = 37 then (l_5 - 1) else l_5 : Int32))) 7 (.int 0)) 4 (.int 0)) rfl rfl rfl ?_
            refine ev_x (i := .iload 6) (len := 2) (p' := 89) (s' := [.int l_6]) rfl rfl (ld_i (vg_o (i := 4) (v := .int 0) (vg_o (i := 7) (v := .int 0) (vg_o (i := 5) (v := .int (if p_5.1 = 37 then (l_5 - 1) else l_5 : Int32)) g_6 (by decide) (Or.inl rfl)) (by decide) (Or.inl rfl)) (by decide) (Or.inl rfl))) ?_
            refine ev_x (i := .istore_n 3) (len := 1) (p' := 90) (s' := []) (l' := vz_s1 (vz_s1 (vz_s1 (vz_s1 (lv) 5 (.int (if p_5.1 = 37 then (l_5 - 1) else l_5 : Int32))) 7 (.int 0)) 4 (.int 0)) 3 (.int l_6)) rfl rfl rfl ?_
            refine ev_x (i := .aload_n 0) (len := 1) (p' := 91) (s' := [.ref 66]) rfl rfl (ld_a (vg_o (i := 3) (v := .int l_6) (vg_o (i := 4) (v := .int 0) (vg_o (i := 7) (v := .int 0) (vg_o (i := 5) (v := .int (if p_5.1 = 37 then (l_5 - 1) else l_5 : Int32)) g_0 (by decide) (Or.inl rfl)) (by decide) (Or.inl rfl)) (by decide) (Or.inl rfl)) (by decide) (Or.inl rfl))) ?_
            refine ev_x (i := .iload 6) (len := 2) (p' := 93) (s' := [.int l_6, .ref 66]) rfl rfl (ld_i (vg_o (i := 3) (v := .int l_6) (vg_o (i := 4) (v := .int 0) (vg_o (i := 7) (v := .int 0) (vg_o (i := 5) (v := .int (if p_5.1 = 37 then (l_5 - 1) else l_5 : Int32)) g_6 (by decide) (Or.inl rfl)) (by decide) (Or.inl rfl)) (by decide) (Or.inl rfl)) (by decide) (Or.inl rfl))) ?_
            obtain ⟨p_24, G_24, H⟩ := F_bd H
            refine ev_cv (d := d + 4) (As := [.int l_6]) (a := 66) (p' := 96) rfl rfl rfl ly_66 rfl rfl rfl rfl rfl (nb_s1 (nb_s1 (nb_s1 (nb_s1 hnb rfl) rfl) rfl) rfl) rfl (F_162_ok (d := d + 2)   G_24) ?_
            refine ev_st (st' := [.int p_24.1]) rfl ?_
            have e_24 := F_162_R G_24
            refine ev_x (i := .bipush 36) (len := 2) (p' := 98) (s' := [.int 36, .int p_24.1]) rfl rfl rfl ?_
            refine F_jn (A := vz_ev P0 (d + 5) 171 110 (vz_s1 (vz_s1 (vz_s1 (vz_s1 (lv) 5 (.int (if p_5.1 = 37 then (l_5 - 1) else l_5 : Int32))) 7 (.int 0)) 4 (.int 0)) 3 (.int l_6)) [.int (if p_24.1 = 36 then ((if p_5.1 = 37 then (l_5 - 1) else l_5 : Int32) + 1) else (if p_5.1 = 37 then (l_5 - 1) else l_5 : Int32) : Int32)] (hp (p_24.2)) (.inl (some (.int p.1)), hp p.2)) ?_ (fun J => ?_)
            · refine ev_x (i := .istore 5) (len := 2) (p' := 112) (s' := []) (l' := vz_s1 (vz_s1 (vz_s1 (vz_s1 (vz_s1 (lv) 5 (.int (if p_5.1 = 37 then (l_5 - 1) else l_5 : Int32))) 7 (.int 0)) 4 (.int 0)) 3 (.int l_6)) 5 (.int (if p_24.1 = 36 then ((if p_5.1 = 37 then (l_5 - 1) else l_5 : Int32) + 1) else (if p_5.1 = 37 then (l_5 - 1) else l_5 : Int32) : Int32))) rfl rfl rfl ?_
              refine ev_x (i := .iinc 6 1) (len := 3) (p' := 115) (s' := []) (l' := vz_s1 (vz_s1 (vz_s1 (vz_s1 (vz_s1 (vz_s1 (lv) 5 (.int (if p_5.1 = 37 then (l_5 - 1) else l_5 : Int32))) 7 (.int 0)) 4 (.int 0)) 3 (.int l_6)) 5 (.int (if p_24.1 = 36 then ((if p_5.1 = 37 then (l_5 - 1) else l_5 : Int32) + 1) else (if p_5.1 = 37 then (l_5 - 1) else l_5 : Int32) : Int32))) 6 (.int (l_6 + 1))) rfl rfl (ld_inc (vg_o (i := 5) (v := .int (if p_24.1 = 36 then ((if p_5.1 = 37 then (l_5 - 1) else l_5 : Int32) + 1) else (if p_5.1 = 37 then (l_5 - 1) else l_5 : Int32) : Int32)) (vg_o (i := 3) (v := .int l_6) (vg_o (i := 4) (v := .int 0) (vg_o (i := 7) (v := .int 0) (vg_o (i := 5) (v := .int (if p_5.1 = 37 then (l_5 - 1) else l_5 : Int32)) g_6 (by decide) (Or.inl rfl)) (by decide) (Or.inl rfl)) (by decide) (Or.inl rfl)) (by decide) (Or.inl rfl)) (by decide) (Or.inl rfl)) rfl) ?_
              refine ev_x (i := .goto (-104)) (len := 3) (p' := 11) (s' := []) rfl rfl rfl ?_
              exact ih _ _ _ _ _ _ _ _ _ (vg_o (i := 6) (v := .int (l_6 + 1)) (vg_o (i := 5) (v := .int (if p_24.1 = 36 then ((if p_5.1 = 37 then (l_5 - 1) else l_5 : Int32) + 1) else (if p_5.1 = 37 then (l_5 - 1) else l_5 : Int32) : Int32)) (vg_o (i := 3) (v := .int l_6) (vg_o (i := 4) (v := .int 0) (vg_o (i := 7) (v := .int 0) (vg_o (i := 5) (v := .int (if p_5.1 = 37 then (l_5 - 1) else l_5 : Int32)) g_0 (by decide) (Or.inl rfl)) (by decide) (Or.inl rfl)) (by decide) (Or.inl rfl)) (by decide) (Or.inl rfl)) (by decide) (Or.inl rfl)) (by decide) (Or.inl rfl)) (vg_o (i := 6) (v := .int (l_6 + 1)) (vg_o (i := 5) (v := .int (if p_24.1 = 36 then ((if p_5.1 = 37 then (l_5 - 1) else l_5 : Int32) + 1) else (if p_5.1 = 37 then (l_5 - 1) else l_5 : Int32) : Int32)) (vg_o (i := 3) (v := .int l_6) (vg_o (i := 4) (v := .int 0) (vg_o (i := 7) (v := .int 0) (vg_o (i := 5) (v := .int (if p_5.1 = 37 then (l_5 - 1) else l_5 : Int32)) g_1 (by decide) (Or.inl rfl)) (by decide) (Or.inl rfl)) (by decide) (Or.inl rfl)) (by decide) (Or.inl rfl)) (by decide) (Or.inl rfl)) (by decide) (Or.inl rfl)) (vg_o (i := 6) (v := .int (l_6 + 1)) (vg_o (i := 5) (v := .int (if p_24.1 = 36 then ((if p_5.1 = 37 then (l_5 - 1) else l_5 : Int32) + 1) else (if p_5.1 = 37 then (l_5 - 1) else l_5 : Int32) : Int32)) (vg_o (i := 3) (v := .int l_6) (vg_o (i := 4) (v := .int 0) (vg_o (i := 7) (v := .int 0) (vg_o (i := 5) (v := .int (if p_5.1 = 37 then (l_5 - 1) else l_5 : Int32)) g_2 (by decide) (Or.inl rfl)) (by decide) (Or.inl rfl)) (by decide) (Or.inl rfl)) (by decide) (Or.inl rfl)) (by decide) (Or.inl rfl)) (by decide) (Or.inl rfl)) (vg_o (i := 6) (v := .int (l_6 + 1)) (vg_o (i := 5) (v := .int (if p_24.1 = 36 then ((if p_5.1 = 37 then (l_5 - 1) else l_5 : Int32) + 1) else (if p_5.1 = 37 then (l_5 - 1) else l_5 : Int32) : Int32)) (vg_s (vz_s1 (vz_s1 (vz_s1 (lv) 5 (.int (if p_5.1 = 37 then (l_5 - 1) else l_5 : Int32))) 7 (.int 0)) 4 (.int 0)) 3 (.int l_6)) (by decide) (Or.inl rfl)) (by decide) (Or.inl rfl)) (vg_o (i := 6) (v := .int (l_6 + 1)) (vg_o (i := 5) (v := .int (if p_24.1 = 36 then ((if p_5.1 = 37 then (l_5 - 1) else l_5 : Int32) + 1) else (if p_5.1 = 37 then (l_5 - 1) else l_5 : Int32) : Int32)) (vg_o (i := 3) (v := .int l_6) (vg_s (vz_s1 (vz_s1 (lv) 5 (.int (if p_5.1 = 37 then (l_5 - 1) else l_5 : Int32))) 7 (.int 0)) 4 (.int 0)) (by decide) (Or.inl rfl)) (by decide) (Or.inl rfl)) (by decide) (Or.inl rfl)) (vg_o (i := 6) (v := .int (l_6 + 1)) (vg_s (vz_s1 (vz_s1 (vz_s1 (vz_s1 (lv) 5 (.int (if p_5.1 = 37 then (l_5 - 1) else l_5 : Int32))) 7 (.int 0)) 4 (.int 0)) 3 (.int l_6)) 5 (.int (if p_24.1 = 36 then ((if p_5.1 = 37 then (l_5 - 1) else l_5 : Int32) + 1) else (if p_5.1 = 37 then (l_5 - 1) else l_5 : Int32) : Int32))) (by decide) (Or.inl rfl)) (vg_s (vz_s1 (vz_s1 (vz_s1 (vz_s1 (vz_s1 (lv) 5 (.int (if p_5.1 = 37 then (l_5 - 1) else l_5 : Int32))) 7 (.int 0)) 4 (.int 0)) 3 (.int l_6)) 5 (.int (if p_24.1 = 36 then ((if p_5.1 = 37 then (l_5 - 1) else l_5 : Int32) + 1) else (if p_5.1 = 37 then (l_5 - 1) else l_5 : Int32) : Int32))) 6 (.int (l_6 + 1))) (nb_s1 (nb_s1 (nb_s1 (nb_s1 (nb_s1 (nb_s1 hnb rfl) rfl) rfl) rfl) rfl) rfl)  H
            · by_cases c_25 : p_24.1 = 36
              · refine ev_b2 (t := 108) (p' := 101) rfl rfl rfl (if_neg (fun q => q c_25)) ?_
                refine ev_x (i := .iload 5) (len := 2) (p' := 103) (s' := [.int (if p_5.1 = 37 then (l_5 - 1) else l_5 : Int32)]) rfl rfl (ld_i (vg_o (i := 3) (v := .int l_6) (vg_o (i := 4) (v := .int 0) (vg_o (i := 7) (v := .int 0) (vg_s (lv) 5 (.int (if p_5.1 = 37 then (l_5 - 1) else l_5 : Int32))) (by decide) (Or.inl rfl)) (by decide) (Or.inl rfl)) (by decide) (Or.inl rfl))) ?_
                refine ev_x (i := .iconst 1) (len := 1) (p' := 104) (s' := [.int 1, .int (if p_5.1 = 37 then (l_5 - 1) else l_5 : Int32)]) rfl rfl rfl ?_
                refine ev_x (i := .iadd) (len := 1) (p' := 105) (s' := [.int ((if p_5.1 = 37 then (l_5 - 1) else l_5 : Int32) + 1)]) rfl rfl rfl ?_
                refine ev_x (i := .goto 5) (len := 3) (p' := 110) (s' := [.int ((if p_5.1 = 37 then (l_5 - 1) else l_5 : Int32) + 1)]) rfl rfl rfl ?_
                exact ev_st (congrArg (fun z => Value.int z :: []) (by rw [if_pos c_25])) J
              · refine ev_b2 (t := 108) (p' := 108) rfl rfl rfl (if_pos c_25) ?_
                refine ev_x (i := .iload 5) (len := 2) (p' := 110) (s' := [.int (if p_5.1 = 37 then (l_5 - 1) else l_5 : Int32)]) rfl rfl (ld_i (vg_o (i := 3) (v := .int l_6) (vg_o (i := 4) (v := .int 0) (vg_o (i := 7) (v := .int 0) (vg_s (lv) 5 (.int (if p_5.1 = 37 then (l_5 - 1) else l_5 : Int32))) (by decide) (Or.inl rfl)) (by decide) (Or.inl rfl)) (by decide) (Or.inl rfl))) ?_
                exact ev_st (congrArg (fun z => Value.int z :: []) (by rw [if_neg c_25])) J
          · refine ev_b2 (t := 83) (p' := 64) rfl rfl rfl (if_neg c_23) ?_
            refine ev_x (i := .iload 7) (len := 2) (p' := 66) (s' := [.int 0]) rfl rfl (ld_i (vg_s (vz_s1 (lv) 5 (.int (if p_5.1 = 37 then (l_5 - 1) else l_5 : Int32))) 7 (.int 0))) ?_
            refine ev_b0 (t := 90) (p' := 90) rfl rfl rfl (by decide) ?_
            refine ev_x (i := .aload_n 0) (len := 1) (p' := 91) (s' := [.ref 66]) rfl rfl (ld_a (vg_o (i := 7) (v := .int 0) (vg_o (i := 5) (v := .int (if p_5.1 = 37 then (l_5 - 1) else l_5 : Int32)) g_0 (by decide) (Or.inl rfl)) (by decide) (Or.inl rfl))) ?_
            refine ev_x (i := .iload 6) (len := 2) (p' := 93) (s' := [.int l_6, .ref 66]) rfl rfl (ld_i (vg_o (i := 7) (v := .int 0) (vg_o (i := 5) (v := .int (if p_5.1 = 37 then (l_5 - 1) else l_5 : Int32)) g_6 (by decide) (Or.inl rfl)) (by decide) (Or.inl rfl))) ?_
            obtain ⟨p_26, G_26, H⟩ := F_bd H
            refine ev_cv (d := d + 4) (As := [.int l_6]) (a := 66) (p' := 96) rfl rfl rfl ly_66 rfl rfl rfl rfl rfl (nb_s1 (nb_s1 hnb rfl) rfl) rfl (F_162_ok (d := d + 2)   G_26) ?_
            refine ev_st (st' := [.int p_26.1]) rfl ?_
            have e_26 := F_162_R G_26
            refine ev_x (i := .bipush 36) (len := 2) (p' := 98) (s' := [.int 36, .int p_26.1]) rfl rfl rfl ?_
            refine F_jn (A := vz_ev P0 (d + 5) 171 110 (vz_s1 (vz_s1 (lv) 5 (.int (if p_5.1 = 37 then (l_5 - 1) else l_5 : Int32))) 7 (.int 0)) [.int (if p_26.1 = 36 then ((if p_5.1 = 37 then (l_5 - 1) else l_5 : Int32) + 1) else (if p_5.1 = 37 then (l_5 - 1) else l_5 : Int32) : Int32)] (hp (p_26.2)) (.inl (some (.int p.1)), hp p.2)) ?_ (fun J => ?_)
            · refine ev_x (i := .istore 5) (len := 2) (p' := 112) (s' := []) (l' := vz_s1 (vz_s1 (vz_s1 (lv) 5 (.int (if p_5.1 = 37 then (l_5 - 1) else l_5 : Int32))) 7 (.int 0)) 5 (.int (if p_26.1 = 36 then ((if p_5.1 = 37 then (l_5 - 1) else l_5 : Int32) + 1) else (if p_5.1 = 37 then (l_5 - 1) else l_5 : Int32) : Int32))) rfl rfl rfl ?_
              refine ev_x (i := .iinc 6 1) (len := 3) (p' := 115) (s' := []) (l' := vz_s1 (vz_s1 (vz_s1 (vz_s1 (lv) 5 (.int (if p_5.1 = 37 then (l_5 - 1) else l_5 : Int32))) 7 (.int 0)) 5 (.int (if p_26.1 = 36 then ((if p_5.1 = 37 then (l_5 - 1) else l_5 : Int32) + 1) else (if p_5.1 = 37 then (l_5 - 1) else l_5 : Int32) : Int32))) 6 (.int (l_6 + 1))) rfl rfl (ld_inc (vg_o (i := 5) (v := .int (if p_26.1 = 36 then ((if p_5.1 = 37 then (l_5 - 1) else l_5 : Int32) + 1) else (if p_5.1 = 37 then (l_5 - 1) else l_5 : Int32) : Int32)) (vg_o (i := 7) (v := .int 0) (vg_o (i := 5) (v := .int (if p_5.1 = 37 then (l_5 - 1) else l_5 : Int32)) g_6 (by decide) (Or.inl rfl)) (by decide) (Or.inl rfl)) (by decide) (Or.inl rfl)) rfl) ?_
              refine ev_x (i := .goto (-104)) (len := 3) (p' := 11) (s' := []) rfl rfl rfl ?_
              exact ih _ _ _ _ _ _ _ _ _ (vg_o (i := 6) (v := .int (l_6 + 1)) (vg_o (i := 5) (v := .int (if p_26.1 = 36 then ((if p_5.1 = 37 then (l_5 - 1) else l_5 : Int32) + 1) else (if p_5.1 = 37 then (l_5 - 1) else l_5 : Int32) : Int32)) (vg_o (i := 7) (v := .int 0) (vg_o (i := 5) (v := .int (if p_5.1 = 37 then (l_5 - 1) else l_5 : Int32)) g_0 (by decide) (Or.inl rfl)) (by decide) (Or.inl rfl)) (by decide) (Or.inl rfl)) (by decide) (Or.inl rfl)) (vg_o (i := 6) (v := .int (l_6 + 1)) (vg_o (i := 5) (v := .int (if p_26.1 = 36 then ((if p_5.1 = 37 then (l_5 - 1) else l_5 : Int32) + 1) else (if p_5.1 = 37 then (l_5 - 1) else l_5 : Int32) : Int32)) (vg_o (i := 7) (v := .int 0) (vg_o (i := 5) (v := .int (if p_5.1 = 37 then (l_5 - 1) else l_5 : Int32)) g_1 (by decide) (Or.inl rfl)) (by decide) (Or.inl rfl)) (by decide) (Or.inl rfl)) (by decide) (Or.inl rfl)) (vg_o (i := 6) (v := .int (l_6 + 1)) (vg_o (i := 5) (v := .int (if p_26.1 = 36 then ((if p_5.1 = 37 then (l_5 - 1) else l_5 : Int32) + 1) else (if p_5.1 = 37 then (l_5 - 1) else l_5 : Int32) : Int32)) (vg_o (i := 7) (v := .int 0) (vg_o (i := 5) (v := .int (if p_5.1 = 37 then (l_5 - 1) else l_5 : Int32)) g_2 (by decide) (Or.inl rfl)) (by decide) (Or.inl rfl)) (by decide) (Or.inl rfl)) (by decide) (Or.inl rfl)) (vg_o (i := 6) (v := .int (l_6 + 1)) (vg_o (i := 5) (v := .int (if p_26.1 = 36 then ((if p_5.1 = 37 then (l_5 - 1) else l_5 : Int32) + 1) else (if p_5.1 = 37 then (l_5 - 1) else l_5 : Int32) : Int32)) (vg_o (i := 7) (v := .int 0) (vg_o (i := 5) (v := .int (if p_5.1 = 37 then (l_5 - 1) else l_5 : Int32)) g_3 (by decide) (Or.inl rfl)) (by decide) (Or.inl rfl)) (by decide) (Or.inl rfl)) (by decide) (Or.inl rfl)) (vg_o (i := 6) (v := .int (l_6 + 1)) (vg_o (i := 5) (v := .int (if p_26.1 = 36 then ((if p_5.1 = 37 then (l_5 - 1) else l_5 : Int32) + 1) else (if p_5.1 = 37 then (l_5 - 1) else l_5 : Int32) : Int32)) (vg_o (i := 7) (v := .int 0) (vg_o (i := 5) (v := .int (if p_5.1 = 37 then (l_5 - 1) else l_5 : Int32)) g_4 (by decide) (Or.inl rfl)) (by decide) (Or.inl rfl)) (by decide) (Or.inl rfl)) (by decide) (Or.inl rfl)) (vg_o (i := 6) (v := .int (l_6 + 1)) (vg_s (vz_s1 (vz_s1 (lv) 5 (.int (if p_5.1 = 37 then (l_5 - 1) else l_5 : Int32))) 7 (.int 0)) 5 (.int (if p_26.1 = 36 then ((if p_5.1 = 37 then (l_5 - 1) else l_5 : Int32) + 1) else (if p_5.1 = 37 then (l_5 - 1) else l_5 : Int32) : Int32))) (by decide) (Or.inl rfl)) (vg_s (vz_s1 (vz_s1 (vz_s1 (lv) 5 (.int (if p_5.1 = 37 then (l_5 - 1) else l_5 : Int32))) 7 (.int 0)) 5 (.int (if p_26.1 = 36 then ((if p_5.1 = 37 then (l_5 - 1) else l_5 : Int32) + 1) else (if p_5.1 = 37 then (l_5 - 1) else l_5 : Int32) : Int32))) 6 (.int (l_6 + 1))) (nb_s1 (nb_s1 (nb_s1 (nb_s1 hnb rfl) rfl) rfl) rfl)  H
            · by_cases c_27 : p_26.1 = 36
              · refine ev_b2 (t := 108) (p' := 101) rfl rfl rfl (if_neg (fun q => q c_27)) ?_
                refine ev_x (i := .iload 5) (len := 2) (p' := 103) (s' := [.int (if p_5.1 = 37 then (l_5 - 1) else l_5 : Int32)]) rfl rfl (ld_i (vg_o (i := 7) (v := .int 0) (vg_s (lv) 5 (.int (if p_5.1 = 37 then (l_5 - 1) else l_5 : Int32))) (by decide) (Or.inl rfl))) ?_
                refine ev_x (i := .iconst 1) (len := 1) (p' := 104) (s' := [.int 1, .int (if p_5.1 = 37 then (l_5 - 1) else l_5 : Int32)]) rfl rfl rfl ?_
                refine ev_x (i := .iadd) (len := 1) (p' := 105) (s' := [.int ((if p_5.1 = 37 then (l_5 - 1) else l_5 : Int32) + 1)]) rfl rfl rfl ?_
                refine ev_x (i := .goto 5) (len := 3) (p' := 110) (s' := [.int ((if p_5.1 = 37 then (l_5 - 1) else l_5 : Int32) + 1)]) rfl rfl rfl ?_
                exact ev_st (congrArg (fun z => Value.int z :: []) (by rw [if_pos c_27])) J
              · refine ev_b2 (t := 108) (p' := 108) rfl rfl rfl (if_pos c_27) ?_
                refine ev_x (i := .iload 5) (len := 2) (p' := 110) (s' := [.int (if p_5.1 = 37 then (l_5 - 1) else l_5 : Int32)]) rfl rfl (ld_i (vg_o (i := 7) (v := .int 0) (vg_s (lv) 5 (.int (if p_5.1 = 37 then (l_5 - 1) else l_5 : Int32))) (by decide) (Or.inl rfl))) ?_
                exact ev_st (congrArg (fun z => Value.int z :: []) (by rw [if_neg c_27])) J
      · by_cases c_6 : p_5.1 = 37
        · refine ev_b2 (t := 35) (p' := 28) rfl rfl rfl (if_neg (fun q => q c_6)) ?_
          refine ev_x (i := .iload 5) (len := 2) (p' := 30) (s' := [.int l_5]) rfl rfl (ld_i g_5) ?_
          refine ev_x (i := .iconst 1) (len := 1) (p' := 31) (s' := [.int 1, .int l_5]) rfl rfl rfl ?_
          refine ev_x (i := .isub) (len := 1) (p' := 32) (s' := [.int (l_5 - 1)]) rfl rfl rfl ?_
          refine ev_x (i := .goto 5) (len := 3) (p' := 37) (s' := [.int (l_5 - 1)]) rfl rfl rfl ?_
          exact ev_st (congrArg (fun z => Value.int z :: []) (by rw [if_pos c_6])) J
        · refine ev_b2 (t := 35) (p' := 35) rfl rfl rfl (if_pos c_6) ?_
          refine ev_x (i := .iload 5) (len := 2) (p' := 37) (s' := [.int l_5]) rfl rfl (ld_i g_5) ?_
          exact ev_st (congrArg (fun z => Value.int z :: []) (by rw [if_neg c_6])) J
/-- GameTextModel.loosest(II)I -/
def F_171 (N : Nat) (x_1 : Int32) (x_2 : Int32) (σ : st_S) : Option (Int32 × st_S) :=
  L_171 N N x_1 x_2 (-1) 0 0 x_1 (σ)
set_option maxRecDepth 100000 in
theorem F_171_R {N : Nat} {x_1 : Int32} {x_2 : Int32} {σ : st_S} {p : Int32 × st_S} (H : F_171 N x_1 x_2 σ = some p) : gR p.2 = gR σ := by
  unfold F_171 at H
  exact (((L_171_R _ _ _ _ _ _ _ _ _ H)).trans rfl)
set_option maxHeartbeats 4000000 in
set_option maxRecDepth 100000 in
theorem F_171_ok {N d : Nat} {x_1 : Int32} {x_2 : Int32} {σ : st_S} {p : Int32 × st_S}  (H : F_171 N x_1 x_2 σ = some p) : vz_ev P0 (d + 5) 171 0 (lv_args 0 [.ref 66, .int x_1, .int x_2]) [] (hp σ) (.inl (some (.int p.1)), hp p.2) := by
  unfold F_171 at H
  refine ev_x (i := .iconst (-1)) (len := 1) (p' := 1) (s' := [.int (-1)]) rfl rfl rfl ?_
  refine ev_x (i := .istore_n 3) (len := 1) (p' := 2) (s' := []) (l' := [(3, .int (-1)), (0, .ref 66), (1, .int x_1), (2, .int x_2)]) rfl rfl rfl ?_
  refine ev_x (i := .iconst 0) (len := 1) (p' := 3) (s' := [.int 0]) rfl rfl rfl ?_
  refine ev_x (i := .istore 4) (len := 2) (p' := 5) (s' := []) (l' := [(4, .int 0), (3, .int (-1)), (0, .ref 66), (1, .int x_1), (2, .int x_2)]) rfl rfl rfl ?_
  refine ev_x (i := .iconst 0) (len := 1) (p' := 6) (s' := [.int 0]) rfl rfl rfl ?_
  refine ev_x (i := .istore 5) (len := 2) (p' := 8) (s' := []) (l' := [(5, .int 0), (4, .int 0), (3, .int (-1)), (0, .ref 66), (1, .int x_1), (2, .int x_2)]) rfl rfl rfl ?_
  refine ev_x (i := .iload_n 1) (len := 1) (p' := 9) (s' := [.int x_1]) rfl rfl rfl ?_
  refine ev_x (i := .istore 6) (len := 2) (p' := 11) (s' := []) (l' := [(6, .int x_1), (5, .int 0), (4, .int 0), (3, .int (-1)), (0, .ref 66), (1, .int x_1), (2, .int x_2)]) rfl rfl rfl ?_
  exact (L_171_ok (d := d) N) _ _ _ _ _ _ _ _ _ rfl rfl rfl rfl rfl rfl rfl rfl  H
/-- GameTextModel.node(III)I -/
def F_174 (N : Nat) (g : Nat) (x_1 : Int32) (x_2 : Int32) (x_3 : Int32) (σ : st_S) : Option (Int32 × st_S) :=
  (N_133 N (g + 1) x_1 (σ)).bind fun p_1 =>
  (F_159 N x_2 (p_1)).bind fun p_2 =>
  (N_133 N (g + 3) p_2.1 (p_2.2)).bind fun p_3 =>
  (F_159 N x_3 (p_3)).bind fun p_4 =>
  (N_133 N (g + 5) p_4.1 (p_4.2)).bind fun p_5 =>
  (N_133 N (g + 7) 0 (p_5)).bind fun p_6 =>
  (N_133 N (g + 9) (-1) (p_6)).bind fun p_7 =>
  (N_133 N (g + 11) (-1) (p_7)).bind fun p_8 =>
  some (((gI p_8 (g + 1) 1) - 1), p_8)
set_option maxRecDepth 100000 in
theorem F_174_R {N : Nat} {g : Nat} {x_1 : Int32} {x_2 : Int32} {x_3 : Int32} {σ : st_S} {p : Int32 × st_S} (H : F_174 N g x_1 x_2 x_3 σ = some p) : gR p.2 = gR σ := by
  unfold F_174 at H
  obtain ⟨p_1, G_1, H⟩ := F_bd H
  obtain ⟨p_2, G_2, H⟩ := F_bd H
  obtain ⟨p_3, G_3, H⟩ := F_bd H
  obtain ⟨p_4, G_4, H⟩ := F_bd H
  obtain ⟨p_5, G_5, H⟩ := F_bd H
  obtain ⟨p_6, G_6, H⟩ := F_bd H
  obtain ⟨p_7, G_7, H⟩ := F_bd H
  obtain ⟨p_8, G_8, H⟩ := F_bd H
  obtain rfl := Option.some.inj H
  exact ((N_133_R G_8).trans ((N_133_R G_7).trans ((N_133_R G_6).trans ((N_133_R G_5).trans ((F_159_R G_4).trans ((N_133_R G_3).trans ((F_159_R G_2).trans ((N_133_R G_1).trans rfl))))))))
set_option maxHeartbeats 4000000 in
set_option maxRecDepth 100000 in
theorem F_174_ok {N d : Nat} {g : Nat} (hg : g = 79 ∨ g = 115) {x_1 : Int32} {x_2 : Int32} {x_3 : Int32} {σ : st_S} {p : Int32 × st_S} (hr_66_10 : gR σ 66 10 = g) (H : F_174 N g x_1 x_2 x_3 σ = some p) : vz_ev P0 (d + 3) 174 0 (lv_args 0 [.ref 66, .int x_1, .int x_2, .int x_3]) [] (hp σ) (.inl (some (.int p.1)), hp p.2) := by
  unfold F_174 at H
  rcases hg with rfl | rfl
  · refine ev_x (i := .aload_n 0) (len := 1) (p' := 1) (s' := [.ref 66]) rfl rfl rfl ?_
    refine ev_gr (p' := 4) (v := 79) rfl rfl rfl ly_66 rfl rfl hr_66_10 ?_
    refine ev_gc (p' := 7) (v := 80) rfl rfl rfl ly_79 rfl rfl ?_
    refine ev_x (i := .iload_n 1) (len := 1) (p' := 8) (s' := [.int x_1, .ref 80]) rfl rfl rfl ?_
    obtain ⟨p_1, G_1, H⟩ := F_bd H
    refine ev_cv (d := d + 2) (As := [.int x_1]) (a := 80) (p' := 11) rfl rfl rfl ly_80 rfl rfl rfl rfl rfl rfl rfl (N_133_ok (d := d + 1) nm_80 G_1) ?_
    refine ev_st (st' := []) rfl ?_
    have e_1 := N_133_R G_1
    refine ev_x (i := .aload_n 0) (len := 1) (p' := 12) (s' := [.ref 66]) rfl rfl rfl ?_
    refine ev_gr (p' := 15) (v := 79) rfl rfl rfl ly_66 rfl rfl ((congrFun (congrFun e_1 66) 10).trans hr_66_10) ?_
    refine ev_gc (p' := 18) (v := 82) rfl rfl rfl ly_79 rfl rfl ?_
    refine ev_x (i := .aload_n 0) (len := 1) (p' := 19) (s' := [.ref 66, .ref 82]) rfl rfl rfl ?_
    refine ev_x (i := .iload_n 2) (len := 1) (p' := 20) (s' := [.int x_2, .ref 66, .ref 82]) rfl rfl rfl ?_
    obtain ⟨p_2, G_2, H⟩ := F_bd H
    refine ev_cv (d := d + 2) (As := [.int x_2]) (a := 66) (p' := 23) rfl rfl rfl ly_66 rfl rfl rfl rfl rfl rfl rfl (F_159_ok (d := d + 0)   G_2) ?_
    refine ev_st (st' := [.int p_2.1, .ref 82]) rfl ?_
    have e_2 := F_159_R G_2
    obtain ⟨p_3, G_3, H⟩ := F_bd H
    refine ev_cv (d := d + 2) (As := [.int p_2.1]) (a := 82) (p' := 26) rfl rfl rfl ly_82 rfl rfl rfl rfl rfl rfl rfl (N_133_ok (d := d + 1) nm_82 G_3) ?_
    refine ev_st (st' := []) rfl ?_
    have e_3 := N_133_R G_3
    refine ev_x (i := .aload_n 0) (len := 1) (p' := 27) (s' := [.ref 66]) rfl rfl rfl ?_
    refine ev_gr (p' := 30) (v := 79) rfl rfl rfl ly_66 rfl rfl ((congrFun (congrFun e_3 66) 10).trans ((congrFun (congrFun e_2 66) 10).trans ((congrFun (congrFun e_1 66) 10).trans hr_66_10))) ?_
    refine ev_gc (p' := 33) (v := 84) rfl rfl rfl ly_79 rfl rfl ?_
    refine ev_x (i := .aload_n 0) (len := 1) (p' := 34) (s' := [.ref 66, .ref 84]) rfl rfl rfl ?_
    refine ev_x (i := .iload_n 3) (len := 1) (p' := 35) (s' := [.int x_3, .ref 66, .ref 84]) rfl rfl rfl ?_
    obtain ⟨p_4, G_4, H⟩ := F_bd H
    refine ev_cv (d := d + 2) (As := [.int x_3]) (a := 66) (p' := 38) rfl rfl rfl ly_66 rfl rfl rfl rfl rfl rfl rfl (F_159_ok (d := d + 0)   G_4) ?_
    refine ev_st (st' := [.int p_4.1, .ref 84]) rfl ?_
    have e_4 := F_159_R G_4
    obtain ⟨p_5, G_5, H⟩ := F_bd H
    refine ev_cv (d := d + 2) (As := [.int p_4.1]) (a := 84) (p' := 41) rfl rfl rfl ly_84 rfl rfl rfl rfl rfl rfl rfl (N_133_ok (d := d + 1) nm_84 G_5) ?_
    refine ev_st (st' := []) rfl ?_
    have e_5 := N_133_R G_5
    refine ev_x (i := .aload_n 0) (len := 1) (p' := 42) (s' := [.ref 66]) rfl rfl rfl ?_
    refine ev_gr (p' := 45) (v := 79) rfl rfl rfl ly_66 rfl rfl ((congrFun (congrFun e_5 66) 10).trans ((congrFun (congrFun e_4 66) 10).trans ((congrFun (congrFun e_3 66) 10).trans ((congrFun (congrFun e_2 66) 10).trans ((congrFun (congrFun e_1 66) 10).trans hr_66_10))))) ?_
    refine ev_gc (p' := 48) (v := 86) rfl rfl rfl ly_79 rfl rfl ?_
    refine ev_x (i := .iconst 0) (len := 1) (p' := 49) (s' := [.int 0, .ref 86]) rfl rfl rfl ?_
    obtain ⟨p_6, G_6, H⟩ := F_bd H
    refine ev_cv (d := d + 2) (As := [.int 0]) (a := 86) (p' := 52) rfl rfl rfl ly_86 rfl rfl rfl rfl rfl rfl rfl (N_133_ok (d := d + 1) nm_86 G_6) ?_
    refine ev_st (st' := []) rfl ?_
    have e_6 := N_133_R G_6
    refine ev_x (i := .aload_n 0) (len := 1) (p' := 53) (s' := [.ref 66]) rfl rfl rfl ?_
    refine ev_gr (p' := 56) (v := 79) rfl rfl rfl ly_66 rfl rfl ((congrFun (congrFun e_6 66) 10).trans ((congrFun (congrFun e_5 66) 10).trans ((congrFun (congrFun e_4 66) 10).trans ((congrFun (congrFun e_3 66) 10).trans ((congrFun (congrFun e_2 66) 10).trans ((congrFun (congrFun e_1 66) 10).trans hr_66_10)))))) ?_
    refine ev_gc (p' := 59) (v := 88) rfl rfl rfl ly_79 rfl rfl ?_
    refine ev_x (i := .iconst (-1)) (len := 1) (p' := 60) (s' := [.int (-1), .ref 88]) rfl rfl rfl ?_
    obtain ⟨p_7, G_7, H⟩ := F_bd H
    refine ev_cv (d := d + 2) (As := [.int (-1)]) (a := 88) (p' := 63) rfl rfl rfl ly_88 rfl rfl rfl rfl rfl rfl rfl (N_133_ok (d := d + 1) nm_88 G_7) ?_
    refine ev_st (st' := []) rfl ?_
    have e_7 := N_133_R G_7
    refine ev_x (i := .aload_n 0) (len := 1) (p' := 64) (s' := [.ref 66]) rfl rfl rfl ?_
    refine ev_gr (p' := 67) (v := 79) rfl rfl rfl ly_66 rfl rfl ((congrFun (congrFun e_7 66) 10).trans ((congrFun (congrFun e_6 66) 10).trans ((congrFun (congrFun e_5 66) 10).trans ((congrFun (congrFun e_4 66) 10).trans ((congrFun (congrFun e_3 66) 10).trans ((congrFun (congrFun e_2 66) 10).trans ((congrFun (congrFun e_1 66) 10).trans hr_66_10))))))) ?_
    refine ev_gc (p' := 70) (v := 90) rfl rfl rfl ly_79 rfl rfl ?_
    refine ev_x (i := .iconst (-1)) (len := 1) (p' := 71) (s' := [.int (-1), .ref 90]) rfl rfl rfl ?_
    obtain ⟨p_8, G_8, H⟩ := F_bd H
    refine ev_cv (d := d + 2) (As := [.int (-1)]) (a := 90) (p' := 74) rfl rfl rfl ly_90 rfl rfl rfl rfl rfl rfl rfl (N_133_ok (d := d + 1) nm_90 G_8) ?_
    refine ev_st (st' := []) rfl ?_
    have e_8 := N_133_R G_8
    refine ev_x (i := .aload_n 0) (len := 1) (p' := 75) (s' := [.ref 66]) rfl rfl rfl ?_
    refine ev_gr (p' := 78) (v := 79) rfl rfl rfl ly_66 rfl rfl ((congrFun (congrFun e_8 66) 10).trans ((congrFun (congrFun e_7 66) 10).trans ((congrFun (congrFun e_6 66) 10).trans ((congrFun (congrFun e_5 66) 10).trans ((congrFun (congrFun e_4 66) 10).trans ((congrFun (congrFun e_3 66) 10).trans ((congrFun (congrFun e_2 66) 10).trans ((congrFun (congrFun e_1 66) 10).trans hr_66_10)))))))) ?_
    refine ev_gc (p' := 81) (v := 80) rfl rfl rfl ly_79 rfl rfl ?_
    refine ev_gi (p' := 84) (v := (gI p_8 80 1)) rfl rfl rfl ly_80 rfl rfl rfl ?_
    refine ev_x (i := .iconst 1) (len := 1) (p' := 85) (s' := [.int 1, .int (gI p_8 80 1)]) rfl rfl rfl ?_
    refine ev_x (i := .isub) (len := 1) (p' := 86) (s' := [.int ((gI p_8 80 1) - 1)]) rfl rfl rfl ?_
    obtain rfl := Option.some.inj H
    exact ev_iret rfl rfl rfl rfl
  · refine ev_x (i := .aload_n 0) (len := 1) (p' := 1) (s' := [.ref 66]) rfl rfl rfl ?_
    refine ev_gr (p' := 4) (v := 115) rfl rfl rfl ly_66 rfl rfl hr_66_10 ?_
    refine ev_gc (p' := 7) (v := 116) rfl rfl rfl ly_115 rfl rfl ?_
    refine ev_x (i := .iload_n 1) (len := 1) (p' := 8) (s' := [.int x_1, .ref 116]) rfl rfl rfl ?_
    obtain ⟨p_1, G_1, H⟩ := F_bd H
    refine ev_cv (d := d + 2) (As := [.int x_1]) (a := 116) (p' := 11) rfl rfl rfl ly_116 rfl rfl rfl rfl rfl rfl rfl (N_133_ok (d := d + 1) nm_116 G_1) ?_
    refine ev_st (st' := []) rfl ?_
    have e_1 := N_133_R G_1
    refine ev_x (i := .aload_n 0) (len := 1) (p' := 12) (s' := [.ref 66]) rfl rfl rfl ?_
    refine ev_gr (p' := 15) (v := 115) rfl rfl rfl ly_66 rfl rfl ((congrFun (congrFun e_1 66) 10).trans hr_66_10) ?_
    refine ev_gc (p' := 18) (v := 118) rfl rfl rfl ly_115 rfl rfl ?_
    refine ev_x (i := .aload_n 0) (len := 1) (p' := 19) (s' := [.ref 66, .ref 118]) rfl rfl rfl ?_
    refine ev_x (i := .iload_n 2) (len := 1) (p' := 20) (s' := [.int x_2, .ref 66, .ref 118]) rfl rfl rfl ?_
    obtain ⟨p_2, G_2, H⟩ := F_bd H
    refine ev_cv (d := d + 2) (As := [.int x_2]) (a := 66) (p' := 23) rfl rfl rfl ly_66 rfl rfl rfl rfl rfl rfl rfl (F_159_ok (d := d + 0)   G_2) ?_
    refine ev_st (st' := [.int p_2.1, .ref 118]) rfl ?_
    have e_2 := F_159_R G_2
    obtain ⟨p_3, G_3, H⟩ := F_bd H
    refine ev_cv (d := d + 2) (As := [.int p_2.1]) (a := 118) (p' := 26) rfl rfl rfl ly_118 rfl rfl rfl rfl rfl rfl rfl (N_133_ok (d := d + 1) nm_118 G_3) ?_
    refine ev_st (st' := []) rfl ?_
    have e_3 := N_133_R G_3
    refine ev_x (i := .aload_n 0) (len := 1) (p' := 27) (s' := [.ref 66]) rfl rfl rfl ?_
    refine ev_gr (p' := 30) (v := 115) rfl rfl rfl ly_66 rfl rfl ((congrFun (congrFun e_3 66) 10).trans ((congrFun (congrFun e_2 66) 10).trans ((congrFun (congrFun e_1 66) 10).trans hr_66_10))) ?_
    refine ev_gc (p' := 33) (v := 120) rfl rfl rfl ly_115 rfl rfl ?_
    refine ev_x (i := .aload_n 0) (len := 1) (p' := 34) (s' := [.ref 66, .ref 120]) rfl rfl rfl ?_
    refine ev_x (i := .iload_n 3) (len := 1) (p' := 35) (s' := [.int x_3, .ref 66, .ref 120]) rfl rfl rfl ?_
    obtain ⟨p_4, G_4, H⟩ := F_bd H
    refine ev_cv (d := d + 2) (As := [.int x_3]) (a := 66) (p' := 38) rfl rfl rfl ly_66 rfl rfl rfl rfl rfl rfl rfl (F_159_ok (d := d + 0)   G_4) ?_
    refine ev_st (st' := [.int p_4.1, .ref 120]) rfl ?_
    have e_4 := F_159_R G_4
    obtain ⟨p_5, G_5, H⟩ := F_bd H
    refine ev_cv (d := d + 2) (As := [.int p_4.1]) (a := 120) (p' := 41) rfl rfl rfl ly_120 rfl rfl rfl rfl rfl rfl rfl (N_133_ok (d := d + 1) nm_120 G_5) ?_
    refine ev_st (st' := []) rfl ?_
    have e_5 := N_133_R G_5
    refine ev_x (i := .aload_n 0) (len := 1) (p' := 42) (s' := [.ref 66]) rfl rfl rfl ?_
    refine ev_gr (p' := 45) (v := 115) rfl rfl rfl ly_66 rfl rfl ((congrFun (congrFun e_5 66) 10).trans ((congrFun (congrFun e_4 66) 10).trans ((congrFun (congrFun e_3 66) 10).trans ((congrFun (congrFun e_2 66) 10).trans ((congrFun (congrFun e_1 66) 10).trans hr_66_10))))) ?_
    refine ev_gc (p' := 48) (v := 122) rfl rfl rfl ly_115 rfl rfl ?_
    refine ev_x (i := .iconst 0) (len := 1) (p' := 49) (s' := [.int 0, .ref 122]) rfl rfl rfl ?_
    obtain ⟨p_6, G_6, H⟩ := F_bd H
    refine ev_cv (d := d + 2) (As := [.int 0]) (a := 122) (p' := 52) rfl rfl rfl ly_122 rfl rfl rfl rfl rfl rfl rfl (N_133_ok (d := d + 1) nm_122 G_6) ?_
    refine ev_st (st' := []) rfl ?_
    have e_6 := N_133_R G_6
    refine ev_x (i := .aload_n 0) (len := 1) (p' := 53) (s' := [.ref 66]) rfl rfl rfl ?_
    refine ev_gr (p' := 56) (v := 115) rfl rfl rfl ly_66 rfl rfl ((congrFun (congrFun e_6 66) 10).trans ((congrFun (congrFun e_5 66) 10).trans ((congrFun (congrFun e_4 66) 10).trans ((congrFun (congrFun e_3 66) 10).trans ((congrFun (congrFun e_2 66) 10).trans ((congrFun (congrFun e_1 66) 10).trans hr_66_10)))))) ?_
    refine ev_gc (p' := 59) (v := 124) rfl rfl rfl ly_115 rfl rfl ?_
    refine ev_x (i := .iconst (-1)) (len := 1) (p' := 60) (s' := [.int (-1), .ref 124]) rfl rfl rfl ?_
    obtain ⟨p_7, G_7, H⟩ := F_bd H
    refine ev_cv (d := d + 2) (As := [.int (-1)]) (a := 124) (p' := 63) rfl rfl rfl ly_124 rfl rfl rfl rfl rfl rfl rfl (N_133_ok (d := d + 1) nm_124 G_7) ?_
    refine ev_st (st' := []) rfl ?_
    have e_7 := N_133_R G_7
    refine ev_x (i := .aload_n 0) (len := 1) (p' := 64) (s' := [.ref 66]) rfl rfl rfl ?_
    refine ev_gr (p' := 67) (v := 115) rfl rfl rfl ly_66 rfl rfl ((congrFun (congrFun e_7 66) 10).trans ((congrFun (congrFun e_6 66) 10).trans ((congrFun (congrFun e_5 66) 10).trans ((congrFun (congrFun e_4 66) 10).trans ((congrFun (congrFun e_3 66) 10).trans ((congrFun (congrFun e_2 66) 10).trans ((congrFun (congrFun e_1 66) 10).trans hr_66_10))))))) ?_
    refine ev_gc (p' := 70) (v := 126) rfl rfl rfl ly_115 rfl rfl ?_
    refine ev_x (i := .iconst (-1)) (len := 1) (p' := 71) (s' := [.int (-1), .ref 126]) rfl rfl rfl ?_
    obtain ⟨p_8, G_8, H⟩ := F_bd H
    refine ev_cv (d := d + 2) (As := [.int (-1)]) (a := 126) (p' := 74) rfl rfl rfl ly_126 rfl rfl rfl rfl rfl rfl rfl (N_133_ok (d := d + 1) nm_126 G_8) ?_
    refine ev_st (st' := []) rfl ?_
    have e_8 := N_133_R G_8
    refine ev_x (i := .aload_n 0) (len := 1) (p' := 75) (s' := [.ref 66]) rfl rfl rfl ?_
    refine ev_gr (p' := 78) (v := 115) rfl rfl rfl ly_66 rfl rfl ((congrFun (congrFun e_8 66) 10).trans ((congrFun (congrFun e_7 66) 10).trans ((congrFun (congrFun e_6 66) 10).trans ((congrFun (congrFun e_5 66) 10).trans ((congrFun (congrFun e_4 66) 10).trans ((congrFun (congrFun e_3 66) 10).trans ((congrFun (congrFun e_2 66) 10).trans ((congrFun (congrFun e_1 66) 10).trans hr_66_10)))))))) ?_
    refine ev_gc (p' := 81) (v := 116) rfl rfl rfl ly_115 rfl rfl ?_
    refine ev_gi (p' := 84) (v := (gI p_8 116 1)) rfl rfl rfl ly_116 rfl rfl rfl ?_
    refine ev_x (i := .iconst 1) (len := 1) (p' := 85) (s' := [.int 1, .int (gI p_8 116 1)]) rfl rfl rfl ?_
    refine ev_x (i := .isub) (len := 1) (p' := 86) (s' := [.int ((gI p_8 116 1) - 1)]) rfl rfl rfl ?_
    obtain rfl := Option.some.inj H
    exact ev_iret rfl rfl rfl rfl
/-- GameTextModel.join(II)V, its loops -/
def L_175 (N : Nat) (g : Nat) : Nat → Int32 → Int32 → st_S → Option (st_S)
  | 0, _, _, _ => none
  | k + 1, l_2, l_3, σ =>
      (N_139 N (g + 11) l_3 (σ)).bind fun p_6 =>
      if p_6.1 < 0 then
        if aB l_3 (gN p_6.2 (g + 12)) then
        some (st_e (p_6.2) (g + 12) ((l_3 : Int32).toNatClampNeg) l_2)
        else none
      else
        (N_139 N (g + 11) l_3 (p_6.2)).bind fun p_9 =>
        L_175 N g k l_2 p_9.1 (p_9.2)
set_option maxRecDepth 100000 in
theorem L_175_R {N : Nat} {g : Nat} : ∀ (k : Nat) (l_2 : Int32) (l_3 : Int32) (σ : st_S) (p : st_S), L_175 N g k l_2 l_3 σ = some p → gR p = gR σ := by
  intro k
  induction k with
  | zero => intro l_2 l_3 σ p H; unfold L_175 at H; cases H
  | succ k ih =>
    intro l_2 l_3 σ p H
    unfold L_175 at H
    obtain ⟨p_6, G_6, H⟩ := F_bd H
    refine F_if H (fun _ H => ?_) (fun _ H => ?_)
    · obtain ⟨_, H⟩ := F_gd H
      obtain rfl := Option.some.inj H
      exact ((N_139_R G_6).trans rfl)
    · obtain ⟨p_9, G_9, H⟩ := F_bd H
      exact (((ih _ _ _ _ H)).trans ((N_139_R G_9).trans ((N_139_R G_6).trans rfl)))
set_option maxHeartbeats 4000000 in
set_option maxRecDepth 100000 in
theorem L_175_ok {N d : Nat} {g : Nat} (hg : g = 79 ∨ g = 115) : ∀ k : Nat, ∀ (l_2 : Int32) (l_3 : Int32) (σ : st_S) (lv : vz_L) (p : st_S), vz_g lv 0 = some (.ref 66) → vz_g lv 2 = some (.int l_2) → vz_g lv 3 = some (.int l_3) → vz_nbL (vz_gr P0) lv = true → gR σ 66 10 = g → L_175 N g k l_2 l_3 σ = some p → vz_ev P0 (d + 2) 175 45 lv [] (hp σ) (.inl none, hp p) := by
  rcases hg with rfl | rfl
  · intro k
    induction k with
    | zero => intro l_2 l_3 σ lv p g_0 g_2 g_3 hnb hr_66_10 H; unfold L_175 at H; cases H
    | succ k ih =>
      intro l_2 l_3 σ lv p g_0 g_2 g_3 hnb hr_66_10 H
      unfold L_175 at H
      refine ev_x (i := .aload_n 0) (len := 1) (p' := 46) (s' := [.ref 66]) rfl rfl (ld_a g_0) ?_
      refine ev_gr (p' := 49) (v := 79) rfl rfl rfl ly_66 rfl rfl hr_66_10 ?_
      refine ev_gc (p' := 52) (v := 90) rfl rfl rfl ly_79 rfl rfl ?_
      refine ev_x (i := .iload_n 3) (len := 1) (p' := 53) (s' := [.int l_3, .ref 90]) rfl rfl (ld_i g_3) ?_
      obtain ⟨p_6, G_6, H⟩ := F_bd H
      refine ev_cv (d := d + 1) (As := [.int l_3]) (a := 90) (p' := 56) rfl rfl rfl ly_90 rfl rfl rfl rfl rfl hnb rfl (N_139_ok (d := d + 0) nm_90 G_6) ?_
      refine ev_st (st' := [.int p_6.1]) rfl ?_
      have e_6 := N_139_R G_6
      refine F_if H (fun c_7 H => ?_) (fun c_7 H => ?_)
      · refine ev_b0 (t := 74) (p' := 74) rfl rfl rfl (if_pos c_7) ?_
        refine ev_x (i := .aload_n 0) (len := 1) (p' := 75) (s' := [.ref 66]) rfl rfl (ld_a g_0) ?_
        refine ev_gr (p' := 78) (v := 79) rfl rfl rfl ly_66 rfl rfl ((congrFun (congrFun e_6 66) 10).trans hr_66_10) ?_
        refine ev_gc (p' := 81) (v := 90) rfl rfl rfl ly_79 rfl rfl ?_
        refine ev_gc (p' := 84) (v := 91) rfl rfl rfl ly_90 rfl rfl ?_
        refine ev_x (i := .iload_n 3) (len := 1) (p' := 85) (s' := [.int l_3, .ref 91]) rfl rfl (ld_i g_3) ?_
        refine ev_x (i := .iload_n 2) (len := 1) (p' := 86) (s' := [.int l_2, .int l_3, .ref 91]) rfl rfl (ld_i g_2) ?_
        obtain ⟨b_8, H⟩ := F_gd H
        refine ev_pa (j := (l_3 : Int32).toNatClampNeg) (p' := 87) rfl rfl ly_91 rfl (gd_in b_8) rfl ?_
        obtain rfl := Option.some.inj H
        exact ev_vret rfl rfl rfl
      · refine ev_b0 (t := 74) (p' := 59) rfl rfl rfl (if_neg c_7) ?_
        refine ev_x (i := .aload_n 0) (len := 1) (p' := 60) (s' := [.ref 66]) rfl rfl (ld_a g_0) ?_
        refine ev_gr (p' := 63) (v := 79) rfl rfl rfl ly_66 rfl rfl ((congrFun (congrFun e_6 66) 10).trans hr_66_10) ?_
        refine ev_gc (p' := 66) (v := 90) rfl rfl rfl ly_79 rfl rfl ?_
        refine ev_x (i := .iload_n 3) (len := 1) (p' := 67) (s' := [.int l_3, .ref 90]) rfl rfl (ld_i g_3) ?_
        obtain ⟨p_9, G_9, H⟩ := F_bd H
        refine ev_cv (d := d + 1) (As := [.int l_3]) (a := 90) (p' := 70) rfl rfl rfl ly_90 rfl rfl rfl rfl rfl hnb rfl (N_139_ok (d := d + 0) nm_90 G_9) ?_
        refine ev_st (st' := [.int p_9.1]) rfl ?_
        have e_9 := N_139_R G_9
        refine ev_x (i := .istore_n 3) (len := 1) (p' := 71) (s' := []) (l' := vz_s1 (lv) 3 (.int p_9.1)) rfl rfl rfl ?_
        refine ev_x (i := .goto (-26)) (len := 3) (p' := 45) (s' := []) rfl rfl rfl ?_
        exact ih _ _ _ _ _ (vg_o (i := 3) (v := .int p_9.1) g_0 (by decide) (Or.inl rfl)) (vg_o (i := 3) (v := .int p_9.1) g_2 (by decide) (Or.inl rfl)) (vg_s (lv) 3 (.int p_9.1)) (nb_s1 hnb rfl) ((congrFun (congrFun e_9 66) 10).trans ((congrFun (congrFun e_6 66) 10).trans hr_66_10)) H
  · intro k
    induction k with
    | zero => intro l_2 l_3 σ lv p g_0 g_2 g_3 hnb hr_66_10 H; unfold L_175 at H; cases H
    | succ k ih =>
      intro l_2 l_3 σ lv p g_0 g_2 g_3 hnb hr_66_10 H
      unfold L_175 at H
      refine ev_x (i := .aload_n 0) (len := 1) (p' := 46) (s' := [.ref 66]) rfl rfl (ld_a g_0) ?_
      refine ev_gr (p' := 49) (v := 115) rfl rfl rfl ly_66 rfl rfl hr_66_10 ?_
      refine ev_gc (p' := 52) (v := 126) rfl rfl rfl ly_115 rfl rfl ?_
      refine ev_x (i := .iload_n 3) (len := 1) (p' := 53) (s' := [.int l_3, .ref 126]) rfl rfl (ld_i g_3) ?_
      obtain ⟨p_6, G_6, H⟩ := F_bd H
      refine ev_cv (d := d + 1) (As := [.int l_3]) (a := 126) (p' := 56) rfl rfl rfl ly_126 rfl rfl rfl rfl rfl hnb rfl (N_139_ok (d := d + 0) nm_126 G_6) ?_
      refine ev_st (st' := [.int p_6.1]) rfl ?_
      have e_6 := N_139_R G_6
      refine F_if H (fun c_7 H => ?_) (fun c_7 H => ?_)
      · refine ev_b0 (t := 74) (p' := 74) rfl rfl rfl (if_pos c_7) ?_
        refine ev_x (i := .aload_n 0) (len := 1) (p' := 75) (s' := [.ref 66]) rfl rfl (ld_a g_0) ?_
        refine ev_gr (p' := 78) (v := 115) rfl rfl rfl ly_66 rfl rfl ((congrFun (congrFun e_6 66) 10).trans hr_66_10) ?_
        refine ev_gc (p' := 81) (v := 126) rfl rfl rfl ly_115 rfl rfl ?_
        refine ev_gc (p' := 84) (v := 127) rfl rfl rfl ly_126 rfl rfl ?_
        refine ev_x (i := .iload_n 3) (len := 1) (p' := 85) (s' := [.int l_3, .ref 127]) rfl rfl (ld_i g_3) ?_
        refine ev_x (i := .iload_n 2) (len := 1) (p' := 86) (s' := [.int l_2, .int l_3, .ref 127]) rfl rfl (ld_i g_2) ?_
        obtain ⟨b_8, H⟩ := F_gd H
        refine ev_pa (j := (l_3 : Int32).toNatClampNeg) (p' := 87) rfl rfl ly_127 rfl (gd_in b_8) rfl ?_
        obtain rfl := Option.some.inj H
        exact ev_vret rfl rfl rfl
      · refine ev_b0 (t := 74) (p' := 59) rfl rfl rfl (if_neg c_7) ?_
        refine ev_x (i := .aload_n 0) (len := 1) (p' := 60) (s' := [.ref 66]) rfl rfl (ld_a g_0) ?_
        refine ev_gr (p' := 63) (v := 115) rfl rfl rfl ly_66 rfl rfl ((congrFun (congrFun e_6 66) 10).trans hr_66_10) ?_
        refine ev_gc (p' := 66) (v := 126) rfl rfl rfl ly_115 rfl rfl ?_
        refine ev_x (i := .iload_n 3) (len := 1) (p' := 67) (s' := [.int l_3, .ref 126]) rfl rfl (ld_i g_3) ?_
        obtain ⟨p_9, G_9, H⟩ := F_bd H
        refine ev_cv (d := d + 1) (As := [.int l_3]) (a := 126) (p' := 70) rfl rfl rfl ly_126 rfl rfl rfl rfl rfl hnb rfl (N_139_ok (d := d + 0) nm_126 G_9) ?_
        refine ev_st (st' := [.int p_9.1]) rfl ?_
        have e_9 := N_139_R G_9
        refine ev_x (i := .istore_n 3) (len := 1) (p' := 71) (s' := []) (l' := vz_s1 (lv) 3 (.int p_9.1)) rfl rfl rfl ?_
        refine ev_x (i := .goto (-26)) (len := 3) (p' := 45) (s' := []) rfl rfl rfl ?_
        exact ih _ _ _ _ _ (vg_o (i := 3) (v := .int p_9.1) g_0 (by decide) (Or.inl rfl)) (vg_o (i := 3) (v := .int p_9.1) g_2 (by decide) (Or.inl rfl)) (vg_s (lv) 3 (.int p_9.1)) (nb_s1 hnb rfl) ((congrFun (congrFun e_9 66) 10).trans ((congrFun (congrFun e_6 66) 10).trans hr_66_10)) H
/-- GameTextModel.join(II)V -/
def F_175 (N : Nat) (g : Nat) (x_1 : Int32) (x_2 : Int32) (σ : st_S) : Option (st_S) :=
  if 0 ≤ x_1 then
    (N_139 N (g + 9) x_1 (σ)).bind fun p_2 =>
    if 0 ≤ p_2.1 then
      (N_139 N (g + 9) x_1 (p_2.2)).bind fun p_4 =>
      L_175 N g N x_2 p_4.1 (p_4.2)
    else
      if aB x_1 (gN p_2.2 (g + 10)) then
      some (st_e (p_2.2) (g + 10) ((x_1 : Int32).toNatClampNeg) x_2)
      else none
  else
    some (σ)
set_option maxRecDepth 100000 in
theorem F_175_R {N : Nat} {g : Nat} {x_1 : Int32} {x_2 : Int32} {σ : st_S} {p : st_S} (H : F_175 N g x_1 x_2 σ = some p) : gR p = gR σ := by
  unfold F_175 at H
  refine F_if H (fun _ H => ?_) (fun _ H => ?_)
  · obtain ⟨p_2, G_2, H⟩ := F_bd H
    refine F_if H (fun _ H => ?_) (fun _ H => ?_)
    · obtain ⟨p_4, G_4, H⟩ := F_bd H
      exact (((L_175_R _ _ _ _ _ H)).trans ((N_139_R G_4).trans ((N_139_R G_2).trans rfl)))
    · obtain ⟨_, H⟩ := F_gd H
      obtain rfl := Option.some.inj H
      exact ((N_139_R G_2).trans rfl)
  · obtain rfl := Option.some.inj H
    exact rfl
set_option maxHeartbeats 4000000 in
set_option maxRecDepth 100000 in
theorem F_175_ok {N d : Nat} {g : Nat} (hg : g = 79 ∨ g = 115) {x_1 : Int32} {x_2 : Int32} {σ : st_S} {p : st_S} (hr_66_10 : gR σ 66 10 = g) (H : F_175 N g x_1 x_2 σ = some p) : vz_ev P0 (d + 2) 175 0 (lv_args 0 [.ref 66, .int x_1, .int x_2]) [] (hp σ) (.inl none, hp p) := by
  unfold F_175 at H
  rcases hg with rfl | rfl
  · refine ev_x (i := .iload_n 1) (len := 1) (p' := 1) (s' := [.int x_1]) rfl rfl rfl ?_
    refine F_if H (fun c_1 H => ?_) (fun c_1 H => ?_)
    · refine ev_b0 (t := 5) (p' := 5) rfl rfl rfl (if_pos c_1) ?_
      refine ev_x (i := .aload_n 0) (len := 1) (p' := 6) (s' := [.ref 66]) rfl rfl rfl ?_
      refine ev_gr (p' := 9) (v := 79) rfl rfl rfl ly_66 rfl rfl hr_66_10 ?_
      refine ev_gc (p' := 12) (v := 88) rfl rfl rfl ly_79 rfl rfl ?_
      refine ev_x (i := .iload_n 1) (len := 1) (p' := 13) (s' := [.int x_1, .ref 88]) rfl rfl rfl ?_
      obtain ⟨p_2, G_2, H⟩ := F_bd H
      refine ev_cv (d := d + 1) (As := [.int x_1]) (a := 88) (p' := 16) rfl rfl rfl ly_88 rfl rfl rfl rfl rfl rfl rfl (N_139_ok (d := d + 0) nm_88 G_2) ?_
      refine ev_st (st' := [.int p_2.1]) rfl ?_
      have e_2 := N_139_R G_2
      refine F_if H (fun c_3 H => ?_) (fun c_3 H => ?_)
      · refine ev_b0 (t := 33) (p' := 33) rfl rfl rfl (if_pos c_3) ?_
        refine ev_x (i := .aload_n 0) (len := 1) (p' := 34) (s' := [.ref 66]) rfl rfl rfl ?_
        refine ev_gr (p' := 37) (v := 79) rfl rfl rfl ly_66 rfl rfl ((congrFun (congrFun e_2 66) 10).trans hr_66_10) ?_
        refine ev_gc (p' := 40) (v := 88) rfl rfl rfl ly_79 rfl rfl ?_
        refine ev_x (i := .iload_n 1) (len := 1) (p' := 41) (s' := [.int x_1, .ref 88]) rfl rfl rfl ?_
        obtain ⟨p_4, G_4, H⟩ := F_bd H
        refine ev_cv (d := d + 1) (As := [.int x_1]) (a := 88) (p' := 44) rfl rfl rfl ly_88 rfl rfl rfl rfl rfl rfl rfl (N_139_ok (d := d + 0) nm_88 G_4) ?_
        refine ev_st (st' := [.int p_4.1]) rfl ?_
        have e_4 := N_139_R G_4
        refine ev_x (i := .istore_n 3) (len := 1) (p' := 45) (s' := []) (l' := [(3, .int p_4.1), (0, .ref 66), (1, .int x_1), (2, .int x_2)]) rfl rfl rfl ?_
        exact (L_175_ok (d := d) (Or.inl rfl) N) _ _ _ _ _ rfl rfl rfl rfl ((congrFun (congrFun e_4 66) 10).trans ((congrFun (congrFun e_2 66) 10).trans hr_66_10)) H
      · refine ev_b0 (t := 33) (p' := 19) rfl rfl rfl (if_neg c_3) ?_
        refine ev_x (i := .aload_n 0) (len := 1) (p' := 20) (s' := [.ref 66]) rfl rfl rfl ?_
        refine ev_gr (p' := 23) (v := 79) rfl rfl rfl ly_66 rfl rfl ((congrFun (congrFun e_2 66) 10).trans hr_66_10) ?_
        refine ev_gc (p' := 26) (v := 88) rfl rfl rfl ly_79 rfl rfl ?_
        refine ev_gc (p' := 29) (v := 89) rfl rfl rfl ly_88 rfl rfl ?_
        refine ev_x (i := .iload_n 1) (len := 1) (p' := 30) (s' := [.int x_1, .ref 89]) rfl rfl rfl ?_
        refine ev_x (i := .iload_n 2) (len := 1) (p' := 31) (s' := [.int x_2, .int x_1, .ref 89]) rfl rfl rfl ?_
        obtain ⟨b_5, H⟩ := F_gd H
        refine ev_pa (j := (x_1 : Int32).toNatClampNeg) (p' := 32) rfl rfl ly_89 rfl (gd_in b_5) rfl ?_
        obtain rfl := Option.some.inj H
        exact ev_vret rfl rfl rfl
    · refine ev_b0 (t := 5) (p' := 4) rfl rfl rfl (if_neg c_1) ?_
      obtain rfl := Option.some.inj H
      exact ev_vret rfl rfl rfl
  · refine ev_x (i := .iload_n 1) (len := 1) (p' := 1) (s' := [.int x_1]) rfl rfl rfl ?_
    refine F_if H (fun c_1 H => ?_) (fun c_1 H => ?_)
    · refine ev_b0 (t := 5) (p' := 5) rfl rfl rfl (if_pos c_1) ?_
      refine ev_x (i := .aload_n 0) (len := 1) (p' := 6) (s' := [.ref 66]) rfl rfl rfl ?_
      refine ev_gr (p' := 9) (v := 115) rfl rfl rfl ly_66 rfl rfl hr_66_10 ?_
      refine ev_gc (p' := 12) (v := 124) rfl rfl rfl ly_115 rfl rfl ?_
      refine ev_x (i := .iload_n 1) (len := 1) (p' := 13) (s' := [.int x_1, .ref 124]) rfl rfl rfl ?_
      obtain ⟨p_2, G_2, H⟩ := F_bd H
      refine ev_cv (d := d + 1) (As := [.int x_1]) (a := 124) (p' := 16) rfl rfl rfl ly_124 rfl rfl rfl rfl rfl rfl rfl (N_139_ok (d := d + 0) nm_124 G_2) ?_
      refine ev_st (st' := [.int p_2.1]) rfl ?_
      have e_2 := N_139_R G_2
      refine F_if H (fun c_3 H => ?_) (fun c_3 H => ?_)
      · refine ev_b0 (t := 33) (p' := 33) rfl rfl rfl (if_pos c_3) ?_
        refine ev_x (i := .aload_n 0) (len := 1) (p' := 34) (s' := [.ref 66]) rfl rfl rfl ?_
        refine ev_gr (p' := 37) (v := 115) rfl rfl rfl ly_66 rfl rfl ((congrFun (congrFun e_2 66) 10).trans hr_66_10) ?_
        refine ev_gc (p' := 40) (v := 124) rfl rfl rfl ly_115 rfl rfl ?_
        refine ev_x (i := .iload_n 1) (len := 1) (p' := 41) (s' := [.int x_1, .ref 124]) rfl rfl rfl ?_
        obtain ⟨p_4, G_4, H⟩ := F_bd H
        refine ev_cv (d := d + 1) (As := [.int x_1]) (a := 124) (p' := 44) rfl rfl rfl ly_124 rfl rfl rfl rfl rfl rfl rfl (N_139_ok (d := d + 0) nm_124 G_4) ?_
        refine ev_st (st' := [.int p_4.1]) rfl ?_
        have e_4 := N_139_R G_4
        refine ev_x (i := .istore_n 3) (len := 1) (p' := 45) (s' := []) (l' := [(3, .int p_4.1), (0, .ref 66), (1, .int x_1), (2, .int x_2)]) rfl rfl rfl ?_
        exact (L_175_ok (d := d) (Or.inr rfl) N) _ _ _ _ _ rfl rfl rfl rfl ((congrFun (congrFun e_4 66) 10).trans ((congrFun (congrFun e_2 66) 10).trans hr_66_10)) H
      · refine ev_b0 (t := 33) (p' := 19) rfl rfl rfl (if_neg c_3) ?_
        refine ev_x (i := .aload_n 0) (len := 1) (p' := 20) (s' := [.ref 66]) rfl rfl rfl ?_
        refine ev_gr (p' := 23) (v := 115) rfl rfl rfl ly_66 rfl rfl ((congrFun (congrFun e_2 66) 10).trans hr_66_10) ?_
        refine ev_gc (p' := 26) (v := 124) rfl rfl rfl ly_115 rfl rfl ?_
        refine ev_gc (p' := 29) (v := 125) rfl rfl rfl ly_124 rfl rfl ?_
        refine ev_x (i := .iload_n 1) (len := 1) (p' := 30) (s' := [.int x_1, .ref 125]) rfl rfl rfl ?_
        refine ev_x (i := .iload_n 2) (len := 1) (p' := 31) (s' := [.int x_2, .int x_1, .ref 125]) rfl rfl rfl ?_
        obtain ⟨b_5, H⟩ := F_gd H
        refine ev_pa (j := (x_1 : Int32).toNatClampNeg) (p' := 32) rfl rfl ly_125 rfl (gd_in b_5) rfl ?_
        obtain rfl := Option.some.inj H
        exact ev_vret rfl rfl rfl
    · refine ev_b0 (t := 5) (p' := 4) rfl rfl rfl (if_neg c_1) ?_
      obtain rfl := Option.some.inj H
      exact ev_vret rfl rfl rfl
/-- GameTextModel.colonOf(II)I, its loops -/
def L_176 (N : Nat) : Nat → Int32 → Int32 → Int32 → Int32 → st_S → Option (Int32 × st_S)
  | 0, _, _, _, _, _ => none
  | k + 1, l_3, l_4, l_5, l_6, σ =>
      if l_6 = 0 then
        (F_162 N (l_5 + 1) (σ)).bind fun p_2 =>
        L_176 N k (if (if p_2.1 = 36 then (l_4 + 1) else (if p_2.1 = 37 then (l_4 - 1) else l_4) : Int32) ≤ 0 then (if p_2.1 = 32 then (l_3 + 1) else (if p_2.1 = 33 then (l_3 - 1) else l_3)) else l_3 : Int32) (if p_2.1 = 36 then (l_4 + 1) else (if p_2.1 = 37 then (l_4 - 1) else l_4) : Int32) (l_5 + 1) (if p_2.1 = 33 then (if (if p_2.1 = 36 then (l_4 + 1) else (if p_2.1 = 37 then (l_4 - 1) else l_4) : Int32) = 0 then (if l_3 = 0 then 1 else 0) else 0) else 0 : Int32) (p_2.2)
      else
        some (l_5, σ)
set_option maxRecDepth 100000 in
theorem L_176_R {N : Nat} : ∀ (k : Nat) (l_3 : Int32) (l_4 : Int32) (l_5 : Int32) (l_6 : Int32) (σ : st_S) (p : Int32 × st_S), L_176 N k l_3 l_4 l_5 l_6 σ = some p → gR p.2 = gR σ := by
  intro k
  induction k with
  | zero => intro l_3 l_4 l_5 l_6 σ p H; unfold L_176 at H; cases H
  | succ k ih =>
    intro l_3 l_4 l_5 l_6 σ p H
    unfold L_176 at H
    refine F_if H (fun _ H => ?_) (fun _ H => ?_)
    · obtain ⟨p_2, G_2, H⟩ := F_bd H
      exact (((ih _ _ _ _ _ _ H)).trans ((F_162_R G_2).trans rfl))
    · obtain rfl := Option.some.inj H
      exact rfl
set_option maxHeartbeats 4000000 in
set_option maxRecDepth 100000 in
theorem L_176_ok {N d : Nat} : ∀ k : Nat, ∀ (l_3 : Int32) (l_4 : Int32) (l_5 : Int32) (l_6 : Int32) (σ : st_S) (lv : vz_L) (p : Int32 × st_S), vz_g lv 0 = some (.ref 66) → vz_g lv 3 = some (.int l_3) → vz_g lv 4 = some (.int l_4) → vz_g lv 5 = some (.int l_5) → vz_g lv 6 = some (.int l_6) → vz_nbL (vz_gr P0) lv = true → L_176 N k l_3 l_4 l_5 l_6 σ = some p → vz_ev P0 (d + 3) 176 11 lv [] (hp σ) (.inl (some (.int p.1)), hp p.2) := by
  intro k
  induction k with
  | zero => intro l_3 l_4 l_5 l_6 σ lv p g_0 g_3 g_4 g_5 g_6 hnb H; unfold L_176 at H; cases H
  | succ k ih =>
    intro l_3 l_4 l_5 l_6 σ lv p g_0 g_3 g_4 g_5 g_6 hnb H
    unfold L_176 at H
    refine ev_x (i := .iload 6) (len := 2) (p' := 13) (s' := [.int l_6]) rfl rfl (ld_i g_6) ?_
    refine F_if H (fun c_1 H => ?_) (fun c_1 H => ?_)
    · refine ev_b0 (t := 122) (p' := 16) rfl rfl rfl (if_neg (fun q => q c_1)) ?_
      refine ev_x (i := .iinc 5 1) (len := 3) (p' := 19) (s' := []) (l' := vz_s1 (lv) 5 (.int (l_5 + 1))) rfl rfl (ld_inc g_5 rfl) ?_
      refine ev_x (i := .aload_n 0) (len := 1) (p' := 20) (s' := [.ref 66]) rfl rfl (ld_a (vg_o (i := 5) (v := .int (l_5 + 1)) g_0 (by decide) (Or.inl rfl))) ?_
      refine ev_x (i := .iload 5) (len := 2) (p' := 22) (s' := [.int (l_5 + 1), .ref 66]) rfl rfl (ld_i (vg_s (lv) 5 (.int (l_5 + 1)))) ?_
      obtain ⟨p_2, G_2, H⟩ := F_bd H
      refine ev_cv (d := d + 2) (As := [.int (l_5 + 1)]) (a := 66) (p' := 25) rfl rfl rfl ly_66 rfl rfl rfl rfl rfl (nb_s1 hnb rfl) rfl (F_162_ok (d := d + 0)   G_2) ?_
      refine ev_st (st' := [.int p_2.1]) rfl ?_
      have e_2 := F_162_R G_2
      refine ev_x (i := .istore 7) (len := 2) (p' := 27) (s' := []) (l' := vz_s1 (vz_s1 (lv) 5 (.int (l_5 + 1))) 7 (.int p_2.1)) rfl rfl rfl ?_
      refine ev_x (i := .iload 7) (len := 2) (p' := 29) (s' := [.int p_2.1]) rfl rfl (ld_i (vg_s (vz_s1 (lv) 5 (.int (l_5 + 1))) 7 (.int p_2.1))) ?_
      refine ev_x (i := .bipush 36) (len := 2) (p' := 31) (s' := [.int 36, .int p_2.1]) rfl rfl rfl ?_
      refine F_jn (A := vz_ev P0 (d + 3) 176 57 (vz_s1 (vz_s1 (lv) 5 (.int (l_5 + 1))) 7 (.int p_2.1)) [.int (if p_2.1 = 36 then (l_4 + 1) else (if p_2.1 = 37 then (l_4 - 1) else l_4) : Int32)] (hp (p_2.2)) (.inl (some (.int p.1)), hp p.2)) ?_ (fun J => ?_)
      · refine ev_x (i := .istore 4) (len := 2) (p' := 59) (s' := []) (l' := vz_s1 (vz_s1 (vz_s1 (lv) 5 (.int (l_5 + 1))) 7 (.int p_2.1)) 4 (.int (if p_2.1 = 36 then (l_4 + 1) else (if p_2.1 = 37 then (l_4 - 1) else l_4) : Int32))) rfl rfl rfl ?_
        refine ev_x (i := .iload 7) (len := 2) (p' := 61) (s' := [.int p_2.1]) rfl rfl (ld_i (vg_o (i := 4) (v := .int (if p_2.1 = 36 then (l_4 + 1) else (if p_2.1 = 37 then (l_4 - 1) else l_4) : Int32)) (vg_s (vz_s1 (lv) 5 (.int (l_5 + 1))) 7 (.int p_2.1)) (by decide) (Or.inl rfl))) ?_
        refine ev_x (i := .bipush 33) (len := 2) (p' := 63) (s' := [.int 33, .int p_2.1]) rfl rfl rfl ?_
        refine F_jn (A := vz_ev P0 (d + 3) 176 80 (vz_s1 (vz_s1 (vz_s1 (lv) 5 (.int (l_5 + 1))) 7 (.int p_2.1)) 4 (.int (if p_2.1 = 36 then (l_4 + 1) else (if p_2.1 = 37 then (l_4 - 1) else l_4) : Int32))) [.int (if p_2.1 = 33 then (if (if p_2.1 = 36 then (l_4 + 1) else (if p_2.1 = 37 then (l_4 - 1) else l_4) : Int32) = 0 then (if l_3 = 0 then 1 else 0) else 0) else 0 : Int32)] (hp (p_2.2)) (.inl (some (.int p.1)), hp p.2)) ?_ (fun J => ?_)
        · refine ev_x (i := .istore 6) (len := 2) (p' := 82) (s' := []) (l' := vz_s1 (vz_s1 (vz_s1 (vz_s1 (lv) 5 (.int (l_5 + 1))) 7 (.int p_2.1)) 4 (.int (if p_2.1 = 36 then (l_4 + 1) else (if p_2.1 = 37 then (l_4 - 1) else l_4) : Int32))) 6 (.int (if p_2.1 = 33 then (if (if p_2.1 = 36 then (l_4 + 1) else (if p_2.1 = 37 then (l_4 - 1) else l_4) : Int32) = 0 then (if l_3 = 0 then 1 else 0) else 0) else 0 : Int32))) rfl rfl rfl ?_
          refine ev_x (i := .iload 4) (len := 2) (p' := 84) (s' := [.int (if p_2.1 = 36 then (l_4 + 1) else (if p_2.1 = 37 then (l_4 - 1) else l_4) : Int32)]) rfl rfl (ld_i (vg_o (i := 6) (v := .int (if p_2.1 = 33 then (if (if p_2.1 = 36 then (l_4 + 1) else (if p_2.1 = 37 then (l_4 - 1) else l_4) : Int32) = 0 then (if l_3 = 0 then 1 else 0) else 0) else 0 : Int32)) (vg_s (vz_s1 (vz_s1 (lv) 5 (.int (l_5 + 1))) 7 (.int p_2.1)) 4 (.int (if p_2.1 = 36 then (l_4 + 1) else (if p_2.1 = 37 then (l_4 - 1) else l_4) : Int32))) (by decide) (Or.inl rfl))) ?_
          refine F_jn (A := vz_ev P0 (d + 3) 176 118 (vz_s1 (vz_s1 (vz_s1 (vz_s1 (lv) 5 (.int (l_5 + 1))) 7 (.int p_2.1)) 4 (.int (if p_2.1 = 36 then (l_4 + 1) else (if p_2.1 = 37 then (l_4 - 1) else l_4) : Int32))) 6 (.int (if p_2.1 = 33 then (if (if p_2.1 = 36 then (l_4 + 1) else (if p_2.1 = 37 then (l_4 - 1) else l_4) : Int32) = 0 then (if l_3 = 0 then 1 else 0) else 0) else 0 : Int32))) [.int (if (if p_2.1 = 36 then (l_4 + 1) else (if p_2.1 = 37 then (l_4 - 1) else l_4) : Int32) ≤ 0 then (if p_2.1 = 32 then (l_3 + 1) else (if p_2.1 = 33 then (l_3 - 1) else l_3)) else l_3 : Int32)] (hp (p_2.2)) (.inl (some (.int p.1)), hp p.2)) ?_ (fun J => ?_)
          · refine ev_x (i := .istore_n 3) (len := 1) (p' := 119) (s' := []) (l' := vz_s1 (vz_s1 (vz_s1 (vz_s1 (vz_s1 (lv) 5 (.int (l_5 + 1))) 7 (.int p_2.1)) 4 (.int (if p_2.1 = 36 then (l_4 + 1) else (if p_2.1 = 37 then (l_4 - 1) else l_4) : Int32))) 6 (.int (if p_2.1 = 33 then (if (if p_2.1 = 36 then (l_4 + 1) else (if p_2.1 = 37 then (l_4 - 1) else l_4) : Int32) = 0 then (if l_3 = 0 then 1 else 0) else 0) else 0 : Int32))) 3 (.int (if (if p_2.1 = 36 then (l_4 + 1) else (if p_2.1 = 37 then (l_4 - 1) else l_4) : Int32) ≤ 0 then (if p_2.1 = 32 then (l_3 + 1) else (if p_2.1 = 33 then (l_3 - 1) else l_3)) else l_3 : Int32))) rfl rfl rfl ?_
            refine ev_x (i := .goto (-108)) (len := 3) (p' := 11) (s' := []) rfl rfl rfl ?_
            exact ih _ _ _ _ _ _ _ (vg_o (i := 3) (v := .int (if (if p_2.1 = 36 then (l_4 + 1) else (if p_2.1 = 37 then (l_4 - 1) else l_4) : Int32) ≤ 0 then (if p_2.1 = 32 then (l_3 + 1) else (if p_2.1 = 33 then (l_3 - 1) else l_3)) else l_3 : Int32)) (vg_o (i := 6) (v := .int (if p_2.1 = 33 then (if (if p_2.1 = 36 then (l_4 + 1) else (if p_2.1 = 37 then (l_4 - 1) else l_4) : Int32) = 0 then (if l_3 = 0 then 1 else 0) else 0) else 0 : Int32)) (vg_o (i := 4) (v := .int (if p_2.1 = 36 then (l_4 + 1) else (if p_2.1 = 37 then (l_4 - 1) else l_4) : Int32)) (vg_o (i := 7) (v := .int p_2.1) (vg_o (i := 5) (v := .int (l_5 + 1)) g_0 (by decide) (Or.inl rfl)) (by decide) (Or.inl rfl)) (by decide) (Or.inl rfl)) (by decide) (Or.inl rfl)) (by decide) (Or.inl rfl)) (vg_s (vz_s1 (vz_s1 (vz_s1 (vz_s1 (lv) 5 (.int (l_5 + 1))) 7 (.int p_2.1)) 4 (.int (if p_2.1 = 36 then (l_4 + 1) else (if p_2.1 = 37 then (l_4 - 1) else l_4) : Int32))) 6 (.int (if p_2.1 = 33 then (if (if p_2.1 = 36 then (l_4 + 1) else (if p_2.1 = 37 then (l_4 - 1) else l_4) : Int32) = 0 then (if l_3 = 0 then 1 else 0) else 0) else 0 : Int32))) 3 (.int (if (if p_2.1 = 36 then (l_4 + 1) else (if p_2.1 = 37 then (l_4 - 1) else l_4) : Int32) ≤ 0 then (if p_2.1 = 32 then (l_3 + 1) else (if p_2.1 = 33 then (l_3 - 1) else l_3)) else l_3 : Int32))) (vg_o (i := 3) (v := .int (if (if p_2.1 = 36 then (l_4 + 1) else (if p_2.1 = 37 then (l_4 - 1) else l_4) : Int32) ≤ 0 then (if p_2.1 = 32 then (l_3 + 1) else (if p_2.1 = 33 then (l_3 - 1) else l_3)) else l_3 : Int32)) (vg_o (i := 6) (v := .int (if p_2.1 = 33 then (if (if p_2.1 = 36 then (l_4 + 1) else (if p_2.1 = 37 then (l_4 - 1) else l_4) : Int32) = 0 then (if l_3 = 0 then 1 else 0) else 0) else 0 : Int32)) (vg_s (vz_s1 (vz_s1 (lv) 5 (.int (l_5 + 1))) 7 (.int p_2.1)) 4 (.int (if p_2.1 = 36 then (l_4 + 1) else (if p_2.1 = 37 then (l_4 - 1) else l_4) : Int32))) (by decide) (Or.inl rfl)) (by decide) (Or.inl rfl)) (vg_o (i := 3) (v := .int (if (if p_2.1 = 36 then (l_4 + 1) else (if p_2.1 = 37 then (l_4 - 1) else l_4) : Int32) ≤ 0 then (if p_2.1 = 32 then (l_3 + 1) else (if p_2.1 = 33 then (l_3 - 1) else l_3)) else l_3 : Int32)) (vg_o (i := 6) (v := .int (if p_2.1 = 33 then (if (if p_2.1 = 36 then (l_4 + 1) else (if p_2.1 = 37 then (l_4 - 1) else l_4) : Int32) = 0 then (if l_3 = 0 then 1 else 0) else 0) else 0 : Int32)) (vg_o (i := 4) (v := .int (if p_2.1 = 36 then (l_4 + 1) else (if p_2.1 = 37 then (l_4 - 1) else l_4) : Int32)) (vg_o (i := 7) (v := .int p_2.1) (vg_s (lv) 5 (.int (l_5 + 1))) (by decide) (Or.inl rfl)) (by decide) (Or.inl rfl)) (by decide) (Or.inl rfl)) (by decide) (Or.inl rfl)) (vg_o (i := 3) (v := .int (if (if p_2.1 = 36 then (l_4 + 1) else (if p_2.1 = 37 then (l_4 - 1) else l_4) : Int32) ≤ 0 then (if p_2.1 = 32 then (l_3 + 1) else (if p_2.1 = 33 then (l_3 - 1) else l_3)) else l_3 : Int32)) (vg_s (vz_s1 (vz_s1 (vz_s1 (lv) 5 (.int (l_5 + 1))) 7 (.int p_2.1)) 4 (.int (if p_2.1 = 36 then (l_4 + 1) else (if p_2.1 = 37 then (l_4 - 1) else l_4) : Int32))) 6 (.int (if p_2.1 = 33 then (if (if p_2.1 = 36 then (l_4 + 1) else (if p_2.1 = 37 then (l_4 - 1) else l_4) : Int32) = 0 then (if l_3 = 0 then 1 else 0) else 0) else 0 : Int32))) (by decide) (Or.inl rfl)) (nb_s1 (nb_s1 (nb_s1 (nb_s1 (nb_s1 hnb rfl) rfl) rfl) rfl) rfl)  H
          · by_cases c_8 : (if p_2.1 = 36 then (l_4 + 1) else (if p_2.1 = 37 then (l_4 - 1) else l_4) : Int32) ≤ 0
            · refine ev_b0 (t := 91) (p' := 91) rfl rfl rfl (if_pos c_8) ?_
              refine ev_x (i := .iload 7) (len := 2) (p' := 93) (s' := [.int p_2.1]) rfl rfl (ld_i (vg_o (i := 6) (v := .int (if p_2.1 = 33 then (if (if p_2.1 = 36 then (l_4 + 1) else (if p_2.1 = 37 then (l_4 - 1) else l_4) : Int32) = 0 then (if l_3 = 0 then 1 else 0) else 0) else 0 : Int32)) (vg_o (i := 4) (v := .int (if p_2.1 = 36 then (l_4 + 1) else (if p_2.1 = 37 then (l_4 - 1) else l_4) : Int32)) (vg_s (vz_s1 (lv) 5 (.int (l_5 + 1))) 7 (.int p_2.1)) (by decide) (Or.inl rfl)) (by decide) (Or.inl rfl))) ?_
              refine ev_x (i := .bipush 32) (len := 2) (p' := 95) (s' := [.int 32, .int p_2.1]) rfl rfl rfl ?_
              by_cases c_9 : p_2.1 = 32
              · refine ev_b2 (t := 104) (p' := 98) rfl rfl rfl (if_neg (fun q => q c_9)) ?_
                refine ev_x (i := .iload_n 3) (len := 1) (p' := 99) (s' := [.int l_3]) rfl rfl (ld_i (vg_o (i := 6) (v := .int (if p_2.1 = 33 then (if (if p_2.1 = 36 then (l_4 + 1) else (if p_2.1 = 37 then (l_4 - 1) else l_4) : Int32) = 0 then (if l_3 = 0 then 1 else 0) else 0) else 0 : Int32)) (vg_o (i := 4) (v := .int (if p_2.1 = 36 then (l_4 + 1) else (if p_2.1 = 37 then (l_4 - 1) else l_4) : Int32)) (vg_o (i := 7) (v := .int p_2.1) (vg_o (i := 5) (v := .int (l_5 + 1)) g_3 (by decide) (Or.inl rfl)) (by decide) (Or.inl rfl)) (by decide) (Or.inl rfl)) (by decide) (Or.inl rfl))) ?_
                refine ev_x (i := .iconst 1) (len := 1) (p' := 100) (s' := [.int 1, .int l_3]) rfl rfl rfl ?_
                refine ev_x (i := .iadd) (len := 1) (p' := 101) (s' := [.int (l_3 + 1)]) rfl rfl rfl ?_
                refine ev_x (i := .goto 17) (len := 3) (p' := 118) (s' := [.int (l_3 + 1)]) rfl rfl rfl ?_
                exact ev_st (congrArg (fun z => Value.int z :: []) (by rw [if_pos c_8, if_pos c_9])) J
              · refine ev_b2 (t := 104) (p' := 104) rfl rfl rfl (if_pos c_9) ?_
                refine ev_x (i := .iload 7) (len := 2) (p' := 106) (s' := [.int p_2.1]) rfl rfl (ld_i (vg_o (i := 6) (v := .int (if p_2.1 = 33 then (if (if p_2.1 = 36 then (l_4 + 1) else (if p_2.1 = 37 then (l_4 - 1) else l_4) : Int32) = 0 then (if l_3 = 0 then 1 else 0) else 0) else 0 : Int32)) (vg_o (i := 4) (v := .int (if p_2.1 = 36 then (l_4 + 1) else (if p_2.1 = 37 then (l_4 - 1) else l_4) : Int32)) (vg_s (vz_s1 (lv) 5 (.int (l_5 + 1))) 7 (.int p_2.1)) (by decide) (Or.inl rfl)) (by decide) (Or.inl rfl))) ?_
                refine ev_x (i := .bipush 33) (len := 2) (p' := 108) (s' := [.int 33, .int p_2.1]) rfl rfl rfl ?_
                by_cases c_10 : p_2.1 = 33
                · refine ev_b2 (t := 117) (p' := 111) rfl rfl rfl (if_neg (fun q => q c_10)) ?_
                  refine ev_x (i := .iload_n 3) (len := 1) (p' := 112) (s' := [.int l_3]) rfl rfl (ld_i (vg_o (i := 6) (v := .int (if p_2.1 = 33 then (if (if p_2.1 = 36 then (l_4 + 1) else (if p_2.1 = 37 then (l_4 - 1) else l_4) : Int32) = 0 then (if l_3 = 0 then 1 else 0) else 0) else 0 : Int32)) (vg_o (i := 4) (v := .int (if p_2.1 = 36 then (l_4 + 1) else (if p_2.1 = 37 then (l_4 - 1) else l_4) : Int32)) (vg_o (i := 7) (v := .int p_2.1) (vg_o (i := 5) (v := .int (l_5 + 1)) g_3 (by decide) (Or.inl rfl)) (by decide) (Or.inl rfl)) (by decide) (Or.inl rfl)) (by decide) (Or.inl rfl))) ?_
                  refine ev_x (i := .iconst 1) (len := 1) (p' := 113) (s' := [.int 1, .int l_3]) rfl rfl rfl ?_
                  refine ev_x (i := .isub) (len := 1) (p' := 114) (s' := [.int (l_3 - 1)]) rfl rfl rfl ?_
                  refine ev_x (i := .goto 4) (len := 3) (p' := 118) (s' := [.int (l_3 - 1)]) rfl rfl rfl ?_
                  exact ev_st (congrArg (fun z => Value.int z :: []) (by rw [if_pos c_8, if_neg c_9, if_pos c_10])) J
                · refine ev_b2 (t := 117) (p' := 117) rfl rfl rfl (if_pos c_10) ?_
                  refine ev_x (i := .iload_n 3) (len := 1) (p' := 118) (s' := [.int l_3]) rfl rfl (ld_i (vg_o (i := 6) (v := .int (if p_2.1 = 33 then (if (if p_2.1 = 36 then (l_4 + 1) else (if p_2.1 = 37 then (l_4 - 1) else l_4) : Int32) = 0 then (if l_3 = 0 then 1 else 0) else 0) else 0 : Int32)) (vg_o (i := 4) (v := .int (if p_2.1 = 36 then (l_4 + 1) else (if p_2.1 = 37 then (l_4 - 1) else l_4) : Int32)) (vg_o (i := 7) (v := .int p_2.1) (vg_o (i := 5) (v := .int (l_5 + 1)) g_3 (by decide) (Or.inl rfl)) (by decide) (Or.inl rfl)) (by decide) (Or.inl rfl)) (by decide) (Or.inl rfl))) ?_
                  exact ev_st (congrArg (fun z => Value.int z :: []) (by rw [if_pos c_8, if_neg c_9, if_neg c_10])) J
            · refine ev_b0 (t := 91) (p' := 87) rfl rfl rfl (if_neg c_8) ?_
              refine ev_x (i := .iload_n 3) (len := 1) (p' := 88) (s' := [.int l_3]) rfl rfl (ld_i (vg_o (i := 6) (v := .int (if p_2.1 = 33 then (if (if p_2.1 = 36 then (l_4 + 1) else (if p_2.1 = 37 then (l_4 - 1) else l_4) : Int32) = 0 then (if l_3 = 0 then 1 else 0) else 0) else 0 : Int32)) (vg_o (i := 4) (v := .int (if p_2.1 = 36 then (l_4 + 1) else (if p_2.1 = 37 then (l_4 - 1) else l_4) : Int32)) (vg_o (i := 7) (v := .int p_2.1) (vg_o (i := 5) (v := .int (l_5 + 1)) g_3 (by decide) (Or.inl rfl)) (by decide) (Or.inl rfl)) (by decide) (Or.inl rfl)) (by decide) (Or.inl rfl))) ?_
              refine ev_x (i := .goto 30) (len := 3) (p' := 118) (s' := [.int l_3]) rfl rfl rfl ?_
              exact ev_st (congrArg (fun z => Value.int z :: []) (by rw [if_neg c_8])) J
        · by_cases c_5 : p_2.1 = 33
          · refine ev_b2 (t := 79) (p' := 66) rfl rfl rfl (if_neg (fun q => q c_5)) ?_
            refine ev_x (i := .iload 4) (len := 2) (p' := 68) (s' := [.int (if p_2.1 = 36 then (l_4 + 1) else (if p_2.1 = 37 then (l_4 - 1) else l_4) : Int32)]) rfl rfl (ld_i (vg_s (vz_s1 (vz_s1 (lv) 5 (.int (l_5 + 1))) 7 (.int p_2.1)) 4 (.int (if p_2.1 = 36 then (l_4 + 1) else (if p_2.1 = 37 then (l_4 - 1) else l_4) : Int32)))) ?_
            by_cases c_6 : (if p_2.1 = 36 then (l_4 + 1) else (if p_2.1 = 37 then (l_4 - 1) else l_4) : Int32) = 0
            · refine ev_b0 (t := 79) (p' := 71) rfl rfl rfl (if_neg (fun q => q c_6)) ?_
              refine ev_x (i := .iload_n 3) (len := 1) (p' := 72) (s' := [.int l_3]) rfl rfl (ld_i (vg_o (i := 4) (v := .int (if p_2.1 = 36 then (l_4 + 1) else (if p_2.1 = 37 then (l_4 - 1) else l_4) : Int32)) (vg_o (i := 7) (v := .int p_2.1) (vg_o (i := 5) (v := .int (l_5 + 1)) g_3 (by decide) (Or.inl rfl)) (by decide) (Or.inl rfl)) (by decide) (Or.inl rfl))) ?_
              by_cases c_7 : l_3 = 0
              · refine ev_b0 (t := 79) (p' := 75) rfl rfl rfl (if_neg (fun q => q c_7)) ?_
                refine ev_x (i := .iconst 1) (len := 1) (p' := 76) (s' := [.int 1]) rfl rfl rfl ?_
                refine ev_x (i := .goto 4) (len := 3) (p' := 80) (s' := [.int 1]) rfl rfl rfl ?_
                exact ev_st (congrArg (fun z => Value.int z :: []) (by rw [if_pos c_5, if_pos c_6, if_pos c_7])) J
              · refine ev_b0 (t := 79) (p' := 79) rfl rfl rfl (if_pos c_7) ?_
                refine ev_x (i := .iconst 0) (len := 1) (p' := 80) (s' := [.int 0]) rfl rfl rfl ?_
                exact ev_st (congrArg (fun z => Value.int z :: []) (by rw [if_pos c_5, if_pos c_6, if_neg c_7])) J
            · refine ev_b0 (t := 79) (p' := 79) rfl rfl rfl (if_pos c_6) ?_
              refine ev_x (i := .iconst 0) (len := 1) (p' := 80) (s' := [.int 0]) rfl rfl rfl ?_
              exact ev_st (congrArg (fun z => Value.int z :: []) (by rw [if_pos c_5, if_neg c_6])) J
          · refine ev_b2 (t := 79) (p' := 79) rfl rfl rfl (if_pos c_5) ?_
            refine ev_x (i := .iconst 0) (len := 1) (p' := 80) (s' := [.int 0]) rfl rfl rfl ?_
            exact ev_st (congrArg (fun z => Value.int z :: []) (by rw [if_neg c_5])) J
      · by_cases c_3 : p_2.1 = 36
        · refine ev_b2 (t := 41) (p' := 34) rfl rfl rfl (if_neg (fun q => q c_3)) ?_
          refine ev_x (i := .iload 4) (len := 2) (p' := 36) (s' := [.int l_4]) rfl rfl (ld_i (vg_o (i := 7) (v := .int p_2.1) (vg_o (i := 5) (v := .int (l_5 + 1)) g_4 (by decide) (Or.inl rfl)) (by decide) (Or.inl rfl))) ?_
          refine ev_x (i := .iconst 1) (len := 1) (p' := 37) (s' := [.int 1, .int l_4]) rfl rfl rfl ?_
          refine ev_x (i := .iadd) (len := 1) (p' := 38) (s' := [.int (l_4 + 1)]) rfl rfl rfl ?_
          refine ev_x (i := .goto 19) (len := 3) (p' := 57) (s' := [.int (l_4 + 1)]) rfl rfl rfl ?_
          exact ev_st (congrArg (fun z => Value.int z :: []) (by rw [if_pos c_3])) J
        · refine ev_b2 (t := 41) (p' := 41) rfl rfl rfl (if_pos c_3) ?_
          refine ev_x (i := .iload 7) (len := 2) (p' := 43) (s' := [.int p_2.1]) rfl rfl (ld_i (vg_s (vz_s1 (lv) 5 (.int (l_5 + 1))) 7 (.int p_2.1))) ?_
          refine ev_x (i := .bipush 37) (len := 2) (p' := 45) (s' := [.int 37, .int p_2.1]) rfl rfl rfl ?_
          by_cases c_4 : p_2.1 = 37
          · refine ev_b2 (t := 55) (p' := 48) rfl rfl rfl (if_neg (fun q => q c_4)) ?_
            refine ev_x (i := .iload 4) (len := 2) (p' := 50) (s' := [.int l_4]) rfl rfl (ld_i (vg_o (i := 7) (v := .int p_2.1) (vg_o (i := 5) (v := .int (l_5 + 1)) g_4 (by decide) (Or.inl rfl)) (by decide) (Or.inl rfl))) ?_
            refine ev_x (i := .iconst 1) (len := 1) (p' := 51) (s' := [.int 1, .int l_4]) rfl rfl rfl ?_
            refine ev_x (i := .isub) (len := 1) (p' := 52) (s' := [.int (l_4 - 1)]) rfl rfl rfl ?_
            refine ev_x (i := .goto 5) (len := 3) (p' := 57) (s' := [.int (l_4 - 1)]) rfl rfl rfl ?_
            exact ev_st (congrArg (fun z => Value.int z :: []) (by rw [if_neg c_3, if_pos c_4])) J
          · refine ev_b2 (t := 55) (p' := 55) rfl rfl rfl (if_pos c_4) ?_
            refine ev_x (i := .iload 4) (len := 2) (p' := 57) (s' := [.int l_4]) rfl rfl (ld_i (vg_o (i := 7) (v := .int p_2.1) (vg_o (i := 5) (v := .int (l_5 + 1)) g_4 (by decide) (Or.inl rfl)) (by decide) (Or.inl rfl))) ?_
            exact ev_st (congrArg (fun z => Value.int z :: []) (by rw [if_neg c_3, if_neg c_4])) J
    · refine ev_b0 (t := 122) (p' := 122) rfl rfl rfl (if_pos c_1) ?_
      refine ev_x (i := .iload 5) (len := 2) (p' := 124) (s' := [.int l_5]) rfl rfl (ld_i g_5) ?_
      obtain rfl := Option.some.inj H
      exact ev_iret rfl rfl rfl rfl
/-- GameTextModel.colonOf(II)I -/
def F_176 (N : Nat) (x_1 : Int32) (x_2 : Int32) (σ : st_S) : Option (Int32 × st_S) :=
  L_176 N N 0 0 x_1 0 (σ)
set_option maxRecDepth 100000 in
theorem F_176_R {N : Nat} {x_1 : Int32} {x_2 : Int32} {σ : st_S} {p : Int32 × st_S} (H : F_176 N x_1 x_2 σ = some p) : gR p.2 = gR σ := by
  unfold F_176 at H
  exact (((L_176_R _ _ _ _ _ _ _ H)).trans rfl)
set_option maxHeartbeats 4000000 in
set_option maxRecDepth 100000 in
theorem F_176_ok {N d : Nat} {x_1 : Int32} {x_2 : Int32} {σ : st_S} {p : Int32 × st_S}  (H : F_176 N x_1 x_2 σ = some p) : vz_ev P0 (d + 3) 176 0 (lv_args 0 [.ref 66, .int x_1, .int x_2]) [] (hp σ) (.inl (some (.int p.1)), hp p.2) := by
  unfold F_176 at H
  refine ev_x (i := .iconst 0) (len := 1) (p' := 1) (s' := [.int 0]) rfl rfl rfl ?_
  refine ev_x (i := .istore_n 3) (len := 1) (p' := 2) (s' := []) (l' := [(3, .int 0), (0, .ref 66), (1, .int x_1), (2, .int x_2)]) rfl rfl rfl ?_
  refine ev_x (i := .iconst 0) (len := 1) (p' := 3) (s' := [.int 0]) rfl rfl rfl ?_
  refine ev_x (i := .istore 4) (len := 2) (p' := 5) (s' := []) (l' := [(4, .int 0), (3, .int 0), (0, .ref 66), (1, .int x_1), (2, .int x_2)]) rfl rfl rfl ?_
  refine ev_x (i := .iload_n 1) (len := 1) (p' := 6) (s' := [.int x_1]) rfl rfl rfl ?_
  refine ev_x (i := .istore 5) (len := 2) (p' := 8) (s' := []) (l' := [(5, .int x_1), (4, .int 0), (3, .int 0), (0, .ref 66), (1, .int x_1), (2, .int x_2)]) rfl rfl rfl ?_
  refine ev_x (i := .iconst 0) (len := 1) (p' := 9) (s' := [.int 0]) rfl rfl rfl ?_
  refine ev_x (i := .istore 6) (len := 2) (p' := 11) (s' := []) (l' := [(6, .int 0), (5, .int x_1), (4, .int 0), (3, .int 0), (0, .ref 66), (1, .int x_1), (2, .int x_2)]) rfl rfl rfl ?_
  exact (L_176_ok (d := d) N) _ _ _ _ _ _ _ rfl rfl rfl rfl rfl rfl  H
/-- GameTextModel.numberOf(I)I, its loops -/
def L_177 (N : Nat) (x : Nat) : Nat → Int32 → Int32 → Int32 → st_S → Option (Int32 × st_S)
  | 0, _, _, _, _ => none
  | k + 1, l_1, l_2, l_3, σ =>
      (N_139 N 75 l_1 (σ)).bind fun p_2 =>
      if p_2.1 ≤ l_3 then
        some (l_2, p_2.2)
      else
        (N_139 N x l_3 (p_2.2)).bind fun p_4 =>
        L_177 N x k l_1 (((10 * l_2) + p_4.1) - 48) (l_3 + 1) (p_4.2)
set_option maxRecDepth 100000 in
theorem L_177_R {N : Nat} {x : Nat} : ∀ (k : Nat) (l_1 : Int32) (l_2 : Int32) (l_3 : Int32) (σ : st_S) (p : Int32 × st_S), L_177 N x k l_1 l_2 l_3 σ = some p → gR p.2 = gR σ := by
  intro k
  induction k with
  | zero => intro l_1 l_2 l_3 σ p H; unfold L_177 at H; cases H
  | succ k ih =>
    intro l_1 l_2 l_3 σ p H
    unfold L_177 at H
    obtain ⟨p_2, G_2, H⟩ := F_bd H
    refine F_if H (fun _ H => ?_) (fun _ H => ?_)
    · obtain rfl := Option.some.inj H
      exact ((N_139_R G_2).trans rfl)
    · obtain ⟨p_4, G_4, H⟩ := F_bd H
      exact (((ih _ _ _ _ _ H)).trans ((N_139_R G_4).trans ((N_139_R G_2).trans rfl)))
set_option maxHeartbeats 4000000 in
set_option maxRecDepth 100000 in
theorem L_177_ok {N d : Nat} {x : Nat} (hx : x = 67 ∨ x = 69) : ∀ k : Nat, ∀ (l_1 : Int32) (l_2 : Int32) (l_3 : Int32) (σ : st_S) (lv : vz_L) (p : Int32 × st_S), vz_g lv 0 = some (.ref 66) → vz_g lv 1 = some (.int l_1) → vz_g lv 2 = some (.int l_2) → vz_g lv 3 = some (.int l_3) → vz_nbL (vz_gr P0) lv = true → gR σ 66 2 = x → L_177 N x k l_1 l_2 l_3 σ = some p → vz_ev P0 (d + 3) 177 8 lv [] (hp σ) (.inl (some (.int p.1)), hp p.2) := by
  rcases hx with rfl | rfl
  · intro k
    induction k with
    | zero => intro l_1 l_2 l_3 σ lv p g_0 g_1 g_2 g_3 hnb hr_66_2 H; unfold L_177 at H; cases H
    | succ k ih =>
      intro l_1 l_2 l_3 σ lv p g_0 g_1 g_2 g_3 hnb hr_66_2 H
      unfold L_177 at H
      refine ev_x (i := .iload_n 3) (len := 1) (p' := 9) (s' := [.int l_3]) rfl rfl (ld_i g_3) ?_
      refine ev_x (i := .aload_n 0) (len := 1) (p' := 10) (s' := [.ref 66, .int l_3]) rfl rfl (ld_a g_0) ?_
      refine ev_gc (p' := 13) (v := 75) rfl rfl rfl ly_66 rfl rfl ?_
      refine ev_x (i := .iload_n 1) (len := 1) (p' := 14) (s' := [.int l_1, .ref 75, .int l_3]) rfl rfl (ld_i g_1) ?_
      obtain ⟨p_2, G_2, H⟩ := F_bd H
      refine ev_cv (d := d + 2) (As := [.int l_1]) (a := 75) (p' := 17) rfl rfl rfl ly_75 rfl rfl rfl rfl rfl hnb rfl (N_139_ok (d := d + 1) nm_75 G_2) ?_
      refine ev_st (st' := [.int p_2.1, .int l_3]) rfl ?_
      have e_2 := N_139_R G_2
      refine F_if H (fun c_3 H => ?_) (fun c_3 H => ?_)
      · refine ev_b2 (t := 43) (p' := 43) rfl rfl rfl (if_pos c_3) ?_
        refine ev_x (i := .iload_n 2) (len := 1) (p' := 44) (s' := [.int l_2]) rfl rfl (ld_i g_2) ?_
        obtain rfl := Option.some.inj H
        exact ev_iret rfl rfl rfl rfl
      · refine ev_b2 (t := 43) (p' := 20) rfl rfl rfl (if_neg c_3) ?_
        refine ev_x (i := .bipush 10) (len := 2) (p' := 22) (s' := [.int 10]) rfl rfl rfl ?_
        refine ev_x (i := .iload_n 2) (len := 1) (p' := 23) (s' := [.int l_2, .int 10]) rfl rfl (ld_i g_2) ?_
        refine ev_x (i := .imul) (len := 1) (p' := 24) (s' := [.int (10 * l_2)]) rfl rfl rfl ?_
        refine ev_x (i := .aload_n 0) (len := 1) (p' := 25) (s' := [.ref 66, .int (10 * l_2)]) rfl rfl (ld_a g_0) ?_
        refine ev_gr (p' := 28) (v := 67) rfl rfl rfl ly_66 rfl rfl ((congrFun (congrFun e_2 66) 2).trans hr_66_2) ?_
        refine ev_x (i := .iload_n 3) (len := 1) (p' := 29) (s' := [.int l_3, .ref 67, .int (10 * l_2)]) rfl rfl (ld_i g_3) ?_
        obtain ⟨p_4, G_4, H⟩ := F_bd H
        refine ev_cv (d := d + 2) (As := [.int l_3]) (a := 67) (p' := 32) rfl rfl rfl ly_67 rfl rfl rfl rfl rfl hnb rfl (N_139_ok (d := d + 1) nm_67 G_4) ?_
        refine ev_st (st' := [.int p_4.1, .int (10 * l_2)]) rfl ?_
        have e_4 := N_139_R G_4
        refine ev_x (i := .iadd) (len := 1) (p' := 33) (s' := [.int ((10 * l_2) + p_4.1)]) rfl rfl rfl ?_
        refine ev_x (i := .bipush 48) (len := 2) (p' := 35) (s' := [.int 48, .int ((10 * l_2) + p_4.1)]) rfl rfl rfl ?_
        refine ev_x (i := .isub) (len := 1) (p' := 36) (s' := [.int (((10 * l_2) + p_4.1) - 48)]) rfl rfl rfl ?_
        refine ev_x (i := .istore_n 2) (len := 1) (p' := 37) (s' := []) (l' := vz_s1 (lv) 2 (.int (((10 * l_2) + p_4.1) - 48))) rfl rfl rfl ?_
        refine ev_x (i := .iinc 3 1) (len := 3) (p' := 40) (s' := []) (l' := vz_s1 (vz_s1 (lv) 2 (.int (((10 * l_2) + p_4.1) - 48))) 3 (.int (l_3 + 1))) rfl rfl (ld_inc (vg_o (i := 2) (v := .int (((10 * l_2) + p_4.1) - 48)) g_3 (by decide) (Or.inl rfl)) rfl) ?_
        refine ev_x (i := .goto (-32)) (len := 3) (p' := 8) (s' := []) rfl rfl rfl ?_
        exact ih _ _ _ _ _ _ (vg_o (i := 3) (v := .int (l_3 + 1)) (vg_o (i := 2) (v := .int (((10 * l_2) + p_4.1) - 48)) g_0 (by decide) (Or.inl rfl)) (by decide) (Or.inl rfl)) (vg_o (i := 3) (v := .int (l_3 + 1)) (vg_o (i := 2) (v := .int (((10 * l_2) + p_4.1) - 48)) g_1 (by decide) (Or.inl rfl)) (by decide) (Or.inl rfl)) (vg_o (i := 3) (v := .int (l_3 + 1)) (vg_s (lv) 2 (.int (((10 * l_2) + p_4.1) - 48))) (by decide) (Or.inl rfl)) (vg_s (vz_s1 (lv) 2 (.int (((10 * l_2) + p_4.1) - 48))) 3 (.int (l_3 + 1))) (nb_s1 (nb_s1 hnb rfl) rfl) ((congrFun (congrFun e_4 66) 2).trans ((congrFun (congrFun e_2 66) 2).trans hr_66_2)) H
  · intro k
    induction k with
    | zero => intro l_1 l_2 l_3 σ lv p g_0 g_1 g_2 g_3 hnb hr_66_2 H; unfold L_177 at H; cases H
    | succ k ih =>
      intro l_1 l_2 l_3 σ lv p g_0 g_1 g_2 g_3 hnb hr_66_2 H
      unfold L_177 at H
      refine ev_x (i := .iload_n 3) (len := 1) (p' := 9) (s' := [.int l_3]) rfl rfl (ld_i g_3) ?_
      refine ev_x (i := .aload_n 0) (len := 1) (p' := 10) (s' := [.ref 66, .int l_3]) rfl rfl (ld_a g_0) ?_
      refine ev_gc (p' := 13) (v := 75) rfl rfl rfl ly_66 rfl rfl ?_
      refine ev_x (i := .iload_n 1) (len := 1) (p' := 14) (s' := [.int l_1, .ref 75, .int l_3]) rfl rfl (ld_i g_1) ?_
      obtain ⟨p_2, G_2, H⟩ := F_bd H
      refine ev_cv (d := d + 2) (As := [.int l_1]) (a := 75) (p' := 17) rfl rfl rfl ly_75 rfl rfl rfl rfl rfl hnb rfl (N_139_ok (d := d + 1) nm_75 G_2) ?_
      refine ev_st (st' := [.int p_2.1, .int l_3]) rfl ?_
      have e_2 := N_139_R G_2
      refine F_if H (fun c_3 H => ?_) (fun c_3 H => ?_)
      · refine ev_b2 (t := 43) (p' := 43) rfl rfl rfl (if_pos c_3) ?_
        refine ev_x (i := .iload_n 2) (len := 1) (p' := 44) (s' := [.int l_2]) rfl rfl (ld_i g_2) ?_
        obtain rfl := Option.some.inj H
        exact ev_iret rfl rfl rfl rfl
      · refine ev_b2 (t := 43) (p' := 20) rfl rfl rfl (if_neg c_3) ?_
        refine ev_x (i := .bipush 10) (len := 2) (p' := 22) (s' := [.int 10]) rfl rfl rfl ?_
        refine ev_x (i := .iload_n 2) (len := 1) (p' := 23) (s' := [.int l_2, .int 10]) rfl rfl (ld_i g_2) ?_
        refine ev_x (i := .imul) (len := 1) (p' := 24) (s' := [.int (10 * l_2)]) rfl rfl rfl ?_
        refine ev_x (i := .aload_n 0) (len := 1) (p' := 25) (s' := [.ref 66, .int (10 * l_2)]) rfl rfl (ld_a g_0) ?_
        refine ev_gr (p' := 28) (v := 69) rfl rfl rfl ly_66 rfl rfl ((congrFun (congrFun e_2 66) 2).trans hr_66_2) ?_
        refine ev_x (i := .iload_n 3) (len := 1) (p' := 29) (s' := [.int l_3, .ref 69, .int (10 * l_2)]) rfl rfl (ld_i g_3) ?_
        obtain ⟨p_4, G_4, H⟩ := F_bd H
        refine ev_cv (d := d + 2) (As := [.int l_3]) (a := 69) (p' := 32) rfl rfl rfl ly_69 rfl rfl rfl rfl rfl hnb rfl (N_139_ok (d := d + 1) nm_69 G_4) ?_
        refine ev_st (st' := [.int p_4.1, .int (10 * l_2)]) rfl ?_
        have e_4 := N_139_R G_4
        refine ev_x (i := .iadd) (len := 1) (p' := 33) (s' := [.int ((10 * l_2) + p_4.1)]) rfl rfl rfl ?_
        refine ev_x (i := .bipush 48) (len := 2) (p' := 35) (s' := [.int 48, .int ((10 * l_2) + p_4.1)]) rfl rfl rfl ?_
        refine ev_x (i := .isub) (len := 1) (p' := 36) (s' := [.int (((10 * l_2) + p_4.1) - 48)]) rfl rfl rfl ?_
        refine ev_x (i := .istore_n 2) (len := 1) (p' := 37) (s' := []) (l' := vz_s1 (lv) 2 (.int (((10 * l_2) + p_4.1) - 48))) rfl rfl rfl ?_
        refine ev_x (i := .iinc 3 1) (len := 3) (p' := 40) (s' := []) (l' := vz_s1 (vz_s1 (lv) 2 (.int (((10 * l_2) + p_4.1) - 48))) 3 (.int (l_3 + 1))) rfl rfl (ld_inc (vg_o (i := 2) (v := .int (((10 * l_2) + p_4.1) - 48)) g_3 (by decide) (Or.inl rfl)) rfl) ?_
        refine ev_x (i := .goto (-32)) (len := 3) (p' := 8) (s' := []) rfl rfl rfl ?_
        exact ih _ _ _ _ _ _ (vg_o (i := 3) (v := .int (l_3 + 1)) (vg_o (i := 2) (v := .int (((10 * l_2) + p_4.1) - 48)) g_0 (by decide) (Or.inl rfl)) (by decide) (Or.inl rfl)) (vg_o (i := 3) (v := .int (l_3 + 1)) (vg_o (i := 2) (v := .int (((10 * l_2) + p_4.1) - 48)) g_1 (by decide) (Or.inl rfl)) (by decide) (Or.inl rfl)) (vg_o (i := 3) (v := .int (l_3 + 1)) (vg_s (lv) 2 (.int (((10 * l_2) + p_4.1) - 48))) (by decide) (Or.inl rfl)) (vg_s (vz_s1 (lv) 2 (.int (((10 * l_2) + p_4.1) - 48))) 3 (.int (l_3 + 1))) (nb_s1 (nb_s1 hnb rfl) rfl) ((congrFun (congrFun e_4 66) 2).trans ((congrFun (congrFun e_2 66) 2).trans hr_66_2)) H
/-- GameTextModel.numberOf(I)I -/
def F_177 (N : Nat) (x : Nat) (x_1 : Int32) (σ : st_S) : Option (Int32 × st_S) :=
  (F_159 N x_1 (σ)).bind fun p_1 =>
  L_177 N x N x_1 0 p_1.1 (p_1.2)
set_option maxRecDepth 100000 in
theorem F_177_R {N : Nat} {x : Nat} {x_1 : Int32} {σ : st_S} {p : Int32 × st_S} (H : F_177 N x x_1 σ = some p) : gR p.2 = gR σ := by
  unfold F_177 at H
  obtain ⟨p_1, G_1, H⟩ := F_bd H
  exact (((L_177_R _ _ _ _ _ _ H)).trans ((F_159_R G_1).trans rfl))
set_option maxHeartbeats 4000000 in
set_option maxRecDepth 100000 in
theorem F_177_ok {N d : Nat} {x : Nat} (hx : x = 67 ∨ x = 69) {x_1 : Int32} {σ : st_S} {p : Int32 × st_S} (hr_66_2 : gR σ 66 2 = x) (H : F_177 N x x_1 σ = some p) : vz_ev P0 (d + 3) 177 0 (lv_args 0 [.ref 66, .int x_1]) [] (hp σ) (.inl (some (.int p.1)), hp p.2) := by
  unfold F_177 at H
  refine ev_x (i := .iconst 0) (len := 1) (p' := 1) (s' := [.int 0]) rfl rfl rfl ?_
  refine ev_x (i := .istore_n 2) (len := 1) (p' := 2) (s' := []) (l' := [(2, .int 0), (0, .ref 66), (1, .int x_1)]) rfl rfl rfl ?_
  refine ev_x (i := .aload_n 0) (len := 1) (p' := 3) (s' := [.ref 66]) rfl rfl rfl ?_
  refine ev_x (i := .iload_n 1) (len := 1) (p' := 4) (s' := [.int x_1, .ref 66]) rfl rfl rfl ?_
  obtain ⟨p_1, G_1, H⟩ := F_bd H
  refine ev_cv (d := d + 2) (As := [.int x_1]) (a := 66) (p' := 7) rfl rfl rfl ly_66 rfl rfl rfl rfl rfl rfl rfl (F_159_ok (d := d + 0)   G_1) ?_
  refine ev_st (st' := [.int p_1.1]) rfl ?_
  have e_1 := F_159_R G_1
  refine ev_x (i := .istore_n 3) (len := 1) (p' := 8) (s' := []) (l' := [(3, .int p_1.1), (2, .int 0), (0, .ref 66), (1, .int x_1)]) rfl rfl rfl ?_
  exact (L_177_ok (d := d) hx N) _ _ _ _ _ _ rfl rfl rfl rfl rfl ((congrFun (congrFun e_1 66) 2).trans hr_66_2) H
/-- GameTextModel.list(III)V, its loops -/
def L_178 (N : Nat) : Nat → Int32 → Int32 → Int32 → Int32 → Int32 → st_S → Option (st_S)
  | 0, _, _, _, _, _, _ => none
  | k + 1, l_1, l_2, l_4, l_5, l_6, σ =>
      if l_6 < (l_2 - 1) then
        some (σ)
      else
        if l_2 ≤ l_6 then
          (F_162 N l_6 (σ)).bind fun p_3 =>
          if (if p_3.1 = 37 then (l_5 + 1) else (if p_3.1 = 36 then (l_5 - 1) else l_5) : Int32) = 0 then
            if p_3.1 = 35 then
              (F_169 N l_1 (l_6 + 1) l_4 (p_3.2)).bind fun p_8 =>
              L_178 N k l_1 l_2 l_6 (if p_3.1 = 37 then (l_5 + 1) else (if p_3.1 = 36 then (l_5 - 1) else l_5) : Int32) (l_6 + (-1)) (p_8)
            else
              L_178 N k l_1 l_2 l_4 (if p_3.1 = 37 then (l_5 + 1) else (if p_3.1 = 36 then (l_5 - 1) else l_5) : Int32) (l_6 + (-1)) (p_3.2)
          else
            L_178 N k l_1 l_2 l_4 (if p_3.1 = 37 then (l_5 + 1) else (if p_3.1 = 36 then (l_5 - 1) else l_5) : Int32) (l_6 + (-1)) (p_3.2)
        else
          if l_5 = 0 then
            (F_169 N l_1 (l_6 + 1) l_4 (σ)).bind fun p_10 =>
            L_178 N k l_1 l_2 l_6 l_5 (l_6 + (-1)) (p_10)
          else
            L_178 N k l_1 l_2 l_4 l_5 (l_6 + (-1)) (σ)
set_option maxRecDepth 100000 in
theorem L_178_R {N : Nat} : ∀ (k : Nat) (l_1 : Int32) (l_2 : Int32) (l_4 : Int32) (l_5 : Int32) (l_6 : Int32) (σ : st_S) (p : st_S), L_178 N k l_1 l_2 l_4 l_5 l_6 σ = some p → gR p = gR σ := by
  intro k
  induction k with
  | zero => intro l_1 l_2 l_4 l_5 l_6 σ p H; unfold L_178 at H; cases H
  | succ k ih =>
    intro l_1 l_2 l_4 l_5 l_6 σ p H
    unfold L_178 at H
    refine F_if H (fun _ H => ?_) (fun _ H => ?_)
    · obtain rfl := Option.some.inj H
      exact rfl
    · refine F_if H (fun _ H => ?_) (fun _ H => ?_)
      · obtain ⟨p_3, G_3, H⟩ := F_bd H
        refine F_if H (fun _ H => ?_) (fun _ H => ?_)
        · refine F_if H (fun _ H => ?_) (fun _ H => ?_)
          · obtain ⟨p_8, G_8, H⟩ := F_bd H
            exact (((ih _ _ _ _ _ _ _ H)).trans ((F_169_R G_8).trans ((F_162_R G_3).trans rfl)))
          · exact (((ih _ _ _ _ _ _ _ H)).trans ((F_162_R G_3).trans rfl))
        · exact (((ih _ _ _ _ _ _ _ H)).trans ((F_162_R G_3).trans rfl))
      · refine F_if H (fun _ H => ?_) (fun _ H => ?_)
        · obtain ⟨p_10, G_10, H⟩ := F_bd H
          exact (((ih _ _ _ _ _ _ _ H)).trans ((F_169_R G_10).trans rfl))
        · exact (((ih _ _ _ _ _ _ _ H)).trans rfl)
set_option maxHeartbeats 4000000 in
set_option maxRecDepth 100000 in
theorem L_178_ok {N d : Nat} : ∀ k : Nat, ∀ (l_1 : Int32) (l_2 : Int32) (l_4 : Int32) (l_5 : Int32) (l_6 : Int32) (σ : st_S) (lv : vz_L) (p : st_S), vz_g lv 0 = some (.ref 66) → vz_g lv 1 = some (.int l_1) → vz_g lv 2 = some (.int l_2) → vz_g lv 4 = some (.int l_4) → vz_g lv 5 = some (.int l_5) → vz_g lv 6 = some (.int l_6) → vz_nbL (vz_gr P0) lv = true → L_178 N k l_1 l_2 l_4 l_5 l_6 σ = some p → vz_ev P0 (d + 3) 178 11 lv [] (hp σ) (.inl none, hp p) := by
  intro k
  induction k with
  | zero => intro l_1 l_2 l_4 l_5 l_6 σ lv p g_0 g_1 g_2 g_4 g_5 g_6 hnb H; unfold L_178 at H; cases H
  | succ k ih =>
    intro l_1 l_2 l_4 l_5 l_6 σ lv p g_0 g_1 g_2 g_4 g_5 g_6 hnb H
    unfold L_178 at H
    refine ev_x (i := .iload 6) (len := 2) (p' := 13) (s' := [.int l_6]) rfl rfl (ld_i g_6) ?_
    refine ev_x (i := .iload_n 2) (len := 1) (p' := 14) (s' := [.int l_2, .int l_6]) rfl rfl (ld_i g_2) ?_
    refine ev_x (i := .iconst 1) (len := 1) (p' := 15) (s' := [.int 1, .int l_2, .int l_6]) rfl rfl rfl ?_
    refine ev_x (i := .isub) (len := 1) (p' := 16) (s' := [.int (l_2 - 1), .int l_6]) rfl rfl rfl ?_
    refine F_if H (fun c_1 H => ?_) (fun c_1 H => ?_)
    · refine ev_b2 (t := 103) (p' := 103) rfl rfl rfl (if_pos c_1) ?_
      obtain rfl := Option.some.inj H
      exact ev_vret rfl rfl rfl
    · refine ev_b2 (t := 103) (p' := 19) rfl rfl rfl (if_neg c_1) ?_
      refine ev_x (i := .iload 6) (len := 2) (p' := 21) (s' := [.int l_6]) rfl rfl (ld_i g_6) ?_
      refine ev_x (i := .iload_n 2) (len := 1) (p' := 22) (s' := [.int l_2, .int l_6]) rfl rfl (ld_i g_2) ?_
      refine F_if H (fun c_2 H => ?_) (fun c_2 H => ?_)
      · refine ev_b2 (t := 30) (p' := 30) rfl rfl rfl (if_pos c_2) ?_
        refine ev_x (i := .aload_n 0) (len := 1) (p' := 31) (s' := [.ref 66]) rfl rfl (ld_a g_0) ?_
        refine ev_x (i := .iload 6) (len := 2) (p' := 33) (s' := [.int l_6, .ref 66]) rfl rfl (ld_i g_6) ?_
        obtain ⟨p_3, G_3, H⟩ := F_bd H
        refine ev_cv (d := d + 2) (As := [.int l_6]) (a := 66) (p' := 36) rfl rfl rfl ly_66 rfl rfl rfl rfl rfl hnb rfl (F_162_ok (d := d + 0)   G_3) ?_
        refine ev_st (st' := [.int p_3.1]) rfl ?_
        have e_3 := F_162_R G_3
        refine ev_x (i := .istore 7) (len := 2) (p' := 38) (s' := []) (l' := vz_s1 (lv) 7 (.int p_3.1)) rfl rfl rfl ?_
        refine ev_x (i := .iload 7) (len := 2) (p' := 40) (s' := [.int p_3.1]) rfl rfl (ld_i (vg_s (lv) 7 (.int p_3.1))) ?_
        refine ev_x (i := .bipush 37) (len := 2) (p' := 42) (s' := [.int 37, .int p_3.1]) rfl rfl rfl ?_
        refine F_jn (A := vz_ev P0 (d + 3) 178 68 (vz_s1 (lv) 7 (.int p_3.1)) [.int (if p_3.1 = 37 then (l_5 + 1) else (if p_3.1 = 36 then (l_5 - 1) else l_5) : Int32)] (hp (p_3.2)) (.inl none, hp p)) ?_ (fun J => ?_)
        · refine ev_x (i := .istore 5) (len := 2) (p' := 70) (s' := []) (l' := vz_s1 (vz_s1 (lv) 7 (.int p_3.1)) 5 (.int (if p_3.1 = 37 then (l_5 + 1) else (if p_3.1 = 36 then (l_5 - 1) else l_5) : Int32))) rfl rfl rfl ?_
          refine ev_x (i := .iload 5) (len := 2) (p' := 72) (s' := [.int (if p_3.1 = 37 then (l_5 + 1) else (if p_3.1 = 36 then (l_5 - 1) else l_5) : Int32)]) rfl rfl (ld_i (vg_s (vz_s1 (lv) 7 (.int p_3.1)) 5 (.int (if p_3.1 = 37 then (l_5 + 1) else (if p_3.1 = 36 then (l_5 - 1) else l_5) : Int32)))) ?_
          refine F_if H (fun c_6 H => ?_) (fun c_6 H => ?_)
          · refine ev_b0 (t := 97) (p' := 75) rfl rfl rfl (if_neg (fun q => q c_6)) ?_
            refine ev_x (i := .iload 7) (len := 2) (p' := 77) (s' := [.int p_3.1]) rfl rfl (ld_i (vg_o (i := 5) (v := .int (if p_3.1 = 37 then (l_5 + 1) else (if p_3.1 = 36 then (l_5 - 1) else l_5) : Int32)) (vg_s (lv) 7 (.int p_3.1)) (by decide) (Or.inl rfl))) ?_
            refine ev_x (i := .bipush 35) (len := 2) (p' := 79) (s' := [.int 35, .int p_3.1]) rfl rfl rfl ?_
            refine F_if H (fun c_7 H => ?_) (fun c_7 H => ?_)
            · refine ev_b2 (t := 97) (p' := 82) rfl rfl rfl (if_neg (fun q => q c_7)) ?_
              refine ev_x (i := .aload_n 0) (len := 1) (p' := 83) (s' := [.ref 66]) rfl rfl (ld_a (vg_o (i := 5) (v := .int (if p_3.1 = 37 then (l_5 + 1) else (if p_3.1 = 36 then (l_5 - 1) else l_5) : Int32)) (vg_o (i := 7) (v := .int p_3.1) g_0 (by decide) (Or.inl rfl)) (by decide) (Or.inl rfl))) ?_
              refine ev_x (i := .iload_n 1) (len := 1) (p' := 84) (s' := [.int l_1, .ref 66]) rfl rfl (ld_i (vg_o (i := 5) (v := .int (if p_3.1 = 37 then (l_5 + 1) else (if p_3.1 = 36 then (l_5 - 1) else l_5) : Int32)) (vg_o (i := 7) (v := .int p_3.1) g_1 (by decide) (Or.inl rfl)) (by decide) (Or.inl rfl))) ?_
              refine ev_x (i := .iload 6) (len := 2) (p' := 86) (s' := [.int l_6, .int l_1, .ref 66]) rfl rfl (ld_i (vg_o (i := 5) (v := .int (if p_3.1 = 37 then (l_5 + 1) else (if p_3.1 = 36 then (l_5 - 1) else l_5) : Int32)) (vg_o (i := 7) (v := .int p_3.1) g_6 (by decide) (Or.inl rfl)) (by decide) (Or.inl rfl))) ?_
              refine ev_x (i := .iconst 1) (len := 1) (p' := 87) (s' := [.int 1, .int l_6, .int l_1, .ref 66]) rfl rfl rfl ?_
              refine ev_x (i := .iadd) (len := 1) (p' := 88) (s' := [.int (l_6 + 1), .int l_1, .ref 66]) rfl rfl rfl ?_
              refine ev_x (i := .iload 4) (len := 2) (p' := 90) (s' := [.int l_4, .int (l_6 + 1), .int l_1, .ref 66]) rfl rfl (ld_i (vg_o (i := 5) (v := .int (if p_3.1 = 37 then (l_5 + 1) else (if p_3.1 = 36 then (l_5 - 1) else l_5) : Int32)) (vg_o (i := 7) (v := .int p_3.1) g_4 (by decide) (Or.inl rfl)) (by decide) (Or.inl rfl))) ?_
              obtain ⟨p_8, G_8, H⟩ := F_bd H
              refine ev_cv (d := d + 2) (As := [.int l_1, .int (l_6 + 1), .int l_4]) (a := 66) (p' := 93) rfl rfl rfl ly_66 rfl rfl rfl rfl rfl (nb_s1 (nb_s1 hnb rfl) rfl) rfl (F_169_ok (d := d + 0)   G_8) ?_
              refine ev_st (st' := []) rfl ?_
              have e_8 := F_169_R G_8
              refine ev_x (i := .iload 6) (len := 2) (p' := 95) (s' := [.int l_6]) rfl rfl (ld_i (vg_o (i := 5) (v := .int (if p_3.1 = 37 then (l_5 + 1) else (if p_3.1 = 36 then (l_5 - 1) else l_5) : Int32)) (vg_o (i := 7) (v := .int p_3.1) g_6 (by decide) (Or.inl rfl)) (by decide) (Or.inl rfl))) ?_
              refine ev_x (i := .istore 4) (len := 2) (p' := 97) (s' := []) (l' := vz_s1 (vz_s1 (vz_s1 (lv) 7 (.int p_3.1)) 5 (.int (if p_3.1 = 37 then (l_5 + 1) else (if p_3.1 = 36 then (l_5 - 1) else l_5) : Int32))) 4 (.int l_6)) rfl rfl rfl ?_
              refine ev_x (i := .iinc 6 (-1)) (len := 3) (p' := 100) (s' := []) (l' := vz_s1 (vz_s1 (vz_s1 (vz_s1 (lv) 7 (.int p_3.1)) 5 (.int (if p_3.1 = 37 then (l_5 + 1) else (if p_3.1 = 36 then (l_5 - 1) else l_5) : Int32))) 4 (.int l_6)) 6 (.int (l_6 + (-1)))) rfl rfl (ld_inc (vg_o (i := 4) (v := .int l_6) (vg_o (i := 5) (v := .int (if p_3.1 = 37 then (l_5 + 1) else (if p_3.1 = 36 then (l_5 - 1) else l_5) : Int32)) (vg_o (i := 7) (v := .int p_3.1) g_6 (by decide) (Or.inl rfl)) (by decide) (Or.inl rfl)) (by decide) (Or.inl rfl)) rfl) ?_
              refine ev_x (i := .goto (-89)) (len := 3) (p' := 11) (s' := []) rfl rfl rfl ?_
              exact ih _ _ _ _ _ _ _ _ (vg_o (i := 6) (v := .int (l_6 + (-1))) (vg_o (i := 4) (v := .int l_6) (vg_o (i := 5) (v := .int (if p_3.1 = 37 then (l_5 + 1) else (if p_3.1 = 36 then (l_5 - 1) else l_5) : Int32)) (vg_o (i := 7) (v := .int p_3.1) g_0 (by decide) (Or.inl rfl)) (by decide) (Or.inl rfl)) (by decide) (Or.inl rfl)) (by decide) (Or.inl rfl)) (vg_o (i := 6) (v := .int (l_6 + (-1))) (vg_o (i := 4) (v := .int l_6) (vg_o (i := 5) (v := .int (if p_3.1 = 37 then (l_5 + 1) else (if p_3.1 = 36 then (l_5 - 1) else l_5) : Int32)) (vg_o (i := 7) (v := .int p_3.1) g_1 (by decide) (Or.inl rfl)) (by decide) (Or.inl rfl)) (by decide) (Or.inl rfl)) (by decide) (Or.inl rfl)) (vg_o (i := 6) (v := .int (l_6 + (-1))) (vg_o (i := 4) (v := .int l_6) (vg_o (i := 5) (v := .int (if p_3.1 = 37 then (l_5 + 1) else (if p_3.1 = 36 then (l_5 - 1) else l_5) : Int32)) (vg_o (i := 7) (v := .int p_3.1) g_2 (by decide) (Or.inl rfl)) (by decide) (Or.inl rfl)) (by decide) (Or.inl rfl)) (by decide) (Or.inl rfl)) (vg_o (i := 6) (v := .int (l_6 + (-1))) (vg_s (vz_s1 (vz_s1 (lv) 7 (.int p_3.1)) 5 (.int (if p_3.1 = 37 then (l_5 + 1) else (if p_3.1 = 36 then (l_5 - 1) else l_5) : Int32))) 4 (.int l_6)) (by decide) (Or.inl rfl)) (vg_o (i := 6) (v := .int (l_6 + (-1))) (vg_o (i := 4) (v := .int l_6) (vg_s (vz_s1 (lv) 7 (.int p_3.1)) 5 (.int (if p_3.1 = 37 then (l_5 + 1) else (if p_3.1 = 36 then (l_5 - 1) else l_5) : Int32))) (by decide) (Or.inl rfl)) (by decide) (Or.inl rfl)) (vg_s (vz_s1 (vz_s1 (vz_s1 (lv) 7 (.int p_3.1)) 5 (.int (if p_3.1 = 37 then (l_5 + 1) else (if p_3.1 = 36 then (l_5 - 1) else l_5) : Int32))) 4 (.int l_6)) 6 (.int (l_6 + (-1)))) (nb_s1 (nb_s1 (nb_s1 (nb_s1 hnb rfl) rfl) rfl) rfl)  H
            · refine ev_b2 (t := 97) (p' := 97) rfl rfl rfl (if_pos c_7) ?_
              refine ev_x (i := .iinc 6 (-1)) (len := 3) (p' := 100) (s' := []) (l' := vz_s1 (vz_s1 (vz_s1 (lv) 7 (.int p_3.1)) 5 (.int (if p_3.1 = 37 then (l_5 + 1) else (if p_3.1 = 36 then (l_5 - 1) else l_5) : Int32))) 6 (.int (l_6 + (-1)))) rfl rfl (ld_inc (vg_o (i := 5) (v := .int (if p_3.1 = 37 then (l_5 + 1) else (if p_3.1 = 36 then (l_5 - 1) else l_5) : Int32)) (vg_o (i := 7) (v := .int p_3.1) g_6 (by decide) (Or.inl rfl)) (by decide) (Or.inl rfl)) rfl) ?_
              refine ev_x (i := .goto (-89)) (len := 3) (p' := 11) (s' := []) rfl rfl rfl ?_
              exact ih _ _ _ _ _ _ _ _ (vg_o (i := 6) (v := .int (l_6 + (-1))) (vg_o (i := 5) (v := .int (if p_3.1 = 37 then (l_5 + 1) else (if p_3.1 = 36 then (l_5 - 1) else l_5) : Int32)) (vg_o (i := 7) (v := .int p_3.1) g_0 (by decide) (Or.inl rfl)) (by decide) (Or.inl rfl)) (by decide) (Or.inl rfl)) (vg_o (i := 6) (v := .int (l_6 + (-1))) (vg_o (i := 5) (v := .int (if p_3.1 = 37 then (l_5 + 1) else (if p_3.1 = 36 then (l_5 - 1) else l_5) : Int32)) (vg_o (i := 7) (v := .int p_3.1) g_1 (by decide) (Or.inl rfl)) (by decide) (Or.inl rfl)) (by decide) (Or.inl rfl)) (vg_o (i := 6) (v := .int (l_6 + (-1))) (vg_o (i := 5) (v := .int (if p_3.1 = 37 then (l_5 + 1) else (if p_3.1 = 36 then (l_5 - 1) else l_5) : Int32)) (vg_o (i := 7) (v := .int p_3.1) g_2 (by decide) (Or.inl rfl)) (by decide) (Or.inl rfl)) (by decide) (Or.inl rfl)) (vg_o (i := 6) (v := .int (l_6 + (-1))) (vg_o (i := 5) (v := .int (if p_3.1 = 37 then (l_5 + 1) else (if p_3.1 = 36 then (l_5 - 1) else l_5) : Int32)) (vg_o (i := 7) (v := .int p_3.1) g_4 (by decide) (Or.inl rfl)) (by decide) (Or.inl rfl)) (by decide) (Or.inl rfl)) (vg_o (i := 6) (v := .int (l_6 + (-1))) (vg_s (vz_s1 (lv) 7 (.int p_3.1)) 5 (.int (if p_3.1 = 37 then (l_5 + 1) else (if p_3.1 = 36 then (l_5 - 1) else l_5) : Int32))) (by decide) (Or.inl rfl)) (vg_s (vz_s1 (vz_s1 (lv) 7 (.int p_3.1)) 5 (.int (if p_3.1 = 37 then (l_5 + 1) else (if p_3.1 = 36 then (l_5 - 1) else l_5) : Int32))) 6 (.int (l_6 + (-1)))) (nb_s1 (nb_s1 (nb_s1 hnb rfl) rfl) rfl)  H
          · refine ev_b0 (t := 97) (p' := 97) rfl rfl rfl (if_pos c_6) ?_
            refine ev_x (i := .iinc 6 (-1)) (len := 3) (p' := 100) (s' := []) (l' := vz_s1 (vz_s1 (vz_s1 (lv) 7 (.int p_3.1)) 5 (.int (if p_3.1 = 37 then (l_5 + 1) else (if p_3.1 = 36 then (l_5 - 1) else l_5) : Int32))) 6 (.int (l_6 + (-1)))) rfl rfl (ld_inc (vg_o (i := 5) (v := .int (if p_3.1 = 37 then (l_5 + 1) else (if p_3.1 = 36 then (l_5 - 1) else l_5) : Int32)) (vg_o (i := 7) (v := .int p_3.1) g_6 (by decide) (Or.inl rfl)) (by decide) (Or.inl rfl)) rfl) ?_
            refine ev_x (i := .goto (-89)) (len := 3) (p' := 11) (s' := []) rfl rfl rfl ?_
            exact ih _ _ _ _ _ _ _ _ (vg_o (i := 6) (v := .int (l_6 + (-1))) (vg_o (i := 5) (v := .int (if p_3.1 = 37 then (l_5 + 1) else (if p_3.1 = 36 then (l_5 - 1) else l_5) : Int32)) (vg_o (i := 7) (v := .int p_3.1) g_0 (by decide) (Or.inl rfl)) (by decide) (Or.inl rfl)) (by decide) (Or.inl rfl)) (vg_o (i := 6) (v := .int (l_6 + (-1))) (vg_o (i := 5) (v := .int (if p_3.1 = 37 then (l_5 + 1) else (if p_3.1 = 36 then (l_5 - 1) else l_5) : Int32)) (vg_o (i := 7) (v := .int p_3.1) g_1 (by decide) (Or.inl rfl)) (by decide) (Or.inl rfl)) (by decide) (Or.inl rfl)) (vg_o (i := 6) (v := .int (l_6 + (-1))) (vg_o (i := 5) (v := .int (if p_3.1 = 37 then (l_5 + 1) else (if p_3.1 = 36 then (l_5 - 1) else l_5) : Int32)) (vg_o (i := 7) (v := .int p_3.1) g_2 (by decide) (Or.inl rfl)) (by decide) (Or.inl rfl)) (by decide) (Or.inl rfl)) (vg_o (i := 6) (v := .int (l_6 + (-1))) (vg_o (i := 5) (v := .int (if p_3.1 = 37 then (l_5 + 1) else (if p_3.1 = 36 then (l_5 - 1) else l_5) : Int32)) (vg_o (i := 7) (v := .int p_3.1) g_4 (by decide) (Or.inl rfl)) (by decide) (Or.inl rfl)) (by decide) (Or.inl rfl)) (vg_o (i := 6) (v := .int (l_6 + (-1))) (vg_s (vz_s1 (lv) 7 (.int p_3.1)) 5 (.int (if p_3.1 = 37 then (l_5 + 1) else (if p_3.1 = 36 then (l_5 - 1) else l_5) : Int32))) (by decide) (Or.inl rfl)) (vg_s (vz_s1 (vz_s1 (lv) 7 (.int p_3.1)) 5 (.int (if p_3.1 = 37 then (l_5 + 1) else (if p_3.1 = 36 then (l_5 - 1) else l_5) : Int32))) 6 (.int (l_6 + (-1)))) (nb_s1 (nb_s1 (nb_s1 hnb rfl) rfl) rfl)  H
        · by_cases c_4 : p_3.1 = 37
          · refine ev_b2 (t := 52) (p' := 45) rfl rfl rfl (if_neg (fun q => q c_4)) ?_
            refine ev_x (i := .iload 5) (len := 2) (p' := 47) (s' := [.int l_5]) rfl rfl (ld_i (vg_o (i := 7) (v := .int p_3.1) g_5 (by decide) (Or.inl rfl))) ?_
            refine ev_x (i := .iconst 1) (len := 1) (p' := 48) (s' := [.int 1, .int l_5]) rfl rfl rfl ?_
            refine ev_x (i := .iadd) (len := 1) (p' := 49) (s' := [.int (l_5 + 1)]) rfl rfl rfl ?_
            refine ev_x (i := .goto 19) (len := 3) (p' := 68) (s' := [.int (l_5 + 1)]) rfl rfl rfl ?_
            exact ev_st (congrArg (fun z => Value.int z :: []) (by rw [if_pos c_4])) J
          · refine ev_b2 (t := 52) (p' := 52) rfl rfl rfl (if_pos c_4) ?_
            refine ev_x (i := .iload 7) (len := 2) (p' := 54) (s' := [.int p_3.1]) rfl rfl (ld_i (vg_s (lv) 7 (.int p_3.1))) ?_
            refine ev_x (i := .bipush 36) (len := 2) (p' := 56) (s' := [.int 36, .int p_3.1]) rfl rfl rfl ?_
            by_cases c_5 : p_3.1 = 36
            · refine ev_b2 (t := 66) (p' := 59) rfl rfl rfl (if_neg (fun q => q c_5)) ?_
              refine ev_x (i := .iload 5) (len := 2) (p' := 61) (s' := [.int l_5]) rfl rfl (ld_i (vg_o (i := 7) (v := .int p_3.1) g_5 (by decide) (Or.inl rfl))) ?_
              refine ev_x (i := .iconst 1) (len := 1) (p' := 62) (s' := [.int 1, .int l_5]) rfl rfl rfl ?_
              refine ev_x (i := .isub) (len := 1) (p' := 63) (s' := [.int (l_5 - 1)]) rfl rfl rfl ?_
              refine ev_x (i := .goto 5) (len := 3) (p' := 68) (s' := [.int (l_5 - 1)]) rfl rfl rfl ?_
              exact ev_st (congrArg (fun z => Value.int z :: []) (by rw [if_neg c_4, if_pos c_5])) J
            · refine ev_b2 (t := 66) (p' := 66) rfl rfl rfl (if_pos c_5) ?_
              refine ev_x (i := .iload 5) (len := 2) (p' := 68) (s' := [.int l_5]) rfl rfl (ld_i (vg_o (i := 7) (v := .int p_3.1) g_5 (by decide) (Or.inl rfl))) ?_
              exact ev_st (congrArg (fun z => Value.int z :: []) (by rw [if_neg c_4, if_neg c_5])) J
      · refine ev_b2 (t := 30) (p' := 25) rfl rfl rfl (if_neg c_2) ?_
        refine ev_x (i := .bipush 35) (len := 2) (p' := 27) (s' := [.int 35]) rfl rfl rfl ?_
        refine ev_x (i := .goto 9) (len := 3) (p' := 36) (s' := [.int 35]) rfl rfl rfl ?_
        refine ev_x (i := .istore 7) (len := 2) (p' := 38) (s' := []) (l' := vz_s1 (lv) 7 (.int 35)) rfl rfl rfl ?_
        refine ev_x (i := .iload 7) (len := 2) (p' := 40) (s' := [.int 35]) rfl rfl (ld_i (vg_s (lv) 7 (.int 35))) ?_
        refine ev_x (i := .bipush 37) (len := 2) (p' := 42) (s' := [.int 37, .int 35]) rfl rfl rfl ?_
        refine ev_b2 (t := 52) (p' := 52) rfl rfl rfl (by decide) ?_
        refine ev_x (i := .iload 7) (len := 2) (p' := 54) (s' := [.int 35]) rfl rfl (ld_i (vg_s (lv) 7 (.int 35))) ?_
        refine ev_x (i := .bipush 36) (len := 2) (p' := 56) (s' := [.int 36, .int 35]) rfl rfl rfl ?_
        refine ev_b2 (t := 66) (p' := 66) rfl rfl rfl (by decide) ?_
        refine ev_x (i := .iload 5) (len := 2) (p' := 68) (s' := [.int l_5]) rfl rfl (ld_i (vg_o (i := 7) (v := .int 35) g_5 (by decide) (Or.inl rfl))) ?_
        refine ev_x (i := .istore 5) (len := 2) (p' := 70) (s' := []) (l' := vz_s1 (vz_s1 (lv) 7 (.int 35)) 5 (.int l_5)) rfl rfl rfl ?_
        refine ev_x (i := .iload 5) (len := 2) (p' := 72) (s' := [.int l_5]) rfl rfl (ld_i (vg_s (vz_s1 (lv) 7 (.int 35)) 5 (.int l_5))) ?_
        refine F_if H (fun c_9 H => ?_) (fun c_9 H => ?_)
        · refine ev_b0 (t := 97) (p' := 75) rfl rfl rfl (if_neg (fun q => q c_9)) ?_
          refine ev_x (i := .iload 7) (len := 2) (p' := 77) (s' := [.int 35]) rfl rfl (ld_i (vg_o (i := 5) (v := .int l_5) (vg_s (lv) 7 (.int 35)) (by decide) (Or.inl rfl))) ?_
          refine ev_x (i := .bipush 35) (len := 2) (p' := 79) (s' := [.int 35, .int 35]) rfl rfl rfl ?_
          refine ev_b2 (t := 97) (p' := 82) rfl rfl rfl (by decide) ?_
          refine ev_x (i := .aload_n 0) (len := 1) (p' := 83) (s' := [.ref 66]) rfl rfl (ld_a (vg_o (i := 5) (v := .int l_5) (vg_o (i := 7) (v := .int 35) g_0 (by decide) (Or.inl rfl)) (by decide) (Or.inl rfl))) ?_
          refine ev_x (i := .iload_n 1) (len := 1) (p' := 84) (s' := [.int l_1, .ref 66]) rfl rfl (ld_i (vg_o (i := 5) (v := .int l_5) (vg_o (i := 7) (v := .int 35) g_1 (by decide) (Or.inl rfl)) (by decide) (Or.inl rfl))) ?_
          refine ev_x (i := .iload 6) (len := 2) (p' := 86) (s' := [.int l_6, .int l_1, .ref 66]) rfl rfl (ld_i (vg_o (i := 5) (v := .int l_5) (vg_o (i := 7) (v := .int 35) g_6 (by decide) (Or.inl rfl)) (by decide) (Or.inl rfl))) ?_
          refine ev_x (i := .iconst 1) (len := 1) (p' := 87) (s' := [.int 1, .int l_6, .int l_1, .ref 66]) rfl rfl rfl ?_
          refine ev_x (i := .iadd) (len := 1) (p' := 88) (s' := [.int (l_6 + 1), .int l_1, .ref 66]) rfl rfl rfl ?_
          refine ev_x (i := .iload 4) (len := 2) (p' := 90) (s' := [.int l_4, .int (l_6 + 1), .int l_1, .ref 66]) rfl rfl (ld_i (vg_o (i := 5) (v := .int l_5) (vg_o (i := 7) (v := .int 35) g_4 (by decide) (Or.inl rfl)) (by decide) (Or.inl rfl))) ?_
          obtain ⟨p_10, G_10, H⟩ := F_bd H
          refine ev_cv (d := d + 2) (As := [.int l_1, .int (l_6 + 1), .int l_4]) (a := 66) (p' := 93) rfl rfl rfl ly_66 rfl rfl rfl rfl rfl (nb_s1 (nb_s1 hnb rfl) rfl) rfl (F_169_ok (d := d + 0)   G_10) ?_
          refine ev_st (st' := []) rfl ?_
          have e_10 := F_169_R G_10
          refine ev_x (i := .iload 6) (len := 2) (p' := 95) (s' := [.int l_6]) rfl rfl (ld_i (vg_o (i := 5) (v := .int l_5) (vg_o (i := 7) (v := .int 35) g_6 (by decide) (Or.inl rfl)) (by decide) (Or.inl rfl))) ?_
          refine ev_x (i := .istore 4) (len := 2) (p' := 97) (s' := []) (l' := vz_s1 (vz_s1 (vz_s1 (lv) 7 (.int 35)) 5 (.int l_5)) 4 (.int l_6)) rfl rfl rfl ?_
          refine ev_x (i := .iinc 6 (-1)) (len := 3) (p' := 100) (s' := []) (l' := vz_s1 (vz_s1 (vz_s1 (vz_s1 (lv) 7 (.int 35)) 5 (.int l_5)) 4 (.int l_6)) 6 (.int (l_6 + (-1)))) rfl rfl (ld_inc (vg_o (i := 4) (v := .int l_6) (vg_o (i := 5) (v := .int l_5) (vg_o (i := 7) (v := .int 35) g_6 (by decide) (Or.inl rfl)) (by decide) (Or.inl rfl)) (by decide) (Or.inl rfl)) rfl) ?_
          refine ev_x (i := .goto (-89)) (len := 3) (p' := 11) (s' := []) rfl rfl rfl ?_
          exact ih _ _ _ _ _ _ _ _ (vg_o (i := 6) (v := .int (l_6 + (-1))) (vg_o (i := 4) (v := .int l_6) (vg_o (i := 5) (v := .int l_5) (vg_o (i := 7) (v := .int 35) g_0 (by decide) (Or.inl rfl)) (by decide) (Or.inl rfl)) (by decide) (Or.inl rfl)) (by decide) (Or.inl rfl)) (vg_o (i := 6) (v := .int (l_6 + (-1))) (vg_o (i := 4) (v := .int l_6) (vg_o (i := 5) (v := .int l_5) (vg_o (i := 7) (v := .int 35) g_1 (by decide) (Or.inl rfl)) (by decide) (Or.inl rfl)) (by decide) (Or.inl rfl)) (by decide) (Or.inl rfl)) (vg_o (i := 6) (v := .int (l_6 + (-1))) (vg_o (i := 4) (v := .int l_6) (vg_o (i := 5) (v := .int l_5) (vg_o (i := 7) (v := .int 35) g_2 (by decide) (Or.inl rfl)) (by decide) (Or.inl rfl)) (by decide) (Or.inl rfl)) (by decide) (Or.inl rfl)) (vg_o (i := 6) (v := .int (l_6 + (-1))) (vg_s (vz_s1 (vz_s1 (lv) 7 (.int 35)) 5 (.int l_5)) 4 (.int l_6)) (by decide) (Or.inl rfl)) (vg_o (i := 6) (v := .int (l_6 + (-1))) (vg_o (i := 4) (v := .int l_6) (vg_s (vz_s1 (lv) 7 (.int 35)) 5 (.int l_5)) (by decide) (Or.inl rfl)) (by decide) (Or.inl rfl)) (vg_s (vz_s1 (vz_s1 (vz_s1 (lv) 7 (.int 35)) 5 (.int l_5)) 4 (.int l_6)) 6 (.int (l_6 + (-1)))) (nb_s1 (nb_s1 (nb_s1 (nb_s1 hnb rfl) rfl) rfl) rfl)  H
        · refine ev_b0 (t := 97) (p' := 97) rfl rfl rfl (if_pos c_9) ?_
          refine ev_x (i := .iinc 6 (-1)) (len := 3) (p' := 100) (s' := []) (l' := vz_s1 (vz_s1 (vz_s1 (lv) 7 (.int 35)) 5 (.int l_5)) 6 (.int (l_6 + (-1)))) rfl rfl (ld_inc (vg_o (i := 5) (v := .int l_5) (vg_o (i := 7) (v := .int 35) g_6 (by decide) (Or.inl rfl)) (by decide) (Or.inl rfl)) rfl) ?_
          refine ev_x (i := .goto (-89)) (len := 3) (p' := 11) (s' := []) rfl rfl rfl ?_
          exact ih _ _ _ _ _ _ _ _ (vg_o (i := 6) (v := .int (l_6 + (-1))) (vg_o (i := 5) (v := .int l_5) (vg_o (i := 7) (v := .int 35) g_0 (by decide) (Or.inl rfl)) (by decide) (Or.inl rfl)) (by decide) (Or.inl rfl)) (vg_o (i := 6) (v := .int (l_6 + (-1))) (vg_o (i := 5) (v := .int l_5) (vg_o (i := 7) (v := .int 35) g_1 (by decide) (Or.inl rfl)) (by decide) (Or.inl rfl)) (by decide) (Or.inl rfl)) (vg_o (i := 6) (v := .int (l_6 + (-1))) (vg_o (i := 5) (v := .int l_5) (vg_o (i := 7) (v := .int 35) g_2 (by decide) (Or.inl rfl)) (by decide) (Or.inl rfl)) (by decide) (Or.inl rfl)) (vg_o (i := 6) (v := .int (l_6 + (-1))) (vg_o (i := 5) (v := .int l_5) (vg_o (i := 7) (v := .int 35) g_4 (by decide) (Or.inl rfl)) (by decide) (Or.inl rfl)) (by decide) (Or.inl rfl)) (vg_o (i := 6) (v := .int (l_6 + (-1))) (vg_s (vz_s1 (lv) 7 (.int 35)) 5 (.int l_5)) (by decide) (Or.inl rfl)) (vg_s (vz_s1 (vz_s1 (lv) 7 (.int 35)) 5 (.int l_5)) 6 (.int (l_6 + (-1)))) (nb_s1 (nb_s1 (nb_s1 hnb rfl) rfl) rfl)  H
/-- GameTextModel.list(III)V -/
def F_178 (N : Nat) (x_1 : Int32) (x_2 : Int32) (x_3 : Int32) (σ : st_S) : Option (st_S) :=
  L_178 N N x_1 x_2 x_3 0 (x_3 - 1) (σ)
set_option maxRecDepth 100000 in
theorem F_178_R {N : Nat} {x_1 : Int32} {x_2 : Int32} {x_3 : Int32} {σ : st_S} {p : st_S} (H : F_178 N x_1 x_2 x_3 σ = some p) : gR p = gR σ := by
  unfold F_178 at H
  exact (((L_178_R _ _ _ _ _ _ _ _ H)).trans rfl)
set_option maxHeartbeats 4000000 in
set_option maxRecDepth 100000 in
theorem F_178_ok {N d : Nat} {x_1 : Int32} {x_2 : Int32} {x_3 : Int32} {σ : st_S} {p : st_S}  (H : F_178 N x_1 x_2 x_3 σ = some p) : vz_ev P0 (d + 3) 178 0 (lv_args 0 [.ref 66, .int x_1, .int x_2, .int x_3]) [] (hp σ) (.inl none, hp p) := by
  unfold F_178 at H
  refine ev_x (i := .iload_n 3) (len := 1) (p' := 1) (s' := [.int x_3]) rfl rfl rfl ?_
  refine ev_x (i := .istore 4) (len := 2) (p' := 3) (s' := []) (l' := [(4, .int x_3), (0, .ref 66), (1, .int x_1), (2, .int x_2), (3, .int x_3)]) rfl rfl rfl ?_
  refine ev_x (i := .iconst 0) (len := 1) (p' := 4) (s' := [.int 0]) rfl rfl rfl ?_
  refine ev_x (i := .istore 5) (len := 2) (p' := 6) (s' := []) (l' := [(5, .int 0), (4, .int x_3), (0, .ref 66), (1, .int x_1), (2, .int x_2), (3, .int x_3)]) rfl rfl rfl ?_
  refine ev_x (i := .iload_n 3) (len := 1) (p' := 7) (s' := [.int x_3]) rfl rfl rfl ?_
  refine ev_x (i := .iconst 1) (len := 1) (p' := 8) (s' := [.int 1, .int x_3]) rfl rfl rfl ?_
  refine ev_x (i := .isub) (len := 1) (p' := 9) (s' := [.int (x_3 - 1)]) rfl rfl rfl ?_
  refine ev_x (i := .istore 6) (len := 2) (p' := 11) (s' := []) (l' := [(6, .int (x_3 - 1)), (5, .int 0), (4, .int x_3), (0, .ref 66), (1, .int x_1), (2, .int x_2), (3, .int x_3)]) rfl rfl rfl ?_
  exact (L_178_ok (d := d) N) _ _ _ _ _ _ _ _ rfl rfl rfl rfl rfl rfl rfl  H
/-- GameTextModel.part(III)V, from 255 -/
def J_170_255 (N : Nat) (g : Nat) (x : Nat) (l_2 : Int32) (l_3 : Int32) (l_6 : Int32) (σ : st_S) : Option (st_S) :=
  (F_178 N l_6 (l_2 + 2) (l_3 - 1) (σ)).bind fun p_30 =>
  some (p_30)
set_option maxRecDepth 100000 in
theorem J_170_255_R {N : Nat} {g : Nat} {x : Nat} {l_2 : Int32} {l_3 : Int32} {l_6 : Int32} {σ : st_S} {p : st_S} (H : J_170_255 N g x l_2 l_3 l_6 σ = some p) : gR p = gR σ := by
  unfold J_170_255 at H
  obtain ⟨p_30, G_30, H⟩ := F_bd H
  obtain rfl := Option.some.inj H
  exact ((F_178_R G_30).trans rfl)
set_option maxHeartbeats 4000000 in
set_option maxRecDepth 100000 in
theorem J_170_255_ok {N d : Nat} {g : Nat} (hg : g = 79 ∨ g = 115) {x : Nat} (hx : x = 67 ∨ x = 69) {l_2 : Int32} {l_3 : Int32} {l_6 : Int32} {σ : st_S} {lv : vz_L} {p : st_S} (g_0 : vz_g lv 0 = some (.ref 66)) (g_2 : vz_g lv 2 = some (.int l_2)) (g_3 : vz_g lv 3 = some (.int l_3)) (g_6 : vz_g lv 6 = some (.int l_6)) (hnb : vz_nbL (vz_gr P0) lv = true) (hr_66_2 : gR σ 66 2 = x) (hr_66_10 : gR σ 66 10 = g) (H : J_170_255 N g x l_2 l_3 l_6 σ = some p) : vz_ev P0 (d + 6) 170 255 lv [] (hp σ) (.inl none, hp p) := by
  unfold J_170_255 at H
  refine ev_x (i := .aload_n 0) (len := 1) (p' := 256) (s' := [.ref 66]) rfl rfl (ld_a g_0) ?_
  refine ev_x (i := .iload 6) (len := 2) (p' := 258) (s' := [.int l_6, .ref 66]) rfl rfl (ld_i g_6) ?_
  refine ev_x (i := .iload_n 2) (len := 1) (p' := 259) (s' := [.int l_2, .int l_6, .ref 66]) rfl rfl (ld_i g_2) ?_
  refine ev_x (i := .iconst 2) (len := 1) (p' := 260) (s' := [.int 2, .int l_2, .int l_6, .ref 66]) rfl rfl rfl ?_
  refine ev_x (i := .iadd) (len := 1) (p' := 261) (s' := [.int (l_2 + 2), .int l_6, .ref 66]) rfl rfl rfl ?_
  refine ev_x (i := .iload_n 3) (len := 1) (p' := 262) (s' := [.int l_3, .int (l_2 + 2), .int l_6, .ref 66]) rfl rfl (ld_i g_3) ?_
  refine ev_x (i := .iconst 1) (len := 1) (p' := 263) (s' := [.int 1, .int l_3, .int (l_2 + 2), .int l_6, .ref 66]) rfl rfl rfl ?_
  refine ev_x (i := .isub) (len := 1) (p' := 264) (s' := [.int (l_3 - 1), .int (l_2 + 2), .int l_6, .ref 66]) rfl rfl rfl ?_
  obtain ⟨p_30, G_30, H⟩ := F_bd H
  refine ev_cv (d := d + 5) (As := [.int l_6, .int (l_2 + 2), .int (l_3 - 1)]) (a := 66) (p' := 267) rfl rfl rfl ly_66 rfl rfl rfl rfl rfl hnb rfl (F_178_ok (d := d + 2)   G_30) ?_
  refine ev_st (st' := []) rfl ?_
  have e_30 := F_178_R G_30
  obtain rfl := Option.some.inj H
  exact ev_vret rfl rfl rfl
/-- GameTextModel.part(III)V, from 178 -/
def J_170_178 (N : Nat) (g : Nat) (x : Nat) (l_2 : Int32) (l_3 : Int32) (l_6 : Int32) (σ : st_S) : Option (st_S) :=
  (F_169 N l_6 (l_2 + 1) l_3 (σ)).bind fun p_29 =>
  some (p_29)
set_option maxRecDepth 100000 in
theorem J_170_178_R {N : Nat} {g : Nat} {x : Nat} {l_2 : Int32} {l_3 : Int32} {l_6 : Int32} {σ : st_S} {p : st_S} (H : J_170_178 N g x l_2 l_3 l_6 σ = some p) : gR p = gR σ := by
  unfold J_170_178 at H
  obtain ⟨p_29, G_29, H⟩ := F_bd H
  obtain rfl := Option.some.inj H
  exact ((F_169_R G_29).trans rfl)
set_option maxHeartbeats 4000000 in
set_option maxRecDepth 100000 in
theorem J_170_178_ok {N d : Nat} {g : Nat} (hg : g = 79 ∨ g = 115) {x : Nat} (hx : x = 67 ∨ x = 69) {l_2 : Int32} {l_3 : Int32} {l_6 : Int32} {σ : st_S} {lv : vz_L} {p : st_S} (g_0 : vz_g lv 0 = some (.ref 66)) (g_2 : vz_g lv 2 = some (.int l_2)) (g_3 : vz_g lv 3 = some (.int l_3)) (g_6 : vz_g lv 6 = some (.int l_6)) (hnb : vz_nbL (vz_gr P0) lv = true) (hr_66_2 : gR σ 66 2 = x) (hr_66_10 : gR σ 66 10 = g) (H : J_170_178 N g x l_2 l_3 l_6 σ = some p) : vz_ev P0 (d + 6) 170 178 lv [] (hp σ) (.inl none, hp p) := by
  unfold J_170_178 at H
  refine ev_x (i := .aload_n 0) (len := 1) (p' := 179) (s' := [.ref 66]) rfl rfl (ld_a g_0) ?_
  refine ev_x (i := .iload 6) (len := 2) (p' := 181) (s' := [.int l_6, .ref 66]) rfl rfl (ld_i g_6) ?_
  refine ev_x (i := .iload_n 2) (len := 1) (p' := 182) (s' := [.int l_2, .int l_6, .ref 66]) rfl rfl (ld_i g_2) ?_
  refine ev_x (i := .iconst 1) (len := 1) (p' := 183) (s' := [.int 1, .int l_2, .int l_6, .ref 66]) rfl rfl rfl ?_
  refine ev_x (i := .iadd) (len := 1) (p' := 184) (s' := [.int (l_2 + 1), .int l_6, .ref 66]) rfl rfl rfl ?_
  refine ev_x (i := .iload_n 3) (len := 1) (p' := 185) (s' := [.int l_3, .int (l_2 + 1), .int l_6, .ref 66]) rfl rfl (ld_i g_3) ?_
  obtain ⟨p_29, G_29, H⟩ := F_bd H
  refine ev_cv (d := d + 5) (As := [.int l_6, .int (l_2 + 1), .int l_3]) (a := 66) (p' := 188) rfl rfl rfl ly_66 rfl rfl rfl rfl rfl hnb rfl (F_169_ok (d := d + 3)   G_29) ?_
  refine ev_st (st' := []) rfl ?_
  have e_29 := F_169_R G_29
  refine ev_x (i := .goto 79) (len := 3) (p' := 267) (s' := []) rfl rfl rfl ?_
  obtain rfl := Option.some.inj H
  exact ev_vret rfl rfl rfl
/-- GameTextModel.part(III)V -/
def F_170 (N : Nat) (g : Nat) (x : Nat) (x_1 : Int32) (x_2 : Int32) (x_3 : Int32) (σ : st_S) : Option (st_S) :=
  (F_171 N x_2 x_3 (σ)).bind fun p_1 =>
  if p_1.1 < 0 then
    (F_162 N x_2 (p_1.2)).bind fun p_3 =>
    if p_3.1 = 36 then
      (F_169 N x_1 (x_2 + 1) (x_3 - 1) (p_3.2)).bind fun p_5 =>
      some (p_5)
    else
      (F_174 N g (if p_3.1 = 25 then 45 else p_3.1 : Int32) x_2 x_2 (p_3.2)).bind fun p_7 =>
      (F_175 N g x_1 p_7.1 (p_7.2)).bind fun p_8 =>
      if p_3.1 = 25 then
        J_170_178 N g x x_2 x_3 p_7.1 (p_8)
      else
        if p_3.1 = 31 then
          J_170_178 N g x x_2 x_3 p_7.1 (p_8)
        else
          if p_3.1 = 2 then
            (F_177 N x x_2 (p_8)).bind fun p_12 =>
            if aB p_7.1 (gN p_12.2 (g + 8)) then
            some (st_e (p_12.2) (g + 8) ((p_7.1 : Int32).toNatClampNeg) p_12.1)
            else none
          else
            if p_3.1 = 1 then
              if aB p_7.1 (gN p_8 (g + 8)) then
              some (st_e (p_8) (g + 8) ((p_7.1 : Int32).toNatClampNeg) x_2)
              else none
            else
              if p_3.1 = 14 then
                J_170_255 N g x x_2 x_3 p_7.1 (p_8)
              else
                if p_3.1 = 15 then
                  J_170_255 N g x x_2 x_3 p_7.1 (p_8)
                else
                  some (p_8)
  else
    (F_162 N p_1.1 (p_1.2)).bind fun p_18 =>
    (F_174 N g p_18.1 p_1.1 x_2 (p_18.2)).bind fun p_19 =>
    (F_175 N g x_1 p_19.1 (p_19.2)).bind fun p_20 =>
    (F_162 N p_1.1 (p_20)).bind fun p_21 =>
    if p_21.1 = 32 then
      (F_176 N p_1.1 x_3 (p_21.2)).bind fun p_23 =>
      (F_169 N p_19.1 (p_23.1 + 1) x_3 (p_23.2)).bind fun p_24 =>
      (F_169 N p_19.1 (p_1.1 + 1) p_23.1 (p_24)).bind fun p_25 =>
      (F_169 N p_19.1 x_2 p_1.1 (p_25)).bind fun p_26 =>
      some (p_26)
    else
      (F_169 N p_19.1 (p_1.1 + 1) x_3 (p_21.2)).bind fun p_27 =>
      (F_169 N p_19.1 x_2 p_1.1 (p_27)).bind fun p_28 =>
      some (p_28)
set_option maxRecDepth 100000 in
theorem F_170_R {N : Nat} {g : Nat} {x : Nat} {x_1 : Int32} {x_2 : Int32} {x_3 : Int32} {σ : st_S} {p : st_S} (H : F_170 N g x x_1 x_2 x_3 σ = some p) : gR p = gR σ := by
  unfold F_170 at H
  obtain ⟨p_1, G_1, H⟩ := F_bd H
  refine F_if H (fun _ H => ?_) (fun _ H => ?_)
  · obtain ⟨p_3, G_3, H⟩ := F_bd H
    refine F_if H (fun _ H => ?_) (fun _ H => ?_)
    · obtain ⟨p_5, G_5, H⟩ := F_bd H
      obtain rfl := Option.some.inj H
      exact ((F_169_R G_5).trans ((F_162_R G_3).trans ((F_171_R G_1).trans rfl)))
    · obtain ⟨p_7, G_7, H⟩ := F_bd H
      obtain ⟨p_8, G_8, H⟩ := F_bd H
      refine F_if H (fun _ H => ?_) (fun _ H => ?_)
      · exact (((J_170_178_R H)).trans ((F_175_R G_8).trans ((F_174_R G_7).trans ((F_162_R G_3).trans ((F_171_R G_1).trans rfl)))))
      · refine F_if H (fun _ H => ?_) (fun _ H => ?_)
        · exact (((J_170_178_R H)).trans ((F_175_R G_8).trans ((F_174_R G_7).trans ((F_162_R G_3).trans ((F_171_R G_1).trans rfl)))))
        · refine F_if H (fun _ H => ?_) (fun _ H => ?_)
          · obtain ⟨p_12, G_12, H⟩ := F_bd H
            obtain ⟨_, H⟩ := F_gd H
            obtain rfl := Option.some.inj H
            exact ((F_177_R G_12).trans ((F_175_R G_8).trans ((F_174_R G_7).trans ((F_162_R G_3).trans ((F_171_R G_1).trans rfl)))))
          · refine F_if H (fun _ H => ?_) (fun _ H => ?_)
            · obtain ⟨_, H⟩ := F_gd H
              obtain rfl := Option.some.inj H
              exact ((F_175_R G_8).trans ((F_174_R G_7).trans ((F_162_R G_3).trans ((F_171_R G_1).trans rfl))))
            · refine F_if H (fun _ H => ?_) (fun _ H => ?_)
              · exact (((J_170_255_R H)).trans ((F_175_R G_8).trans ((F_174_R G_7).trans ((F_162_R G_3).trans ((F_171_R G_1).trans rfl)))))
              · refine F_if H (fun _ H => ?_) (fun _ H => ?_)
                · exact (((J_170_255_R H)).trans ((F_175_R G_8).trans ((F_174_R G_7).trans ((F_162_R G_3).trans ((F_171_R G_1).trans rfl)))))
                · obtain rfl := Option.some.inj H
                  exact ((F_175_R G_8).trans ((F_174_R G_7).trans ((F_162_R G_3).trans ((F_171_R G_1).trans rfl))))
  · obtain ⟨p_18, G_18, H⟩ := F_bd H
    obtain ⟨p_19, G_19, H⟩ := F_bd H
    obtain ⟨p_20, G_20, H⟩ := F_bd H
    obtain ⟨p_21, G_21, H⟩ := F_bd H
    refine F_if H (fun _ H => ?_) (fun _ H => ?_)
    · obtain ⟨p_23, G_23, H⟩ := F_bd H
      obtain ⟨p_24, G_24, H⟩ := F_bd H
      obtain ⟨p_25, G_25, H⟩ := F_bd H
      obtain ⟨p_26, G_26, H⟩ := F_bd H
      obtain rfl := Option.some.inj H
      exact ((F_169_R G_26).trans ((F_169_R G_25).trans ((F_169_R G_24).trans ((F_176_R G_23).trans ((F_162_R G_21).trans ((F_175_R G_20).trans ((F_174_R G_19).trans ((F_162_R G_18).trans ((F_171_R G_1).trans rfl)))))))))
    · obtain ⟨p_27, G_27, H⟩ := F_bd H
      obtain ⟨p_28, G_28, H⟩ := F_bd H
      obtain rfl := Option.some.inj H
      exact ((F_169_R G_28).trans ((F_169_R G_27).trans ((F_162_R G_21).trans ((F_175_R G_20).trans ((F_174_R G_19).trans ((F_162_R G_18).trans ((F_171_R G_1).trans rfl)))))))
set_option maxHeartbeats 4000000 in
set_option maxRecDepth 100000 in
theorem F_170_ok {N d : Nat} {g : Nat} (hg : g = 79 ∨ g = 115) {x : Nat} (hx : x = 67 ∨ x = 69) {x_1 : Int32} {x_2 : Int32} {x_3 : Int32} {σ : st_S} {p : st_S} (hr_66_2 : gR σ 66 2 = x) (hr_66_10 : gR σ 66 10 = g) (H : F_170 N g x x_1 x_2 x_3 σ = some p) : vz_ev P0 (d + 6) 170 0 (lv_args 0 [.ref 66, .int x_1, .int x_2, .int x_3]) [] (hp σ) (.inl none, hp p) := by
  unfold F_170 at H
  rcases hg with rfl | rfl
  · refine ev_x (i := .aload_n 0) (len := 1) (p' := 1) (s' := [.ref 66]) rfl rfl rfl ?_
    refine ev_x (i := .iload_n 2) (len := 1) (p' := 2) (s' := [.int x_2, .ref 66]) rfl rfl rfl ?_
    refine ev_x (i := .iload_n 3) (len := 1) (p' := 3) (s' := [.int x_3, .int x_2, .ref 66]) rfl rfl rfl ?_
    obtain ⟨p_1, G_1, H⟩ := F_bd H
    refine ev_cv (d := d + 5) (As := [.int x_2, .int x_3]) (a := 66) (p' := 6) rfl rfl rfl ly_66 rfl rfl rfl rfl rfl rfl rfl (F_171_ok (d := d + 0)   G_1) ?_
    refine ev_st (st' := [.int p_1.1]) rfl ?_
    have e_1 := F_171_R G_1
    refine ev_x (i := .istore 4) (len := 2) (p' := 8) (s' := []) (l' := [(4, .int p_1.1), (0, .ref 66), (1, .int x_1), (2, .int x_2), (3, .int x_3)]) rfl rfl rfl ?_
    refine ev_x (i := .iload 4) (len := 2) (p' := 10) (s' := [.int p_1.1]) rfl rfl rfl ?_
    refine F_if H (fun c_2 H => ?_) (fun c_2 H => ?_)
    · refine ev_b0 (t := 109) (p' := 109) rfl rfl rfl (if_pos c_2) ?_
      refine ev_x (i := .aload_n 0) (len := 1) (p' := 110) (s' := [.ref 66]) rfl rfl rfl ?_
      refine ev_x (i := .iload_n 2) (len := 1) (p' := 111) (s' := [.int x_2, .ref 66]) rfl rfl rfl ?_
      obtain ⟨p_3, G_3, H⟩ := F_bd H
      refine ev_cv (d := d + 5) (As := [.int x_2]) (a := 66) (p' := 114) rfl rfl rfl ly_66 rfl rfl rfl rfl rfl rfl rfl (F_162_ok (d := d + 3)   G_3) ?_
      refine ev_st (st' := [.int p_3.1]) rfl ?_
      have e_3 := F_162_R G_3
      refine ev_x (i := .istore 5) (len := 2) (p' := 116) (s' := []) (l' := [(5, .int p_3.1), (4, .int p_1.1), (0, .ref 66), (1, .int x_1), (2, .int x_2), (3, .int x_3)]) rfl rfl rfl ?_
      refine ev_x (i := .iload 5) (len := 2) (p' := 118) (s' := [.int p_3.1]) rfl rfl rfl ?_
      refine ev_x (i := .bipush 36) (len := 2) (p' := 120) (s' := [.int 36, .int p_3.1]) rfl rfl rfl ?_
      refine F_if H (fun c_4 H => ?_) (fun c_4 H => ?_)
      · refine ev_b2 (t := 135) (p' := 123) rfl rfl rfl (if_neg (fun q => q c_4)) ?_
        refine ev_x (i := .aload_n 0) (len := 1) (p' := 124) (s' := [.ref 66]) rfl rfl rfl ?_
        refine ev_x (i := .iload_n 1) (len := 1) (p' := 125) (s' := [.int x_1, .ref 66]) rfl rfl rfl ?_
        refine ev_x (i := .iload_n 2) (len := 1) (p' := 126) (s' := [.int x_2, .int x_1, .ref 66]) rfl rfl rfl ?_
        refine ev_x (i := .iconst 1) (len := 1) (p' := 127) (s' := [.int 1, .int x_2, .int x_1, .ref 66]) rfl rfl rfl ?_
        refine ev_x (i := .iadd) (len := 1) (p' := 128) (s' := [.int (x_2 + 1), .int x_1, .ref 66]) rfl rfl rfl ?_
        refine ev_x (i := .iload_n 3) (len := 1) (p' := 129) (s' := [.int x_3, .int (x_2 + 1), .int x_1, .ref 66]) rfl rfl rfl ?_
        refine ev_x (i := .iconst 1) (len := 1) (p' := 130) (s' := [.int 1, .int x_3, .int (x_2 + 1), .int x_1, .ref 66]) rfl rfl rfl ?_
        refine ev_x (i := .isub) (len := 1) (p' := 131) (s' := [.int (x_3 - 1), .int (x_2 + 1), .int x_1, .ref 66]) rfl rfl rfl ?_
        obtain ⟨p_5, G_5, H⟩ := F_bd H
        refine ev_cv (d := d + 5) (As := [.int x_1, .int (x_2 + 1), .int (x_3 - 1)]) (a := 66) (p' := 134) rfl rfl rfl ly_66 rfl rfl rfl rfl rfl rfl rfl (F_169_ok (d := d + 3)   G_5) ?_
        refine ev_st (st' := []) rfl ?_
        have e_5 := F_169_R G_5
        obtain rfl := Option.some.inj H
        exact ev_vret rfl rfl rfl
      · refine ev_b2 (t := 135) (p' := 135) rfl rfl rfl (if_pos c_4) ?_
        refine ev_x (i := .aload_n 0) (len := 1) (p' := 136) (s' := [.ref 66]) rfl rfl rfl ?_
        refine ev_x (i := .iload 5) (len := 2) (p' := 138) (s' := [.int p_3.1, .ref 66]) rfl rfl rfl ?_
        refine ev_x (i := .bipush 25) (len := 2) (p' := 140) (s' := [.int 25, .int p_3.1, .ref 66]) rfl rfl rfl ?_
        refine F_jn (A := vz_ev P0 (d + 6) 170 150 [(5, .int p_3.1), (4, .int p_1.1), (0, .ref 66), (1, .int x_1), (2, .int x_2), (3, .int x_3)] [.int (if p_3.1 = 25 then 45 else p_3.1 : Int32), .ref 66] (hp (p_3.2)) (.inl none, hp p)) ?_ (fun J => ?_)
        · refine ev_x (i := .iload_n 2) (len := 1) (p' := 151) (s' := [.int x_2, .int (if p_3.1 = 25 then 45 else p_3.1 : Int32), .ref 66]) rfl rfl rfl ?_
          refine ev_x (i := .iload_n 2) (len := 1) (p' := 152) (s' := [.int x_2, .int x_2, .int (if p_3.1 = 25 then 45 else p_3.1 : Int32), .ref 66]) rfl rfl rfl ?_
          obtain ⟨p_7, G_7, H⟩ := F_bd H
          refine ev_cv (d := d + 5) (As := [.int (if p_3.1 = 25 then 45 else p_3.1 : Int32), .int x_2, .int x_2]) (a := 66) (p' := 155) rfl rfl rfl ly_66 rfl rfl rfl rfl rfl rfl rfl (F_174_ok (d := d + 2) (hg := (Or.inl rfl)) (hr_66_10 := ((congrFun (congrFun e_3 66) 10).trans ((congrFun (congrFun e_1 66) 10).trans hr_66_10))) G_7) ?_
          refine ev_st (st' := [.int p_7.1]) rfl ?_
          have e_7 := F_174_R G_7
          refine ev_x (i := .istore 6) (len := 2) (p' := 157) (s' := []) (l' := [(6, .int p_7.1), (5, .int p_3.1), (4, .int p_1.1), (0, .ref 66), (1, .int x_1), (2, .int x_2), (3, .int x_3)]) rfl rfl rfl ?_
          refine ev_x (i := .aload_n 0) (len := 1) (p' := 158) (s' := [.ref 66]) rfl rfl rfl ?_
          refine ev_x (i := .iload_n 1) (len := 1) (p' := 159) (s' := [.int x_1, .ref 66]) rfl rfl rfl ?_
          refine ev_x (i := .iload 6) (len := 2) (p' := 161) (s' := [.int p_7.1, .int x_1, .ref 66]) rfl rfl rfl ?_
          obtain ⟨p_8, G_8, H⟩ := F_bd H
          refine ev_cv (d := d + 5) (As := [.int x_1, .int p_7.1]) (a := 66) (p' := 164) rfl rfl rfl ly_66 rfl rfl rfl rfl rfl rfl rfl (F_175_ok (d := d + 3) (hg := (Or.inl rfl)) (hr_66_10 := ((congrFun (congrFun e_7 66) 10).trans ((congrFun (congrFun e_3 66) 10).trans ((congrFun (congrFun e_1 66) 10).trans hr_66_10)))) G_8) ?_
          refine ev_st (st' := []) rfl ?_
          have e_8 := F_175_R G_8
          refine ev_x (i := .iload 5) (len := 2) (p' := 166) (s' := [.int p_3.1]) rfl rfl rfl ?_
          refine ev_x (i := .bipush 25) (len := 2) (p' := 168) (s' := [.int 25, .int p_3.1]) rfl rfl rfl ?_
          refine F_if H (fun c_9 H => ?_) (fun c_9 H => ?_)
          · refine ev_b2 (t := 178) (p' := 178) rfl rfl rfl (if_pos c_9) ?_
            exact J_170_178_ok (d := d) (Or.inl rfl) hx rfl rfl rfl rfl rfl ((congrFun (congrFun e_8 66) 2).trans ((congrFun (congrFun e_7 66) 2).trans ((congrFun (congrFun e_3 66) 2).trans ((congrFun (congrFun e_1 66) 2).trans hr_66_2)))) ((congrFun (congrFun e_8 66) 10).trans ((congrFun (congrFun e_7 66) 10).trans ((congrFun (congrFun e_3 66) 10).trans ((congrFun (congrFun e_1 66) 10).trans hr_66_10)))) H
          · refine ev_b2 (t := 178) (p' := 171) rfl rfl rfl (if_neg c_9) ?_
            refine ev_x (i := .iload 5) (len := 2) (p' := 173) (s' := [.int p_3.1]) rfl rfl rfl ?_
            refine ev_x (i := .bipush 31) (len := 2) (p' := 175) (s' := [.int 31, .int p_3.1]) rfl rfl rfl ?_
            refine F_if H (fun c_10 H => ?_) (fun c_10 H => ?_)
            · refine ev_b2 (t := 191) (p' := 178) rfl rfl rfl (if_neg (fun q => q c_10)) ?_
              exact J_170_178_ok (d := d) (Or.inl rfl) hx rfl rfl rfl rfl rfl ((congrFun (congrFun e_8 66) 2).trans ((congrFun (congrFun e_7 66) 2).trans ((congrFun (congrFun e_3 66) 2).trans ((congrFun (congrFun e_1 66) 2).trans hr_66_2)))) ((congrFun (congrFun e_8 66) 10).trans ((congrFun (congrFun e_7 66) 10).trans ((congrFun (congrFun e_3 66) 10).trans ((congrFun (congrFun e_1 66) 10).trans hr_66_10)))) H
            · refine ev_b2 (t := 191) (p' := 191) rfl rfl rfl (if_pos c_10) ?_
              refine ev_x (i := .iload 5) (len := 2) (p' := 193) (s' := [.int p_3.1]) rfl rfl rfl ?_
              refine ev_x (i := .iconst 2) (len := 1) (p' := 194) (s' := [.int 2, .int p_3.1]) rfl rfl rfl ?_
              refine F_if H (fun c_11 H => ?_) (fun c_11 H => ?_)
              · refine ev_b2 (t := 218) (p' := 197) rfl rfl rfl (if_neg (fun q => q c_11)) ?_
                refine ev_x (i := .aload_n 0) (len := 1) (p' := 198) (s' := [.ref 66]) rfl rfl rfl ?_
                refine ev_gr (p' := 201) (v := 79) rfl rfl rfl ly_66 rfl rfl ((congrFun (congrFun e_8 66) 10).trans ((congrFun (congrFun e_7 66) 10).trans ((congrFun (congrFun e_3 66) 10).trans ((congrFun (congrFun e_1 66) 10).trans hr_66_10)))) ?_
                refine ev_gc (p' := 204) (v := 86) rfl rfl rfl ly_79 rfl rfl ?_
                refine ev_gc (p' := 207) (v := 87) rfl rfl rfl ly_86 rfl rfl ?_
                refine ev_x (i := .iload 6) (len := 2) (p' := 209) (s' := [.int p_7.1, .ref 87]) rfl rfl rfl ?_
                refine ev_x (i := .aload_n 0) (len := 1) (p' := 210) (s' := [.ref 66, .int p_7.1, .ref 87]) rfl rfl rfl ?_
                refine ev_x (i := .iload_n 2) (len := 1) (p' := 211) (s' := [.int x_2, .ref 66, .int p_7.1, .ref 87]) rfl rfl rfl ?_
                obtain ⟨p_12, G_12, H⟩ := F_bd H
                refine ev_cv (d := d + 5) (As := [.int x_2]) (a := 66) (p' := 214) rfl rfl rfl ly_66 rfl rfl rfl rfl rfl rfl rfl (F_177_ok (d := d + 2) (hx := hx) (hr_66_2 := ((congrFun (congrFun e_8 66) 2).trans ((congrFun (congrFun e_7 66) 2).trans ((congrFun (congrFun e_3 66) 2).trans ((congrFun (congrFun e_1 66) 2).trans hr_66_2))))) G_12) ?_
                refine ev_st (st' := [.int p_12.1, .int p_7.1, .ref 87]) rfl ?_
                have e_12 := F_177_R G_12
                obtain ⟨b_13, H⟩ := F_gd H
                refine ev_pa (j := (p_7.1 : Int32).toNatClampNeg) (p' := 215) rfl rfl ly_87 rfl (gd_in b_13) rfl ?_
                refine ev_x (i := .goto 52) (len := 3) (p' := 267) (s' := []) rfl rfl rfl ?_
                obtain rfl := Option.some.inj H
                exact ev_vret rfl rfl rfl
              · refine ev_b2 (t := 218) (p' := 218) rfl rfl rfl (if_pos c_11) ?_
                refine ev_x (i := .iload 5) (len := 2) (p' := 220) (s' := [.int p_3.1]) rfl rfl rfl ?_
                refine ev_x (i := .iconst 1) (len := 1) (p' := 221) (s' := [.int 1, .int p_3.1]) rfl rfl rfl ?_
                refine F_if H (fun c_14 H => ?_) (fun c_14 H => ?_)
                · refine ev_b2 (t := 241) (p' := 224) rfl rfl rfl (if_neg (fun q => q c_14)) ?_
                  refine ev_x (i := .aload_n 0) (len := 1) (p' := 225) (s' := [.ref 66]) rfl rfl rfl ?_
                  refine ev_gr (p' := 228) (v := 79) rfl rfl rfl ly_66 rfl rfl ((congrFun (congrFun e_8 66) 10).trans ((congrFun (congrFun e_7 66) 10).trans ((congrFun (congrFun e_3 66) 10).trans ((congrFun (congrFun e_1 66) 10).trans hr_66_10)))) ?_
                  refine ev_gc (p' := 231) (v := 86) rfl rfl rfl ly_79 rfl rfl ?_
                  refine ev_gc (p' := 234) (v := 87) rfl rfl rfl ly_86 rfl rfl ?_
                  refine ev_x (i := .iload 6) (len := 2) (p' := 236) (s' := [.int p_7.1, .ref 87]) rfl rfl rfl ?_
                  refine ev_x (i := .iload_n 2) (len := 1) (p' := 237) (s' := [.int x_2, .int p_7.1, .ref 87]) rfl rfl rfl ?_
                  obtain ⟨b_15, H⟩ := F_gd H
                  refine ev_pa (j := (p_7.1 : Int32).toNatClampNeg) (p' := 238) rfl rfl ly_87 rfl (gd_in b_15) rfl ?_
                  refine ev_x (i := .goto 29) (len := 3) (p' := 267) (s' := []) rfl rfl rfl ?_
                  obtain rfl := Option.some.inj H
                  exact ev_vret rfl rfl rfl
                · refine ev_b2 (t := 241) (p' := 241) rfl rfl rfl (if_pos c_14) ?_
                  refine ev_x (i := .iload 5) (len := 2) (p' := 243) (s' := [.int p_3.1]) rfl rfl rfl ?_
                  refine ev_x (i := .bipush 14) (len := 2) (p' := 245) (s' := [.int 14, .int p_3.1]) rfl rfl rfl ?_
                  refine F_if H (fun c_16 H => ?_) (fun c_16 H => ?_)
                  · refine ev_b2 (t := 255) (p' := 255) rfl rfl rfl (if_pos c_16) ?_
                    exact J_170_255_ok (d := d) (Or.inl rfl) hx rfl rfl rfl rfl rfl ((congrFun (congrFun e_8 66) 2).trans ((congrFun (congrFun e_7 66) 2).trans ((congrFun (congrFun e_3 66) 2).trans ((congrFun (congrFun e_1 66) 2).trans hr_66_2)))) ((congrFun (congrFun e_8 66) 10).trans ((congrFun (congrFun e_7 66) 10).trans ((congrFun (congrFun e_3 66) 10).trans ((congrFun (congrFun e_1 66) 10).trans hr_66_10)))) H
                  · refine ev_b2 (t := 255) (p' := 248) rfl rfl rfl (if_neg c_16) ?_
                    refine ev_x (i := .iload 5) (len := 2) (p' := 250) (s' := [.int p_3.1]) rfl rfl rfl ?_
                    refine ev_x (i := .bipush 15) (len := 2) (p' := 252) (s' := [.int 15, .int p_3.1]) rfl rfl rfl ?_
                    refine F_if H (fun c_17 H => ?_) (fun c_17 H => ?_)
                    · refine ev_b2 (t := 267) (p' := 255) rfl rfl rfl (if_neg (fun q => q c_17)) ?_
                      exact J_170_255_ok (d := d) (Or.inl rfl) hx rfl rfl rfl rfl rfl ((congrFun (congrFun e_8 66) 2).trans ((congrFun (congrFun e_7 66) 2).trans ((congrFun (congrFun e_3 66) 2).trans ((congrFun (congrFun e_1 66) 2).trans hr_66_2)))) ((congrFun (congrFun e_8 66) 10).trans ((congrFun (congrFun e_7 66) 10).trans ((congrFun (congrFun e_3 66) 10).trans ((congrFun (congrFun e_1 66) 10).trans hr_66_10)))) H
                    · refine ev_b2 (t := 267) (p' := 267) rfl rfl rfl (if_pos c_17) ?_
                      obtain rfl := Option.some.inj H
                      exact ev_vret rfl rfl rfl
        · by_cases c_6 : p_3.1 = 25
          · refine ev_b2 (t := 148) (p' := 143) rfl rfl rfl (if_neg (fun q => q c_6)) ?_
            refine ev_x (i := .bipush 45) (len := 2) (p' := 145) (s' := [.int 45, .ref 66]) rfl rfl rfl ?_
            refine ev_x (i := .goto 5) (len := 3) (p' := 150) (s' := [.int 45, .ref 66]) rfl rfl rfl ?_
            exact ev_st (congrArg (fun z => Value.int z :: [.ref 66]) (by rw [if_pos c_6])) J
          · refine ev_b2 (t := 148) (p' := 148) rfl rfl rfl (if_pos c_6) ?_
            refine ev_x (i := .iload 5) (len := 2) (p' := 150) (s' := [.int p_3.1, .ref 66]) rfl rfl rfl ?_
            exact ev_st (congrArg (fun z => Value.int z :: [.ref 66]) (by rw [if_neg c_6])) J
    · refine ev_b0 (t := 109) (p' := 13) rfl rfl rfl (if_neg c_2) ?_
      refine ev_x (i := .aload_n 0) (len := 1) (p' := 14) (s' := [.ref 66]) rfl rfl rfl ?_
      refine ev_x (i := .aload_n 0) (len := 1) (p' := 15) (s' := [.ref 66, .ref 66]) rfl rfl rfl ?_
      refine ev_x (i := .iload 4) (len := 2) (p' := 17) (s' := [.int p_1.1, .ref 66, .ref 66]) rfl rfl rfl ?_
      obtain ⟨p_18, G_18, H⟩ := F_bd H
      refine ev_cv (d := d + 5) (As := [.int p_1.1]) (a := 66) (p' := 20) rfl rfl rfl ly_66 rfl rfl rfl rfl rfl rfl rfl (F_162_ok (d := d + 3)   G_18) ?_
      refine ev_st (st' := [.int p_18.1, .ref 66]) rfl ?_
      have e_18 := F_162_R G_18
      refine ev_x (i := .iload 4) (len := 2) (p' := 22) (s' := [.int p_1.1, .int p_18.1, .ref 66]) rfl rfl rfl ?_
      refine ev_x (i := .iload_n 2) (len := 1) (p' := 23) (s' := [.int x_2, .int p_1.1, .int p_18.1, .ref 66]) rfl rfl rfl ?_
      obtain ⟨p_19, G_19, H⟩ := F_bd H
      refine ev_cv (d := d + 5) (As := [.int p_18.1, .int p_1.1, .int x_2]) (a := 66) (p' := 26) rfl rfl rfl ly_66 rfl rfl rfl rfl rfl rfl rfl (F_174_ok (d := d + 2) (hg := (Or.inl rfl)) (hr_66_10 := ((congrFun (congrFun e_18 66) 10).trans ((congrFun (congrFun e_1 66) 10).trans hr_66_10))) G_19) ?_
      refine ev_st (st' := [.int p_19.1]) rfl ?_
      have e_19 := F_174_R G_19
      refine ev_x (i := .istore 5) (len := 2) (p' := 28) (s' := []) (l' := [(5, .int p_19.1), (4, .int p_1.1), (0, .ref 66), (1, .int x_1), (2, .int x_2), (3, .int x_3)]) rfl rfl rfl ?_
      refine ev_x (i := .aload_n 0) (len := 1) (p' := 29) (s' := [.ref 66]) rfl rfl rfl ?_
      refine ev_x (i := .iload_n 1) (len := 1) (p' := 30) (s' := [.int x_1, .ref 66]) rfl rfl rfl ?_
      refine ev_x (i := .iload 5) (len := 2) (p' := 32) (s' := [.int p_19.1, .int x_1, .ref 66]) rfl rfl rfl ?_
      obtain ⟨p_20, G_20, H⟩ := F_bd H
      refine ev_cv (d := d + 5) (As := [.int x_1, .int p_19.1]) (a := 66) (p' := 35) rfl rfl rfl ly_66 rfl rfl rfl rfl rfl rfl rfl (F_175_ok (d := d + 3) (hg := (Or.inl rfl)) (hr_66_10 := ((congrFun (congrFun e_19 66) 10).trans ((congrFun (congrFun e_18 66) 10).trans ((congrFun (congrFun e_1 66) 10).trans hr_66_10)))) G_20) ?_
      refine ev_st (st' := []) rfl ?_
      have e_20 := F_175_R G_20
      refine ev_x (i := .aload_n 0) (len := 1) (p' := 36) (s' := [.ref 66]) rfl rfl rfl ?_
      refine ev_x (i := .iload 4) (len := 2) (p' := 38) (s' := [.int p_1.1, .ref 66]) rfl rfl rfl ?_
      obtain ⟨p_21, G_21, H⟩ := F_bd H
      refine ev_cv (d := d + 5) (As := [.int p_1.1]) (a := 66) (p' := 41) rfl rfl rfl ly_66 rfl rfl rfl rfl rfl rfl rfl (F_162_ok (d := d + 3)   G_21) ?_
      refine ev_st (st' := [.int p_21.1]) rfl ?_
      have e_21 := F_162_R G_21
      refine ev_x (i := .bipush 32) (len := 2) (p' := 43) (s' := [.int 32, .int p_21.1]) rfl rfl rfl ?_
      refine F_if H (fun c_22 H => ?_) (fun c_22 H => ?_)
      · refine ev_b2 (t := 67) (p' := 67) rfl rfl rfl (if_pos c_22) ?_
        refine ev_x (i := .aload_n 0) (len := 1) (p' := 68) (s' := [.ref 66]) rfl rfl rfl ?_
        refine ev_x (i := .iload 4) (len := 2) (p' := 70) (s' := [.int p_1.1, .ref 66]) rfl rfl rfl ?_
        refine ev_x (i := .iload_n 3) (len := 1) (p' := 71) (s' := [.int x_3, .int p_1.1, .ref 66]) rfl rfl rfl ?_
        obtain ⟨p_23, G_23, H⟩ := F_bd H
        refine ev_cv (d := d + 5) (As := [.int p_1.1, .int x_3]) (a := 66) (p' := 74) rfl rfl rfl ly_66 rfl rfl rfl rfl rfl rfl rfl (F_176_ok (d := d + 2)   G_23) ?_
        refine ev_st (st' := [.int p_23.1]) rfl ?_
        have e_23 := F_176_R G_23
        refine ev_x (i := .istore 6) (len := 2) (p' := 76) (s' := []) (l' := [(6, .int p_23.1), (5, .int p_19.1), (4, .int p_1.1), (0, .ref 66), (1, .int x_1), (2, .int x_2), (3, .int x_3)]) rfl rfl rfl ?_
        refine ev_x (i := .aload_n 0) (len := 1) (p' := 77) (s' := [.ref 66]) rfl rfl rfl ?_
        refine ev_x (i := .iload 5) (len := 2) (p' := 79) (s' := [.int p_19.1, .ref 66]) rfl rfl rfl ?_
        refine ev_x (i := .iload 6) (len := 2) (p' := 81) (s' := [.int p_23.1, .int p_19.1, .ref 66]) rfl rfl rfl ?_
        refine ev_x (i := .iconst 1) (len := 1) (p' := 82) (s' := [.int 1, .int p_23.1, .int p_19.1, .ref 66]) rfl rfl rfl ?_
        refine ev_x (i := .iadd) (len := 1) (p' := 83) (s' := [.int (p_23.1 + 1), .int p_19.1, .ref 66]) rfl rfl rfl ?_
        refine ev_x (i := .iload_n 3) (len := 1) (p' := 84) (s' := [.int x_3, .int (p_23.1 + 1), .int p_19.1, .ref 66]) rfl rfl rfl ?_
        obtain ⟨p_24, G_24, H⟩ := F_bd H
        refine ev_cv (d := d + 5) (As := [.int p_19.1, .int (p_23.1 + 1), .int x_3]) (a := 66) (p' := 87) rfl rfl rfl ly_66 rfl rfl rfl rfl rfl rfl rfl (F_169_ok (d := d + 3)   G_24) ?_
        refine ev_st (st' := []) rfl ?_
        have e_24 := F_169_R G_24
        refine ev_x (i := .aload_n 0) (len := 1) (p' := 88) (s' := [.ref 66]) rfl rfl rfl ?_
        refine ev_x (i := .iload 5) (len := 2) (p' := 90) (s' := [.int p_19.1, .ref 66]) rfl rfl rfl ?_
        refine ev_x (i := .iload 4) (len := 2) (p' := 92) (s' := [.int p_1.1, .int p_19.1, .ref 66]) rfl rfl rfl ?_
        refine ev_x (i := .iconst 1) (len := 1) (p' := 93) (s' := [.int 1, .int p_1.1, .int p_19.1, .ref 66]) rfl rfl rfl ?_
        refine ev_x (i := .iadd) (len := 1) (p' := 94) (s' := [.int (p_1.1 + 1), .int p_19.1, .ref 66]) rfl rfl rfl ?_
        refine ev_x (i := .iload 6) (len := 2) (p' := 96) (s' := [.int p_23.1, .int (p_1.1 + 1), .int p_19.1, .ref 66]) rfl rfl rfl ?_
        obtain ⟨p_25, G_25, H⟩ := F_bd H
        refine ev_cv (d := d + 5) (As := [.int p_19.1, .int (p_1.1 + 1), .int p_23.1]) (a := 66) (p' := 99) rfl rfl rfl ly_66 rfl rfl rfl rfl rfl rfl rfl (F_169_ok (d := d + 3)   G_25) ?_
        refine ev_st (st' := []) rfl ?_
        have e_25 := F_169_R G_25
        refine ev_x (i := .aload_n 0) (len := 1) (p' := 100) (s' := [.ref 66]) rfl rfl rfl ?_
        refine ev_x (i := .iload 5) (len := 2) (p' := 102) (s' := [.int p_19.1, .ref 66]) rfl rfl rfl ?_
        refine ev_x (i := .iload_n 2) (len := 1) (p' := 103) (s' := [.int x_2, .int p_19.1, .ref 66]) rfl rfl rfl ?_
        refine ev_x (i := .iload 4) (len := 2) (p' := 105) (s' := [.int p_1.1, .int x_2, .int p_19.1, .ref 66]) rfl rfl rfl ?_
        obtain ⟨p_26, G_26, H⟩ := F_bd H
        refine ev_cv (d := d + 5) (As := [.int p_19.1, .int x_2, .int p_1.1]) (a := 66) (p' := 108) rfl rfl rfl ly_66 rfl rfl rfl rfl rfl rfl rfl (F_169_ok (d := d + 3)   G_26) ?_
        refine ev_st (st' := []) rfl ?_
        have e_26 := F_169_R G_26
        obtain rfl := Option.some.inj H
        exact ev_vret rfl rfl rfl
      · refine ev_b2 (t := 67) (p' := 46) rfl rfl rfl (if_neg c_22) ?_
        refine ev_x (i := .aload_n 0) (len := 1) (p' := 47) (s' := [.ref 66]) rfl rfl rfl ?_
        refine ev_x (i := .iload 5) (len := 2) (p' := 49) (s' := [.int p_19.1, .ref 66]) rfl rfl rfl ?_
        refine ev_x (i := .iload 4) (len := 2) (p' := 51) (s' := [.int p_1.1, .int p_19.1, .ref 66]) rfl rfl rfl ?_
        refine ev_x (i := .iconst 1) (len := 1) (p' := 52) (s' := [.int 1, .int p_1.1, .int p_19.1, .ref 66]) rfl rfl rfl ?_
        refine ev_x (i := .iadd) (len := 1) (p' := 53) (s' := [.int (p_1.1 + 1), .int p_19.1, .ref 66]) rfl rfl rfl ?_
        refine ev_x (i := .iload_n 3) (len := 1) (p' := 54) (s' := [.int x_3, .int (p_1.1 + 1), .int p_19.1, .ref 66]) rfl rfl rfl ?_
        obtain ⟨p_27, G_27, H⟩ := F_bd H
        refine ev_cv (d := d + 5) (As := [.int p_19.1, .int (p_1.1 + 1), .int x_3]) (a := 66) (p' := 57) rfl rfl rfl ly_66 rfl rfl rfl rfl rfl rfl rfl (F_169_ok (d := d + 3)   G_27) ?_
        refine ev_st (st' := []) rfl ?_
        have e_27 := F_169_R G_27
        refine ev_x (i := .aload_n 0) (len := 1) (p' := 58) (s' := [.ref 66]) rfl rfl rfl ?_
        refine ev_x (i := .iload 5) (len := 2) (p' := 60) (s' := [.int p_19.1, .ref 66]) rfl rfl rfl ?_
        refine ev_x (i := .iload_n 2) (len := 1) (p' := 61) (s' := [.int x_2, .int p_19.1, .ref 66]) rfl rfl rfl ?_
        refine ev_x (i := .iload 4) (len := 2) (p' := 63) (s' := [.int p_1.1, .int x_2, .int p_19.1, .ref 66]) rfl rfl rfl ?_
        obtain ⟨p_28, G_28, H⟩ := F_bd H
        refine ev_cv (d := d + 5) (As := [.int p_19.1, .int x_2, .int p_1.1]) (a := 66) (p' := 66) rfl rfl rfl ly_66 rfl rfl rfl rfl rfl rfl rfl (F_169_ok (d := d + 3)   G_28) ?_
        refine ev_st (st' := []) rfl ?_
        have e_28 := F_169_R G_28
        obtain rfl := Option.some.inj H
        exact ev_vret rfl rfl rfl
  · refine ev_x (i := .aload_n 0) (len := 1) (p' := 1) (s' := [.ref 66]) rfl rfl rfl ?_
    refine ev_x (i := .iload_n 2) (len := 1) (p' := 2) (s' := [.int x_2, .ref 66]) rfl rfl rfl ?_
    refine ev_x (i := .iload_n 3) (len := 1) (p' := 3) (s' := [.int x_3, .int x_2, .ref 66]) rfl rfl rfl ?_
    obtain ⟨p_1, G_1, H⟩ := F_bd H
    refine ev_cv (d := d + 5) (As := [.int x_2, .int x_3]) (a := 66) (p' := 6) rfl rfl rfl ly_66 rfl rfl rfl rfl rfl rfl rfl (F_171_ok (d := d + 0)   G_1) ?_
    refine ev_st (st' := [.int p_1.1]) rfl ?_
    have e_1 := F_171_R G_1
    refine ev_x (i := .istore 4) (len := 2) (p' := 8) (s' := []) (l' := [(4, .int p_1.1), (0, .ref 66), (1, .int x_1), (2, .int x_2), (3, .int x_3)]) rfl rfl rfl ?_
    refine ev_x (i := .iload 4) (len := 2) (p' := 10) (s' := [.int p_1.1]) rfl rfl rfl ?_
    refine F_if H (fun c_2 H => ?_) (fun c_2 H => ?_)
    · refine ev_b0 (t := 109) (p' := 109) rfl rfl rfl (if_pos c_2) ?_
      refine ev_x (i := .aload_n 0) (len := 1) (p' := 110) (s' := [.ref 66]) rfl rfl rfl ?_
      refine ev_x (i := .iload_n 2) (len := 1) (p' := 111) (s' := [.int x_2, .ref 66]) rfl rfl rfl ?_
      obtain ⟨p_3, G_3, H⟩ := F_bd H
      refine ev_cv (d := d + 5) (As := [.int x_2]) (a := 66) (p' := 114) rfl rfl rfl ly_66 rfl rfl rfl rfl rfl rfl rfl (F_162_ok (d := d + 3)   G_3) ?_
      refine ev_st (st' := [.int p_3.1]) rfl ?_
      have e_3 := F_162_R G_3
      refine ev_x (i := .istore 5) (len := 2) (p' := 116) (s' := []) (l' := [(5, .int p_3.1), (4, .int p_1.1), (0, .ref 66), (1, .int x_1), (2, .int x_2), (3, .int x_3)]) rfl rfl rfl ?_
      refine ev_x (i := .iload 5) (len := 2) (p' := 118) (s' := [.int p_3.1]) rfl rfl rfl ?_
      refine ev_x (i := .bipush 36) (len := 2) (p' := 120) (s' := [.int 36, .int p_3.1]) rfl rfl rfl ?_
      refine F_if H (fun c_4 H => ?_) (fun c_4 H => ?_)
      · refine ev_b2 (t := 135) (p' := 123) rfl rfl rfl (if_neg (fun q => q c_4)) ?_
        refine ev_x (i := .aload_n 0) (len := 1) (p' := 124) (s' := [.ref 66]) rfl rfl rfl ?_
        refine ev_x (i := .iload_n 1) (len := 1) (p' := 125) (s' := [.int x_1, .ref 66]) rfl rfl rfl ?_
        refine ev_x (i := .iload_n 2) (len := 1) (p' := 126) (s' := [.int x_2, .int x_1, .ref 66]) rfl rfl rfl ?_
        refine ev_x (i := .iconst 1) (len := 1) (p' := 127) (s' := [.int 1, .int x_2, .int x_1, .ref 66]) rfl rfl rfl ?_
        refine ev_x (i := .iadd) (len := 1) (p' := 128) (s' := [.int (x_2 + 1), .int x_1, .ref 66]) rfl rfl rfl ?_
        refine ev_x (i := .iload_n 3) (len := 1) (p' := 129) (s' := [.int x_3, .int (x_2 + 1), .int x_1, .ref 66]) rfl rfl rfl ?_
        refine ev_x (i := .iconst 1) (len := 1) (p' := 130) (s' := [.int 1, .int x_3, .int (x_2 + 1), .int x_1, .ref 66]) rfl rfl rfl ?_
        refine ev_x (i := .isub) (len := 1) (p' := 131) (s' := [.int (x_3 - 1), .int (x_2 + 1), .int x_1, .ref 66]) rfl rfl rfl ?_
        obtain ⟨p_5, G_5, H⟩ := F_bd H
        refine ev_cv (d := d + 5) (As := [.int x_1, .int (x_2 + 1), .int (x_3 - 1)]) (a := 66) (p' := 134) rfl rfl rfl ly_66 rfl rfl rfl rfl rfl rfl rfl (F_169_ok (d := d + 3)   G_5) ?_
        refine ev_st (st' := []) rfl ?_
        have e_5 := F_169_R G_5
        obtain rfl := Option.some.inj H
        exact ev_vret rfl rfl rfl
      · refine ev_b2 (t := 135) (p' := 135) rfl rfl rfl (if_pos c_4) ?_
        refine ev_x (i := .aload_n 0) (len := 1) (p' := 136) (s' := [.ref 66]) rfl rfl rfl ?_
        refine ev_x (i := .iload 5) (len := 2) (p' := 138) (s' := [.int p_3.1, .ref 66]) rfl rfl rfl ?_
        refine ev_x (i := .bipush 25) (len := 2) (p' := 140) (s' := [.int 25, .int p_3.1, .ref 66]) rfl rfl rfl ?_
        refine F_jn (A := vz_ev P0 (d + 6) 170 150 [(5, .int p_3.1), (4, .int p_1.1), (0, .ref 66), (1, .int x_1), (2, .int x_2), (3, .int x_3)] [.int (if p_3.1 = 25 then 45 else p_3.1 : Int32), .ref 66] (hp (p_3.2)) (.inl none, hp p)) ?_ (fun J => ?_)
        · refine ev_x (i := .iload_n 2) (len := 1) (p' := 151) (s' := [.int x_2, .int (if p_3.1 = 25 then 45 else p_3.1 : Int32), .ref 66]) rfl rfl rfl ?_
          refine ev_x (i := .iload_n 2) (len := 1) (p' := 152) (s' := [.int x_2, .int x_2, .int (if p_3.1 = 25 then 45 else p_3.1 : Int32), .ref 66]) rfl rfl rfl ?_
          obtain ⟨p_7, G_7, H⟩ := F_bd H
          refine ev_cv (d := d + 5) (As := [.int (if p_3.1 = 25 then 45 else p_3.1 : Int32), .int x_2, .int x_2]) (a := 66) (p' := 155) rfl rfl rfl ly_66 rfl rfl rfl rfl rfl rfl rfl (F_174_ok (d := d + 2) (hg := (Or.inr rfl)) (hr_66_10 := ((congrFun (congrFun e_3 66) 10).trans ((congrFun (congrFun e_1 66) 10).trans hr_66_10))) G_7) ?_
          refine ev_st (st' := [.int p_7.1]) rfl ?_
          have e_7 := F_174_R G_7
          refine ev_x (i := .istore 6) (len := 2) (p' := 157) (s' := []) (l' := [(6, .int p_7.1), (5, .int p_3.1), (4, .int p_1.1), (0, .ref 66), (1, .int x_1), (2, .int x_2), (3, .int x_3)]) rfl rfl rfl ?_
          refine ev_x (i := .aload_n 0) (len := 1) (p' := 158) (s' := [.ref 66]) rfl rfl rfl ?_
          refine ev_x (i := .iload_n 1) (len := 1) (p' := 159) (s' := [.int x_1, .ref 66]) rfl rfl rfl ?_
          refine ev_x (i := .iload 6) (len := 2) (p' := 161) (s' := [.int p_7.1, .int x_1, .ref 66]) rfl rfl rfl ?_
          obtain ⟨p_8, G_8, H⟩ := F_bd H
          refine ev_cv (d := d + 5) (As := [.int x_1, .int p_7.1]) (a := 66) (p' := 164) rfl rfl rfl ly_66 rfl rfl rfl rfl rfl rfl rfl (F_175_ok (d := d + 3) (hg := (Or.inr rfl)) (hr_66_10 := ((congrFun (congrFun e_7 66) 10).trans ((congrFun (congrFun e_3 66) 10).trans ((congrFun (congrFun e_1 66) 10).trans hr_66_10)))) G_8) ?_
          refine ev_st (st' := []) rfl ?_
          have e_8 := F_175_R G_8
          refine ev_x (i := .iload 5) (len := 2) (p' := 166) (s' := [.int p_3.1]) rfl rfl rfl ?_
          refine ev_x (i := .bipush 25) (len := 2) (p' := 168) (s' := [.int 25, .int p_3.1]) rfl rfl rfl ?_
          refine F_if H (fun c_9 H => ?_) (fun c_9 H => ?_)
          · refine ev_b2 (t := 178) (p' := 178) rfl rfl rfl (if_pos c_9) ?_
            exact J_170_178_ok (d := d) (Or.inr rfl) hx rfl rfl rfl rfl rfl ((congrFun (congrFun e_8 66) 2).trans ((congrFun (congrFun e_7 66) 2).trans ((congrFun (congrFun e_3 66) 2).trans ((congrFun (congrFun e_1 66) 2).trans hr_66_2)))) ((congrFun (congrFun e_8 66) 10).trans ((congrFun (congrFun e_7 66) 10).trans ((congrFun (congrFun e_3 66) 10).trans ((congrFun (congrFun e_1 66) 10).trans hr_66_10)))) H
          · refine ev_b2 (t := 178) (p' := 171) rfl rfl rfl (if_neg c_9) ?_
            refine ev_x (i := .iload 5) (len := 2) (p' := 173) (s' := [.int p_3.1]) rfl rfl rfl ?_
            refine ev_x (i := .bipush 31) (len := 2) (p' := 175) (s' := [.int 31, .int p_3.1]) rfl rfl rfl ?_
            refine F_if H (fun c_10 H => ?_) (fun c_10 H => ?_)
            · refine ev_b2 (t := 191) (p' := 178) rfl rfl rfl (if_neg (fun q => q c_10)) ?_
              exact J_170_178_ok (d := d) (Or.inr rfl) hx rfl rfl rfl rfl rfl ((congrFun (congrFun e_8 66) 2).trans ((congrFun (congrFun e_7 66) 2).trans ((congrFun (congrFun e_3 66) 2).trans ((congrFun (congrFun e_1 66) 2).trans hr_66_2)))) ((congrFun (congrFun e_8 66) 10).trans ((congrFun (congrFun e_7 66) 10).trans ((congrFun (congrFun e_3 66) 10).trans ((congrFun (congrFun e_1 66) 10).trans hr_66_10)))) H
            · refine ev_b2 (t := 191) (p' := 191) rfl rfl rfl (if_pos c_10) ?_
              refine ev_x (i := .iload 5) (len := 2) (p' := 193) (s' := [.int p_3.1]) rfl rfl rfl ?_
              refine ev_x (i := .iconst 2) (len := 1) (p' := 194) (s' := [.int 2, .int p_3.1]) rfl rfl rfl ?_
              refine F_if H (fun c_11 H => ?_) (fun c_11 H => ?_)
              · refine ev_b2 (t := 218) (p' := 197) rfl rfl rfl (if_neg (fun q => q c_11)) ?_
                refine ev_x (i := .aload_n 0) (len := 1) (p' := 198) (s' := [.ref 66]) rfl rfl rfl ?_
                refine ev_gr (p' := 201) (v := 115) rfl rfl rfl ly_66 rfl rfl ((congrFun (congrFun e_8 66) 10).trans ((congrFun (congrFun e_7 66) 10).trans ((congrFun (congrFun e_3 66) 10).trans ((congrFun (congrFun e_1 66) 10).trans hr_66_10)))) ?_
                refine ev_gc (p' := 204) (v := 122) rfl rfl rfl ly_115 rfl rfl ?_
                refine ev_gc (p' := 207) (v := 123) rfl rfl rfl ly_122 rfl rfl ?_
                refine ev_x (i := .iload 6) (len := 2) (p' := 209) (s' := [.int p_7.1, .ref 123]) rfl rfl rfl ?_
                refine ev_x (i := .aload_n 0) (len := 1) (p' := 210) (s' := [.ref 66, .int p_7.1, .ref 123]) rfl rfl rfl ?_
                refine ev_x (i := .iload_n 2) (len := 1) (p' := 211) (s' := [.int x_2, .ref 66, .int p_7.1, .ref 123]) rfl rfl rfl ?_
                obtain ⟨p_12, G_12, H⟩ := F_bd H
                refine ev_cv (d := d + 5) (As := [.int x_2]) (a := 66) (p' := 214) rfl rfl rfl ly_66 rfl rfl rfl rfl rfl rfl rfl (F_177_ok (d := d + 2) (hx := hx) (hr_66_2 := ((congrFun (congrFun e_8 66) 2).trans ((congrFun (congrFun e_7 66) 2).trans ((congrFun (congrFun e_3 66) 2).trans ((congrFun (congrFun e_1 66) 2).trans hr_66_2))))) G_12) ?_
                refine ev_st (st' := [.int p_12.1, .int p_7.1, .ref 123]) rfl ?_
                have e_12 := F_177_R G_12
                obtain ⟨b_13, H⟩ := F_gd H
                refine ev_pa (j := (p_7.1 : Int32).toNatClampNeg) (p' := 215) rfl rfl ly_123 rfl (gd_in b_13) rfl ?_
                refine ev_x (i := .goto 52) (len := 3) (p' := 267) (s' := []) rfl rfl rfl ?_
                obtain rfl := Option.some.inj H
                exact ev_vret rfl rfl rfl
              · refine ev_b2 (t := 218) (p' := 218) rfl rfl rfl (if_pos c_11) ?_
                refine ev_x (i := .iload 5) (len := 2) (p' := 220) (s' := [.int p_3.1]) rfl rfl rfl ?_
                refine ev_x (i := .iconst 1) (len := 1) (p' := 221) (s' := [.int 1, .int p_3.1]) rfl rfl rfl ?_
                refine F_if H (fun c_14 H => ?_) (fun c_14 H => ?_)
                · refine ev_b2 (t := 241) (p' := 224) rfl rfl rfl (if_neg (fun q => q c_14)) ?_
                  refine ev_x (i := .aload_n 0) (len := 1) (p' := 225) (s' := [.ref 66]) rfl rfl rfl ?_
                  refine ev_gr (p' := 228) (v := 115) rfl rfl rfl ly_66 rfl rfl ((congrFun (congrFun e_8 66) 10).trans ((congrFun (congrFun e_7 66) 10).trans ((congrFun (congrFun e_3 66) 10).trans ((congrFun (congrFun e_1 66) 10).trans hr_66_10)))) ?_
                  refine ev_gc (p' := 231) (v := 122) rfl rfl rfl ly_115 rfl rfl ?_
                  refine ev_gc (p' := 234) (v := 123) rfl rfl rfl ly_122 rfl rfl ?_
                  refine ev_x (i := .iload 6) (len := 2) (p' := 236) (s' := [.int p_7.1, .ref 123]) rfl rfl rfl ?_
                  refine ev_x (i := .iload_n 2) (len := 1) (p' := 237) (s' := [.int x_2, .int p_7.1, .ref 123]) rfl rfl rfl ?_
                  obtain ⟨b_15, H⟩ := F_gd H
                  refine ev_pa (j := (p_7.1 : Int32).toNatClampNeg) (p' := 238) rfl rfl ly_123 rfl (gd_in b_15) rfl ?_
                  refine ev_x (i := .goto 29) (len := 3) (p' := 267) (s' := []) rfl rfl rfl ?_
                  obtain rfl := Option.some.inj H
                  exact ev_vret rfl rfl rfl
                · refine ev_b2 (t := 241) (p' := 241) rfl rfl rfl (if_pos c_14) ?_
                  refine ev_x (i := .iload 5) (len := 2) (p' := 243) (s' := [.int p_3.1]) rfl rfl rfl ?_
                  refine ev_x (i := .bipush 14) (len := 2) (p' := 245) (s' := [.int 14, .int p_3.1]) rfl rfl rfl ?_
                  refine F_if H (fun c_16 H => ?_) (fun c_16 H => ?_)
                  · refine ev_b2 (t := 255) (p' := 255) rfl rfl rfl (if_pos c_16) ?_
                    exact J_170_255_ok (d := d) (Or.inr rfl) hx rfl rfl rfl rfl rfl ((congrFun (congrFun e_8 66) 2).trans ((congrFun (congrFun e_7 66) 2).trans ((congrFun (congrFun e_3 66) 2).trans ((congrFun (congrFun e_1 66) 2).trans hr_66_2)))) ((congrFun (congrFun e_8 66) 10).trans ((congrFun (congrFun e_7 66) 10).trans ((congrFun (congrFun e_3 66) 10).trans ((congrFun (congrFun e_1 66) 10).trans hr_66_10)))) H
                  · refine ev_b2 (t := 255) (p' := 248) rfl rfl rfl (if_neg c_16) ?_
                    refine ev_x (i := .iload 5) (len := 2) (p' := 250) (s' := [.int p_3.1]) rfl rfl rfl ?_
                    refine ev_x (i := .bipush 15) (len := 2) (p' := 252) (s' := [.int 15, .int p_3.1]) rfl rfl rfl ?_
                    refine F_if H (fun c_17 H => ?_) (fun c_17 H => ?_)
                    · refine ev_b2 (t := 267) (p' := 255) rfl rfl rfl (if_neg (fun q => q c_17)) ?_
                      exact J_170_255_ok (d := d) (Or.inr rfl) hx rfl rfl rfl rfl rfl ((congrFun (congrFun e_8 66) 2).trans ((congrFun (congrFun e_7 66) 2).trans ((congrFun (congrFun e_3 66) 2).trans ((congrFun (congrFun e_1 66) 2).trans hr_66_2)))) ((congrFun (congrFun e_8 66) 10).trans ((congrFun (congrFun e_7 66) 10).trans ((congrFun (congrFun e_3 66) 10).trans ((congrFun (congrFun e_1 66) 10).trans hr_66_10)))) H
                    · refine ev_b2 (t := 267) (p' := 267) rfl rfl rfl (if_pos c_17) ?_
                      obtain rfl := Option.some.inj H
                      exact ev_vret rfl rfl rfl
        · by_cases c_6 : p_3.1 = 25
          · refine ev_b2 (t := 148) (p' := 143) rfl rfl rfl (if_neg (fun q => q c_6)) ?_
            refine ev_x (i := .bipush 45) (len := 2) (p' := 145) (s' := [.int 45, .ref 66]) rfl rfl rfl ?_
            refine ev_x (i := .goto 5) (len := 3) (p' := 150) (s' := [.int 45, .ref 66]) rfl rfl rfl ?_
            exact ev_st (congrArg (fun z => Value.int z :: [.ref 66]) (by rw [if_pos c_6])) J
          · refine ev_b2 (t := 148) (p' := 148) rfl rfl rfl (if_pos c_6) ?_
            refine ev_x (i := .iload 5) (len := 2) (p' := 150) (s' := [.int p_3.1, .ref 66]) rfl rfl rfl ?_
            exact ev_st (congrArg (fun z => Value.int z :: [.ref 66]) (by rw [if_neg c_6])) J
    · refine ev_b0 (t := 109) (p' := 13) rfl rfl rfl (if_neg c_2) ?_
      refine ev_x (i := .aload_n 0) (len := 1) (p' := 14) (s' := [.ref 66]) rfl rfl rfl ?_
      refine ev_x (i := .aload_n 0) (len := 1) (p' := 15) (s' := [.ref 66, .ref 66]) rfl rfl rfl ?_
      refine ev_x (i := .iload 4) (len := 2) (p' := 17) (s' := [.int p_1.1, .ref 66, .ref 66]) rfl rfl rfl ?_
      obtain ⟨p_18, G_18, H⟩ := F_bd H
      refine ev_cv (d := d + 5) (As := [.int p_1.1]) (a := 66) (p' := 20) rfl rfl rfl ly_66 rfl rfl rfl rfl rfl rfl rfl (F_162_ok (d := d + 3)   G_18) ?_
      refine ev_st (st' := [.int p_18.1, .ref 66]) rfl ?_
      have e_18 := F_162_R G_18
      refine ev_x (i := .iload 4) (len := 2) (p' := 22) (s' := [.int p_1.1, .int p_18.1, .ref 66]) rfl rfl rfl ?_
      refine ev_x (i := .iload_n 2) (len := 1) (p' := 23) (s' := [.int x_2, .int p_1.1, .int p_18.1, .ref 66]) rfl rfl rfl ?_
      obtain ⟨p_19, G_19, H⟩ := F_bd H
      refine ev_cv (d := d + 5) (As := [.int p_18.1, .int p_1.1, .int x_2]) (a := 66) (p' := 26) rfl rfl rfl ly_66 rfl rfl rfl rfl rfl rfl rfl (F_174_ok (d := d + 2) (hg := (Or.inr rfl)) (hr_66_10 := ((congrFun (congrFun e_18 66) 10).trans ((congrFun (congrFun e_1 66) 10).trans hr_66_10))) G_19) ?_
      refine ev_st (st' := [.int p_19.1]) rfl ?_
      have e_19 := F_174_R G_19
      refine ev_x (i := .istore 5) (len := 2) (p' := 28) (s' := []) (l' := [(5, .int p_19.1), (4, .int p_1.1), (0, .ref 66), (1, .int x_1), (2, .int x_2), (3, .int x_3)]) rfl rfl rfl ?_
      refine ev_x (i := .aload_n 0) (len := 1) (p' := 29) (s' := [.ref 66]) rfl rfl rfl ?_
      refine ev_x (i := .iload_n 1) (len := 1) (p' := 30) (s' := [.int x_1, .ref 66]) rfl rfl rfl ?_
      refine ev_x (i := .iload 5) (len := 2) (p' := 32) (s' := [.int p_19.1, .int x_1, .ref 66]) rfl rfl rfl ?_
      obtain ⟨p_20, G_20, H⟩ := F_bd H
      refine ev_cv (d := d + 5) (As := [.int x_1, .int p_19.1]) (a := 66) (p' := 35) rfl rfl rfl ly_66 rfl rfl rfl rfl rfl rfl rfl (F_175_ok (d := d + 3) (hg := (Or.inr rfl)) (hr_66_10 := ((congrFun (congrFun e_19 66) 10).trans ((congrFun (congrFun e_18 66) 10).trans ((congrFun (congrFun e_1 66) 10).trans hr_66_10)))) G_20) ?_
      refine ev_st (st' := []) rfl ?_
      have e_20 := F_175_R G_20
      refine ev_x (i := .aload_n 0) (len := 1) (p' := 36) (s' := [.ref 66]) rfl rfl rfl ?_
      refine ev_x (i := .iload 4) (len := 2) (p' := 38) (s' := [.int p_1.1, .ref 66]) rfl rfl rfl ?_
      obtain ⟨p_21, G_21, H⟩ := F_bd H
      refine ev_cv (d := d + 5) (As := [.int p_1.1]) (a := 66) (p' := 41) rfl rfl rfl ly_66 rfl rfl rfl rfl rfl rfl rfl (F_162_ok (d := d + 3)   G_21) ?_
      refine ev_st (st' := [.int p_21.1]) rfl ?_
      have e_21 := F_162_R G_21
      refine ev_x (i := .bipush 32) (len := 2) (p' := 43) (s' := [.int 32, .int p_21.1]) rfl rfl rfl ?_
      refine F_if H (fun c_22 H => ?_) (fun c_22 H => ?_)
      · refine ev_b2 (t := 67) (p' := 67) rfl rfl rfl (if_pos c_22) ?_
        refine ev_x (i := .aload_n 0) (len := 1) (p' := 68) (s' := [.ref 66]) rfl rfl rfl ?_
        refine ev_x (i := .iload 4) (len := 2) (p' := 70) (s' := [.int p_1.1, .ref 66]) rfl rfl rfl ?_
        refine ev_x (i := .iload_n 3) (len := 1) (p' := 71) (s' := [.int x_3, .int p_1.1, .ref 66]) rfl rfl rfl ?_
        obtain ⟨p_23, G_23, H⟩ := F_bd H
        refine ev_cv (d := d + 5) (As := [.int p_1.1, .int x_3]) (a := 66) (p' := 74) rfl rfl rfl ly_66 rfl rfl rfl rfl rfl rfl rfl (F_176_ok (d := d + 2)   G_23) ?_
        refine ev_st (st' := [.int p_23.1]) rfl ?_
        have e_23 := F_176_R G_23
        refine ev_x (i := .istore 6) (len := 2) (p' := 76) (s' := []) (l' := [(6, .int p_23.1), (5, .int p_19.1), (4, .int p_1.1), (0, .ref 66), (1, .int x_1), (2, .int x_2), (3, .int x_3)]) rfl rfl rfl ?_
        refine ev_x (i := .aload_n 0) (len := 1) (p' := 77) (s' := [.ref 66]) rfl rfl rfl ?_
        refine ev_x (i := .iload 5) (len := 2) (p' := 79) (s' := [.int p_19.1, .ref 66]) rfl rfl rfl ?_
        refine ev_x (i := .iload 6) (len := 2) (p' := 81) (s' := [.int p_23.1, .int p_19.1, .ref 66]) rfl rfl rfl ?_
        refine ev_x (i := .iconst 1) (len := 1) (p' := 82) (s' := [.int 1, .int p_23.1, .int p_19.1, .ref 66]) rfl rfl rfl ?_
        refine ev_x (i := .iadd) (len := 1) (p' := 83) (s' := [.int (p_23.1 + 1), .int p_19.1, .ref 66]) rfl rfl rfl ?_
        refine ev_x (i := .iload_n 3) (len := 1) (p' := 84) (s' := [.int x_3, .int (p_23.1 + 1), .int p_19.1, .ref 66]) rfl rfl rfl ?_
        obtain ⟨p_24, G_24, H⟩ := F_bd H
        refine ev_cv (d := d + 5) (As := [.int p_19.1, .int (p_23.1 + 1), .int x_3]) (a := 66) (p' := 87) rfl rfl rfl ly_66 rfl rfl rfl rfl rfl rfl rfl (F_169_ok (d := d + 3)   G_24) ?_
        refine ev_st (st' := []) rfl ?_
        have e_24 := F_169_R G_24
        refine ev_x (i := .aload_n 0) (len := 1) (p' := 88) (s' := [.ref 66]) rfl rfl rfl ?_
        refine ev_x (i := .iload 5) (len := 2) (p' := 90) (s' := [.int p_19.1, .ref 66]) rfl rfl rfl ?_
        refine ev_x (i := .iload 4) (len := 2) (p' := 92) (s' := [.int p_1.1, .int p_19.1, .ref 66]) rfl rfl rfl ?_
        refine ev_x (i := .iconst 1) (len := 1) (p' := 93) (s' := [.int 1, .int p_1.1, .int p_19.1, .ref 66]) rfl rfl rfl ?_
        refine ev_x (i := .iadd) (len := 1) (p' := 94) (s' := [.int (p_1.1 + 1), .int p_19.1, .ref 66]) rfl rfl rfl ?_
        refine ev_x (i := .iload 6) (len := 2) (p' := 96) (s' := [.int p_23.1, .int (p_1.1 + 1), .int p_19.1, .ref 66]) rfl rfl rfl ?_
        obtain ⟨p_25, G_25, H⟩ := F_bd H
        refine ev_cv (d := d + 5) (As := [.int p_19.1, .int (p_1.1 + 1), .int p_23.1]) (a := 66) (p' := 99) rfl rfl rfl ly_66 rfl rfl rfl rfl rfl rfl rfl (F_169_ok (d := d + 3)   G_25) ?_
        refine ev_st (st' := []) rfl ?_
        have e_25 := F_169_R G_25
        refine ev_x (i := .aload_n 0) (len := 1) (p' := 100) (s' := [.ref 66]) rfl rfl rfl ?_
        refine ev_x (i := .iload 5) (len := 2) (p' := 102) (s' := [.int p_19.1, .ref 66]) rfl rfl rfl ?_
        refine ev_x (i := .iload_n 2) (len := 1) (p' := 103) (s' := [.int x_2, .int p_19.1, .ref 66]) rfl rfl rfl ?_
        refine ev_x (i := .iload 4) (len := 2) (p' := 105) (s' := [.int p_1.1, .int x_2, .int p_19.1, .ref 66]) rfl rfl rfl ?_
        obtain ⟨p_26, G_26, H⟩ := F_bd H
        refine ev_cv (d := d + 5) (As := [.int p_19.1, .int x_2, .int p_1.1]) (a := 66) (p' := 108) rfl rfl rfl ly_66 rfl rfl rfl rfl rfl rfl rfl (F_169_ok (d := d + 3)   G_26) ?_
        refine ev_st (st' := []) rfl ?_
        have e_26 := F_169_R G_26
        obtain rfl := Option.some.inj H
        exact ev_vret rfl rfl rfl
      · refine ev_b2 (t := 67) (p' := 46) rfl rfl rfl (if_neg c_22) ?_
        refine ev_x (i := .aload_n 0) (len := 1) (p' := 47) (s' := [.ref 66]) rfl rfl rfl ?_
        refine ev_x (i := .iload 5) (len := 2) (p' := 49) (s' := [.int p_19.1, .ref 66]) rfl rfl rfl ?_
        refine ev_x (i := .iload 4) (len := 2) (p' := 51) (s' := [.int p_1.1, .int p_19.1, .ref 66]) rfl rfl rfl ?_
        refine ev_x (i := .iconst 1) (len := 1) (p' := 52) (s' := [.int 1, .int p_1.1, .int p_19.1, .ref 66]) rfl rfl rfl ?_
        refine ev_x (i := .iadd) (len := 1) (p' := 53) (s' := [.int (p_1.1 + 1), .int p_19.1, .ref 66]) rfl rfl rfl ?_
        refine ev_x (i := .iload_n 3) (len := 1) (p' := 54) (s' := [.int x_3, .int (p_1.1 + 1), .int p_19.1, .ref 66]) rfl rfl rfl ?_
        obtain ⟨p_27, G_27, H⟩ := F_bd H
        refine ev_cv (d := d + 5) (As := [.int p_19.1, .int (p_1.1 + 1), .int x_3]) (a := 66) (p' := 57) rfl rfl rfl ly_66 rfl rfl rfl rfl rfl rfl rfl (F_169_ok (d := d + 3)   G_27) ?_
        refine ev_st (st' := []) rfl ?_
        have e_27 := F_169_R G_27
        refine ev_x (i := .aload_n 0) (len := 1) (p' := 58) (s' := [.ref 66]) rfl rfl rfl ?_
        refine ev_x (i := .iload 5) (len := 2) (p' := 60) (s' := [.int p_19.1, .ref 66]) rfl rfl rfl ?_
        refine ev_x (i := .iload_n 2) (len := 1) (p' := 61) (s' := [.int x_2, .int p_19.1, .ref 66]) rfl rfl rfl ?_
        refine ev_x (i := .iload 4) (len := 2) (p' := 63) (s' := [.int p_1.1, .int x_2, .int p_19.1, .ref 66]) rfl rfl rfl ?_
        obtain ⟨p_28, G_28, H⟩ := F_bd H
        refine ev_cv (d := d + 5) (As := [.int p_19.1, .int x_2, .int p_1.1]) (a := 66) (p' := 66) rfl rfl rfl ly_66 rfl rfl rfl rfl rfl rfl rfl (F_169_ok (d := d + 3)   G_28) ?_
        refine ev_st (st' := []) rfl ?_
        have e_28 := F_169_R G_28
        obtain rfl := Option.some.inj H
        exact ev_vret rfl rfl rfl
/-- GameTextModel.tree(II)I, its loops -/
def L_168 (N : Nat) (g : Nat) (x : Nat) : Nat → Int32 → st_S → Option (Int32 × st_S)
  | 0, _, _ => none
  | k + 1, l_3, σ =>
      if (gI σ 157 1) ≤ 0 then
        some (l_3, σ)
      else
        (N_148 N 157 (σ)).bind fun p_3 =>
        (N_148 N 157 (p_3.2)).bind fun p_4 =>
        (N_148 N 157 (p_4.2)).bind fun p_5 =>
        (F_170 N g x p_5.1 p_4.1 p_3.1 (p_5.2)).bind fun p_6 =>
        L_168 N g x k l_3 (p_6)
set_option maxRecDepth 100000 in
theorem L_168_R {N : Nat} {g : Nat} {x : Nat} : ∀ (k : Nat) (l_3 : Int32) (σ : st_S) (p : Int32 × st_S), L_168 N g x k l_3 σ = some p → gR p.2 = gR σ := by
  intro k
  induction k with
  | zero => intro l_3 σ p H; unfold L_168 at H; cases H
  | succ k ih =>
    intro l_3 σ p H
    unfold L_168 at H
    refine F_if H (fun _ H => ?_) (fun _ H => ?_)
    · obtain rfl := Option.some.inj H
      exact rfl
    · obtain ⟨p_3, G_3, H⟩ := F_bd H
      obtain ⟨p_4, G_4, H⟩ := F_bd H
      obtain ⟨p_5, G_5, H⟩ := F_bd H
      obtain ⟨p_6, G_6, H⟩ := F_bd H
      exact (((ih _ _ _ H)).trans ((F_170_R G_6).trans ((N_148_R G_5).trans ((N_148_R G_4).trans ((N_148_R G_3).trans rfl)))))
set_option maxHeartbeats 4000000 in
set_option maxRecDepth 100000 in
theorem L_168_ok {N d : Nat} {g : Nat} (hg : g = 79 ∨ g = 115) {x : Nat} (hx : x = 67 ∨ x = 69) : ∀ k : Nat, ∀ (l_3 : Int32) (σ : st_S) (lv : vz_L) (p : Int32 × st_S), vz_g lv 0 = some (.ref 66) → vz_g lv 3 = some (.int l_3) → vz_nbL (vz_gr P0) lv = true → gR σ 66 2 = x → gR σ 66 10 = g → L_168 N g x k l_3 σ = some p → vz_ev P0 (d + 7) 168 26 lv [] (hp σ) (.inl (some (.int p.1)), hp p.2) := by
  intro k
  induction k with
  | zero => intro l_3 σ lv p g_0 g_3 hnb hr_66_2 hr_66_10 H; unfold L_168 at H; cases H
  | succ k ih =>
    intro l_3 σ lv p g_0 g_3 hnb hr_66_2 hr_66_10 H
    unfold L_168 at H
    refine ev_x (i := .aload_n 0) (len := 1) (p' := 27) (s' := [.ref 66]) rfl rfl (ld_a g_0) ?_
    refine ev_gc (p' := 30) (v := 157) rfl rfl rfl ly_66 rfl rfl ?_
    refine ev_gi (p' := 33) (v := (gI σ 157 1)) rfl rfl rfl ly_157 rfl rfl rfl ?_
    refine F_if H (fun c_2 H => ?_) (fun c_2 H => ?_)
    · refine ev_b0 (t := 72) (p' := 72) rfl rfl rfl (if_pos c_2) ?_
      refine ev_x (i := .iload_n 3) (len := 1) (p' := 73) (s' := [.int l_3]) rfl rfl (ld_i g_3) ?_
      obtain rfl := Option.some.inj H
      exact ev_iret rfl rfl rfl rfl
    · refine ev_b0 (t := 72) (p' := 36) rfl rfl rfl (if_neg c_2) ?_
      refine ev_x (i := .aload_n 0) (len := 1) (p' := 37) (s' := [.ref 66]) rfl rfl (ld_a g_0) ?_
      refine ev_gc (p' := 40) (v := 157) rfl rfl rfl ly_66 rfl rfl ?_
      obtain ⟨p_3, G_3, H⟩ := F_bd H
      refine ev_cv (d := d + 6) (As := []) (a := 157) (p' := 43) rfl rfl rfl ly_157 rfl rfl rfl rfl rfl hnb rfl (N_148_ok (d := d + 5) nm_157 G_3) ?_
      refine ev_st (st' := [.int p_3.1]) rfl ?_
      have e_3 := N_148_R G_3
      refine ev_x (i := .istore 4) (len := 2) (p' := 45) (s' := []) (l' := vz_s1 (lv) 4 (.int p_3.1)) rfl rfl rfl ?_
      refine ev_x (i := .aload_n 0) (len := 1) (p' := 46) (s' := [.ref 66]) rfl rfl (ld_a (vg_o (i := 4) (v := .int p_3.1) g_0 (by decide) (Or.inl rfl))) ?_
      refine ev_gc (p' := 49) (v := 157) rfl rfl rfl ly_66 rfl rfl ?_
      obtain ⟨p_4, G_4, H⟩ := F_bd H
      refine ev_cv (d := d + 6) (As := []) (a := 157) (p' := 52) rfl rfl rfl ly_157 rfl rfl rfl rfl rfl (nb_s1 hnb rfl) rfl (N_148_ok (d := d + 5) nm_157 G_4) ?_
      refine ev_st (st' := [.int p_4.1]) rfl ?_
      have e_4 := N_148_R G_4
      refine ev_x (i := .istore 5) (len := 2) (p' := 54) (s' := []) (l' := vz_s1 (vz_s1 (lv) 4 (.int p_3.1)) 5 (.int p_4.1)) rfl rfl rfl ?_
      refine ev_x (i := .aload_n 0) (len := 1) (p' := 55) (s' := [.ref 66]) rfl rfl (ld_a (vg_o (i := 5) (v := .int p_4.1) (vg_o (i := 4) (v := .int p_3.1) g_0 (by decide) (Or.inl rfl)) (by decide) (Or.inl rfl))) ?_
      refine ev_x (i := .aload_n 0) (len := 1) (p' := 56) (s' := [.ref 66, .ref 66]) rfl rfl (ld_a (vg_o (i := 5) (v := .int p_4.1) (vg_o (i := 4) (v := .int p_3.1) g_0 (by decide) (Or.inl rfl)) (by decide) (Or.inl rfl))) ?_
      refine ev_gc (p' := 59) (v := 157) rfl rfl rfl ly_66 rfl rfl ?_
      obtain ⟨p_5, G_5, H⟩ := F_bd H
      refine ev_cv (d := d + 6) (As := []) (a := 157) (p' := 62) rfl rfl rfl ly_157 rfl rfl rfl rfl rfl (nb_s1 (nb_s1 hnb rfl) rfl) rfl (N_148_ok (d := d + 5) nm_157 G_5) ?_
      refine ev_st (st' := [.int p_5.1, .ref 66]) rfl ?_
      have e_5 := N_148_R G_5
      refine ev_x (i := .iload 5) (len := 2) (p' := 64) (s' := [.int p_4.1, .int p_5.1, .ref 66]) rfl rfl (ld_i (vg_s (vz_s1 (lv) 4 (.int p_3.1)) 5 (.int p_4.1))) ?_
      refine ev_x (i := .iload 4) (len := 2) (p' := 66) (s' := [.int p_3.1, .int p_4.1, .int p_5.1, .ref 66]) rfl rfl (ld_i (vg_o (i := 5) (v := .int p_4.1) (vg_s (lv) 4 (.int p_3.1)) (by decide) (Or.inl rfl))) ?_
      obtain ⟨p_6, G_6, H⟩ := F_bd H
      refine ev_cv (d := d + 6) (As := [.int p_5.1, .int p_4.1, .int p_3.1]) (a := 66) (p' := 69) rfl rfl rfl ly_66 rfl rfl rfl rfl rfl (nb_s1 (nb_s1 hnb rfl) rfl) rfl (F_170_ok (d := d + 0) (hg := hg) (hx := hx) (hr_66_2 := ((congrFun (congrFun e_5 66) 2).trans ((congrFun (congrFun e_4 66) 2).trans ((congrFun (congrFun e_3 66) 2).trans hr_66_2)))) (hr_66_10 := ((congrFun (congrFun e_5 66) 10).trans ((congrFun (congrFun e_4 66) 10).trans ((congrFun (congrFun e_3 66) 10).trans hr_66_10)))) G_6) ?_
      refine ev_st (st' := []) rfl ?_
      have e_6 := F_170_R G_6
      refine ev_x (i := .goto (-43)) (len := 3) (p' := 26) (s' := []) rfl rfl rfl ?_
      exact ih _ _ _ _ (vg_o (i := 5) (v := .int p_4.1) (vg_o (i := 4) (v := .int p_3.1) g_0 (by decide) (Or.inl rfl)) (by decide) (Or.inl rfl)) (vg_o (i := 5) (v := .int p_4.1) (vg_o (i := 4) (v := .int p_3.1) g_3 (by decide) (Or.inl rfl)) (by decide) (Or.inl rfl)) (nb_s1 (nb_s1 hnb rfl) rfl) ((congrFun (congrFun e_6 66) 2).trans ((congrFun (congrFun e_5 66) 2).trans ((congrFun (congrFun e_4 66) 2).trans ((congrFun (congrFun e_3 66) 2).trans hr_66_2)))) ((congrFun (congrFun e_6 66) 10).trans ((congrFun (congrFun e_5 66) 10).trans ((congrFun (congrFun e_4 66) 10).trans ((congrFun (congrFun e_3 66) 10).trans hr_66_10)))) H
/-- GameTextModel.tree(II)I -/
def F_168 (N : Nat) (g : Nat) (x : Nat) (x_1 : Int32) (x_2 : Int32) (σ : st_S) : Option (Int32 × st_S) :=
  (F_169 N (-1) x_1 x_2 (st_i (σ) 157 1 0)).bind fun p_1 =>
  L_168 N g x N (gI σ (g + 1) 1) (p_1)
set_option maxRecDepth 100000 in
theorem F_168_R {N : Nat} {g : Nat} {x : Nat} {x_1 : Int32} {x_2 : Int32} {σ : st_S} {p : Int32 × st_S} (H : F_168 N g x x_1 x_2 σ = some p) : gR p.2 = gR σ := by
  unfold F_168 at H
  obtain ⟨p_1, G_1, H⟩ := F_bd H
  exact (((L_168_R _ _ _ _ H)).trans ((F_169_R G_1).trans rfl))
set_option maxHeartbeats 4000000 in
set_option maxRecDepth 100000 in
theorem F_168_ok {N d : Nat} {g : Nat} (hg : g = 79 ∨ g = 115) {x : Nat} (hx : x = 67 ∨ x = 69) {x_1 : Int32} {x_2 : Int32} {σ : st_S} {p : Int32 × st_S} (hr_66_2 : gR σ 66 2 = x) (hr_66_10 : gR σ 66 10 = g) (H : F_168 N g x x_1 x_2 σ = some p) : vz_ev P0 (d + 7) 168 0 (lv_args 0 [.ref 66, .int x_1, .int x_2]) [] (hp σ) (.inl (some (.int p.1)), hp p.2) := by
  unfold F_168 at H
  rcases hg with rfl | rfl
  · refine ev_x (i := .aload_n 0) (len := 1) (p' := 1) (s' := [.ref 66]) rfl rfl rfl ?_
    refine ev_gc (p' := 4) (v := 157) rfl rfl rfl ly_66 rfl rfl ?_
    refine ev_x (i := .iconst 0) (len := 1) (p' := 5) (s' := [.int 0, .ref 157]) rfl rfl rfl ?_
    refine ev_pi (p' := 8) rfl rfl rfl ly_157 rfl rfl rfl rfl ?_
    refine ev_x (i := .aload_n 0) (len := 1) (p' := 9) (s' := [.ref 66]) rfl rfl rfl ?_
    refine ev_gr (p' := 12) (v := 79) rfl rfl rfl ly_66 rfl rfl hr_66_10 ?_
    refine ev_gc (p' := 15) (v := 80) rfl rfl rfl ly_79 rfl rfl ?_
    refine ev_gi (p' := 18) (v := (gI σ 80 1)) rfl rfl rfl ly_80 rfl rfl rfl ?_
    refine ev_x (i := .istore_n 3) (len := 1) (p' := 19) (s' := []) (l' := [(3, .int (gI σ 80 1)), (0, .ref 66), (1, .int x_1), (2, .int x_2)]) rfl rfl rfl ?_
    refine ev_x (i := .aload_n 0) (len := 1) (p' := 20) (s' := [.ref 66]) rfl rfl rfl ?_
    refine ev_x (i := .iconst (-1)) (len := 1) (p' := 21) (s' := [.int (-1), .ref 66]) rfl rfl rfl ?_
    refine ev_x (i := .iload_n 1) (len := 1) (p' := 22) (s' := [.int x_1, .int (-1), .ref 66]) rfl rfl rfl ?_
    refine ev_x (i := .iload_n 2) (len := 1) (p' := 23) (s' := [.int x_2, .int x_1, .int (-1), .ref 66]) rfl rfl rfl ?_
    obtain ⟨p_1, G_1, H⟩ := F_bd H
    refine ev_cv (d := d + 6) (As := [.int (-1), .int x_1, .int x_2]) (a := 66) (p' := 26) rfl rfl rfl ly_66 rfl rfl rfl rfl rfl rfl rfl (F_169_ok (d := d + 4)   G_1) ?_
    refine ev_st (st' := []) rfl ?_
    have e_1 := F_169_R G_1
    exact (L_168_ok (d := d) (Or.inl rfl) hx N) _ _ _ _ rfl rfl rfl ((congrFun (congrFun e_1 66) 2).trans hr_66_2) ((congrFun (congrFun e_1 66) 10).trans hr_66_10) H
  · refine ev_x (i := .aload_n 0) (len := 1) (p' := 1) (s' := [.ref 66]) rfl rfl rfl ?_
    refine ev_gc (p' := 4) (v := 157) rfl rfl rfl ly_66 rfl rfl ?_
    refine ev_x (i := .iconst 0) (len := 1) (p' := 5) (s' := [.int 0, .ref 157]) rfl rfl rfl ?_
    refine ev_pi (p' := 8) rfl rfl rfl ly_157 rfl rfl rfl rfl ?_
    refine ev_x (i := .aload_n 0) (len := 1) (p' := 9) (s' := [.ref 66]) rfl rfl rfl ?_
    refine ev_gr (p' := 12) (v := 115) rfl rfl rfl ly_66 rfl rfl hr_66_10 ?_
    refine ev_gc (p' := 15) (v := 116) rfl rfl rfl ly_115 rfl rfl ?_
    refine ev_gi (p' := 18) (v := (gI σ 116 1)) rfl rfl rfl ly_116 rfl rfl rfl ?_
    refine ev_x (i := .istore_n 3) (len := 1) (p' := 19) (s' := []) (l' := [(3, .int (gI σ 116 1)), (0, .ref 66), (1, .int x_1), (2, .int x_2)]) rfl rfl rfl ?_
    refine ev_x (i := .aload_n 0) (len := 1) (p' := 20) (s' := [.ref 66]) rfl rfl rfl ?_
    refine ev_x (i := .iconst (-1)) (len := 1) (p' := 21) (s' := [.int (-1), .ref 66]) rfl rfl rfl ?_
    refine ev_x (i := .iload_n 1) (len := 1) (p' := 22) (s' := [.int x_1, .int (-1), .ref 66]) rfl rfl rfl ?_
    refine ev_x (i := .iload_n 2) (len := 1) (p' := 23) (s' := [.int x_2, .int x_1, .int (-1), .ref 66]) rfl rfl rfl ?_
    obtain ⟨p_1, G_1, H⟩ := F_bd H
    refine ev_cv (d := d + 6) (As := [.int (-1), .int x_1, .int x_2]) (a := 66) (p' := 26) rfl rfl rfl ly_66 rfl rfl rfl rfl rfl rfl rfl (F_169_ok (d := d + 4)   G_1) ?_
    refine ev_st (st' := []) rfl ?_
    have e_1 := F_169_R G_1
    exact (L_168_ok (d := d) (Or.inr rfl) hx N) _ _ _ _ rfl rfl rfl ((congrFun (congrFun e_1 66) 2).trans hr_66_2) ((congrFun (congrFun e_1 66) 10).trans hr_66_10) H
