/-! NUMBERS: the reference's lists, any one of them -/
/-- a Numbers object and its array -/
def Nm (o : Nat) : Prop := vz_lk ly o = some (0, 11, [o + 4, 0]) ∧ vz_lk ly (o + 1) = some (1, 0, []) ∧ (vz_gr P0).2.2 o 0 = some (o + 1) ∧ vz_nb (vz_gr P0) (.ref o) = true
set_option maxRecDepth 100000 in
theorem nm_67 : Nm 67 := ⟨rfl, rfl, rfl, rfl⟩
set_option maxRecDepth 100000 in
theorem nm_69 : Nm 69 := ⟨rfl, rfl, rfl, rfl⟩
set_option maxRecDepth 100000 in
theorem nm_71 : Nm 71 := ⟨rfl, rfl, rfl, rfl⟩
set_option maxRecDepth 100000 in
theorem nm_73 : Nm 73 := ⟨rfl, rfl, rfl, rfl⟩
set_option maxRecDepth 100000 in
theorem nm_75 : Nm 75 := ⟨rfl, rfl, rfl, rfl⟩
set_option maxRecDepth 100000 in
theorem nm_77 : Nm 77 := ⟨rfl, rfl, rfl, rfl⟩
set_option maxRecDepth 100000 in
theorem nm_80 : Nm 80 := ⟨rfl, rfl, rfl, rfl⟩
set_option maxRecDepth 100000 in
theorem nm_82 : Nm 82 := ⟨rfl, rfl, rfl, rfl⟩
set_option maxRecDepth 100000 in
theorem nm_84 : Nm 84 := ⟨rfl, rfl, rfl, rfl⟩
set_option maxRecDepth 100000 in
theorem nm_86 : Nm 86 := ⟨rfl, rfl, rfl, rfl⟩
set_option maxRecDepth 100000 in
theorem nm_88 : Nm 88 := ⟨rfl, rfl, rfl, rfl⟩
set_option maxRecDepth 100000 in
theorem nm_90 : Nm 90 := ⟨rfl, rfl, rfl, rfl⟩
set_option maxRecDepth 100000 in
theorem nm_109 : Nm 109 := ⟨rfl, rfl, rfl, rfl⟩
set_option maxRecDepth 100000 in
theorem nm_111 : Nm 111 := ⟨rfl, rfl, rfl, rfl⟩
set_option maxRecDepth 100000 in
theorem nm_113 : Nm 113 := ⟨rfl, rfl, rfl, rfl⟩
set_option maxRecDepth 100000 in
theorem nm_116 : Nm 116 := ⟨rfl, rfl, rfl, rfl⟩
set_option maxRecDepth 100000 in
theorem nm_118 : Nm 118 := ⟨rfl, rfl, rfl, rfl⟩
set_option maxRecDepth 100000 in
theorem nm_120 : Nm 120 := ⟨rfl, rfl, rfl, rfl⟩
set_option maxRecDepth 100000 in
theorem nm_122 : Nm 122 := ⟨rfl, rfl, rfl, rfl⟩
set_option maxRecDepth 100000 in
theorem nm_124 : Nm 124 := ⟨rfl, rfl, rfl, rfl⟩
set_option maxRecDepth 100000 in
theorem nm_126 : Nm 126 := ⟨rfl, rfl, rfl, rfl⟩
set_option maxRecDepth 100000 in
theorem nm_145 : Nm 145 := ⟨rfl, rfl, rfl, rfl⟩
set_option maxRecDepth 100000 in
theorem nm_147 : Nm 147 := ⟨rfl, rfl, rfl, rfl⟩
set_option maxRecDepth 100000 in
theorem nm_149 : Nm 149 := ⟨rfl, rfl, rfl, rfl⟩
set_option maxRecDepth 100000 in
theorem nm_151 : Nm 151 := ⟨rfl, rfl, rfl, rfl⟩
set_option maxRecDepth 100000 in
theorem nm_153 : Nm 153 := ⟨rfl, rfl, rfl, rfl⟩
set_option maxRecDepth 100000 in
theorem nm_155 : Nm 155 := ⟨rfl, rfl, rfl, rfl⟩
set_option maxRecDepth 100000 in
theorem nm_157 : Nm 157 := ⟨rfl, rfl, rfl, rfl⟩
set_option maxRecDepth 100000 in
theorem nm_159 : Nm 159 := ⟨rfl, rfl, rfl, rfl⟩
set_option maxRecDepth 100000 in
theorem nm_161 : Nm 161 := ⟨rfl, rfl, rfl, rfl⟩
set_option maxRecDepth 100000 in
theorem nm_165 : Nm 165 := ⟨rfl, rfl, rfl, rfl⟩
set_option maxRecDepth 100000 in
theorem nm_175 : Nm 175 := ⟨rfl, rfl, rfl, rfl⟩
set_option maxRecDepth 100000 in
theorem nm_177 : Nm 177 := ⟨rfl, rfl, rfl, rfl⟩
set_option maxRecDepth 100000 in
theorem nm_179 : Nm 179 := ⟨rfl, rfl, rfl, rfl⟩
set_option maxHeartbeats 4000000 in
set_option maxRecDepth 100000 in
theorem add_n_o {d o : Nat} (ho : Nm o) {σ : st_S} {n m : Nat} {v : Int32} (hm : m < 2 ^ 31) (h : n < m) (hi_ : σ.1 o 1 = nI n) (hn_ : (gN σ (o + 1)) = m) : vz_ev P0 (d + 1) 133 0 (lv_args 0 [.ref o, .int v]) [] (hp σ) (.inl none, hp (st_i (st_e σ (o + 1) n v) o 1 (nI (n + 1)))) := by
  refine ev_x (i := .aload_n 0) (len := 1) (p' := 1) (s' := [.ref o]) rfl rfl rfl ?_
  refine ev_gi (p' := 4) (v := nI n) rfl rfl rfl ho.1 rfl rfl hi_ ?_
  refine ev_x (i := .aload_n 0) (len := 1) (p' := 5) (s' := [.ref o, .int (nI n)]) rfl rfl rfl ?_
  refine ev_gc (p' := 8) (v := o + 1) rfl rfl rfl ho.1 rfl rfl ?_
  refine ev_al (p' := 9) (v := nI m) rfl rfl ho.2.1 (by decide) (by decide) rfl (congrArg Int32.ofNat hn_) ?_
  refine ev_b2 (t := 51) (p' := 51) rfl rfl rfl (if_pos (fun e => Nat.ne_of_lt h ((nI_eq (by omega) hm).mp e))) ?_
  refine ev_x (i := .aload_n 0) (len := 1) (p' := 52) (s' := [.ref o]) rfl rfl rfl ?_
  refine ev_gc (p' := 55) (v := o + 1) rfl rfl rfl ho.1 rfl rfl ?_
  refine ev_x (i := .aload_n 0) (len := 1) (p' := 56) (s' := [.ref o, .ref (o + 1)]) rfl rfl rfl ?_
  refine ev_gi (p' := 59) (v := nI n) rfl rfl rfl ho.1 rfl rfl hi_ ?_
  refine ev_x (i := .iload_n 1) (len := 1) (p' := 60) (s' := [.int v, .int (nI n), .ref (o + 1)]) rfl rfl rfl ?_
  refine ev_pa (j := n) (p' := 61) rfl rfl ho.2.1 rfl (by rw [hn_]; exact vp_in_nI h hm) (nI_clamp (by omega)) ?_
  refine ev_x (i := .aload_n 0) (len := 1) (p' := 62) (s' := [.ref o]) rfl rfl rfl ?_
  refine ev_x (i := .aload_n 0) (len := 1) (p' := 63) (s' := [.ref o, .ref o]) rfl rfl rfl ?_
  refine ev_gi (p' := 66) (v := nI n) rfl rfl rfl ho.1 rfl rfl hi_ ?_
  refine ev_x (i := .iconst 1) (len := 1) (p' := 67) (s' := [.int 1, .int (nI n), .ref o]) rfl rfl rfl ?_
  refine ev_x (i := .iadd) (len := 1) (p' := 68) (s' := [.int (nI n + 1), .ref o]) rfl rfl rfl ?_
  refine ev_st (st' := [.int (nI (n + 1)), .ref o]) (congrArg (fun z => [Value.int z, .ref o]) (nI_1 n)) ?_
  refine ev_pi (p' := 71) rfl rfl rfl ho.1 rfl rfl rfl rfl ?_
  exact ev_vret rfl rfl rfl
set_option maxHeartbeats 4000000 in
set_option maxRecDepth 100000 in
theorem cp_step_o {d o : Nat} (ho : Nm o) {σ : st_S} {n m i : Nat} {v : Int32} {q : vz_O × vz_H} (hnm : n ≤ m) (hm : m < 2 ^ 31) (hi_ : σ.1 o 1 = nI n) (hn_ : (gN σ (o + 1)) = n) (hi : i < n)
    (h : vz_ev P0 d 133 23 [(3, .int (nI (i + 1))), (2, .ref (gC σ + 1 + 187)), (0, .ref o), (1, .int v)] [] (hp (st_cp σ (gE σ (o + 1)) m (i + 1))) q) : vz_ev P0 d 133 23 [(3, .int (nI i)), (2, .ref (gC σ + 1 + 187)), (0, .ref o), (1, .int v)] [] (hp (st_cp σ (gE σ (o + 1)) m i)) q := by
  refine ev_x (i := .iload_n 3) (len := 1) (p' := 24) (s' := [.int (nI i)]) rfl rfl rfl ?_
  refine ev_x (i := .aload_n 0) (len := 1) (p' := 25) (s' := [.ref o, .int (nI i)]) rfl rfl rfl ?_
  refine ev_gi (p' := 28) (v := nI n) rfl rfl rfl ho.1 rfl rfl hi_ ?_
  refine ev_b2 (t := 46) (p' := 31) rfl rfl rfl (if_neg (nI_ge hi (by omega))) ?_
  refine ev_x (i := .aload_n 2) (len := 1) (p' := 32) (s' := [.ref (gC σ + 1 + 187)]) rfl rfl rfl ?_
  refine ev_x (i := .iload_n 3) (len := 1) (p' := 33) (s' := [.int (nI i), .ref (gC σ + 1 + 187)]) rfl rfl rfl ?_
  refine ev_x (i := .aload_n 0) (len := 1) (p' := 34) (s' := [.ref o, .int (nI i), .ref (gC σ + 1 + 187)]) rfl rfl rfl ?_
  refine ev_gc (p' := 37) (v := o + 1) rfl rfl rfl ho.1 rfl rfl ?_
  refine ev_x (i := .iload_n 3) (len := 1) (p' := 38) (s' := [.int (nI i), .ref (o + 1), .int (nI i), .ref (gC σ + 1 + 187)]) rfl rfl rfl ?_
  refine ev_ga (p' := 39) (v := (gE σ (o + 1)) i) rfl rfl ho.2.1 rfl (show vp_in (nI i) (gN σ (o + 1)) by rw [hn_]; exact vp_in_nI hi (by omega)) (congrArg (gE σ (o + 1)) (nI_clamp (by omega))) ?_
  refine ev_iast (n := m) (f := fun j => if j < i then (gE σ (o + 1)) j else 0) rfl rfl (decide_eq_true (by omega)) (cp_arr σ _ m i) (vp_in_nI (by omega) hm) ?_
  refine ev_hp (μ' := vz_upd (hp (st_cp σ (gE σ (o + 1)) m i)) (gC σ + 1 + 187) (.inl (0, m, .inl (upd (fun j => if j < i then (gE σ (o + 1)) j else 0) i ((gE σ (o + 1)) i))))) (congrArg (fun z => vz_upd (hp (st_cp σ (gE σ (o + 1)) m i)) (gC σ + 1 + 187) (.inl (0, m, .inl (upd (fun j => if j < i then (gE σ (o + 1)) j else 0) z ((gE σ (o + 1)) i))))) (nI_clamp (n := i) (by omega))) ?_
  refine ev_hp (st_h_x _ _ (ly_out (Or.inr (by omega)))) ?_
  refine ev_hs (st_cp_x σ _ m i) ?_
  refine ev_x (i := .iinc 3 1) (len := 3) (p' := 43) (l' := [(3, .int (nI i + 1)), (2, .ref (gC σ + 1 + 187)), (0, .ref o), (1, .int v)]) (s' := []) rfl rfl rfl ?_
  refine ev_lv (lv' := [(3, .int (nI (i + 1))), (2, .ref (gC σ + 1 + 187)), (0, .ref o), (1, .int v)]) (congrArg (fun z => [(3, Value.int z), (2, .ref (gC σ + 1 + 187)), (0, .ref o), (1, .int v)]) (nI_1 i)) ?_
  exact ev_x (i := .goto (-20)) (len := 3) (p' := 23) (s' := []) rfl rfl rfl h
set_option maxHeartbeats 4000000 in
set_option maxRecDepth 100000 in
theorem cp_loop_o {d o : Nat} (ho : Nm o) {σ : st_S} {n m : Nat} {v : Int32} {q : vz_O × vz_H} (hnm : n ≤ m) (hm : m < 2 ^ 31) (hi_ : σ.1 o 1 = nI n) (hn_ : (gN σ (o + 1)) = n)
    (h : vz_ev P0 d 133 46 [(3, .int (nI n)), (2, .ref (gC σ + 1 + 187)), (0, .ref o), (1, .int v)] [] (hp (st_cp σ (gE σ (o + 1)) m n)) q) : ∀ k i : Nat, i + k = n → vz_ev P0 d 133 23 [(3, .int (nI i)), (2, .ref (gC σ + 1 + 187)), (0, .ref o), (1, .int v)] [] (hp (st_cp σ (gE σ (o + 1)) m i)) q := by
  intro k
  induction k with
  | zero =>
    intro i hi
    have e : i = n := by omega
    subst e
    refine ev_x (i := .iload_n 3) (len := 1) (p' := 24) (s' := [.int (nI i)]) rfl rfl rfl ?_
    refine ev_x (i := .aload_n 0) (len := 1) (p' := 25) (s' := [.ref o, .int (nI i)]) rfl rfl rfl ?_
    refine ev_gi (p' := 28) (v := nI i) rfl rfl rfl ho.1 rfl rfl hi_ ?_
    exact ev_b2 (t := 46) (p' := 46) rfl rfl rfl (if_pos (nI_le (Nat.le_refl _) (by omega))) h
  | succ k ih =>
    intro i hi
    exact cp_step_o ho hnm hm hi_ hn_ (by omega) (ih (i + 1) (by omega))
set_option maxHeartbeats 4000000 in
set_option maxRecDepth 100000 in
theorem add_g_o {d o : Nat} (ho : Nm o) {σ : st_S} {n : Nat} {v : Int32} (h0 : 0 < n) (hm : n < 50000000) (hq : gC σ + 188 < vz_M0) (hi_ : σ.1 o 1 = nI n) (hn_ : (gN σ (o + 1)) = n) : vz_ev P0 (d + 1) 133 0 (lv_args 0 [.ref o, .int v]) [] (hp σ) (.inl none, hp (st_i (st_e (st_gw σ (o + 1) n (2 * n)) (o + 1) n v) o 1 (nI (n + 1)))) := by
  refine ev_x (i := .aload_n 0) (len := 1) (p' := 1) (s' := [.ref o]) rfl rfl rfl ?_
  refine ev_gi (p' := 4) (v := nI n) rfl rfl rfl ho.1 rfl rfl hi_ ?_
  refine ev_x (i := .aload_n 0) (len := 1) (p' := 5) (s' := [.ref o, .int (nI n)]) rfl rfl rfl ?_
  refine ev_gc (p' := 8) (v := o + 1) rfl rfl rfl ho.1 rfl rfl ?_
  refine ev_al (p' := 9) (v := nI n) rfl rfl ho.2.1 (by decide) (by decide) rfl (congrArg Int32.ofNat hn_) ?_
  refine ev_b2 (t := 51) (p' := 12) rfl rfl rfl (if_neg (fun e => e rfl)) ?_
  refine ev_x (i := .iconst 2) (len := 1) (p' := 13) (s' := [.int (nI 2)]) rfl rfl rfl ?_
  refine ev_x (i := .aload_n 0) (len := 1) (p' := 14) (s' := [.ref o, .int (nI 2)]) rfl rfl rfl ?_
  refine ev_gi (p' := 17) (v := nI n) rfl rfl rfl ho.1 rfl rfl hi_ ?_
  refine ev_x (i := .imul) (len := 1) (p' := 18) (s' := [.int (nI 2 * nI n)]) rfl rfl rfl ?_
  refine ev_nw (m := 2 * n) (p' := 20) rfl rfl (pk_mul 2 n) (by omega) hq rfl ?_
  refine ev_x (i := .astore_n 2) (len := 1) (p' := 21) (l' := [(2, .ref (gC σ + 1 + 187)), (0, .ref o), (1, .int v)]) (s' := []) rfl rfl rfl ?_
  refine ev_x (i := .iconst 0) (len := 1) (p' := 22) (s' := [.int (nI 0)]) rfl rfl rfl ?_
  refine ev_x (i := .istore_n 3) (len := 1) (p' := 23) (l' := [(3, .int (nI 0)), (2, .ref (gC σ + 1 + 187)), (0, .ref o), (1, .int v)]) (s' := []) rfl rfl rfl ?_
  refine ev_hs (st_cp_0 σ (gE σ (o + 1)) (2 * n)) ?_
  refine cp_loop_o ho (by omega) (by omega) hi_ hn_ ?_ n 0 (by omega)
  refine ev_x (i := .aload_n 0) (len := 1) (p' := 47) (s' := [.ref o]) rfl rfl rfl ?_
  refine ev_x (i := .aload_n 2) (len := 1) (p' := 48) (s' := [.ref (gC σ + 1 + 187), .ref o]) rfl rfl rfl ?_
  refine ev_pg (k := o + 1) (p' := 51) (lv' := [(3, .int (nI n)), (0, .ref o), (1, .int v)]) rfl rfl rfl ho.1 rfl ho.2.1 (by omega) (show gC σ + 1 + 187 < vz_M0 by omega) rfl rfl ho.2.2.1 (cp_arr σ _ (2 * n) n) rfl ?_ rfl ?_
  · show List.filter (fun q => vz_nb (vz_gr P0) q.2) [(3, Value.int (nI n)), (2, .ref (gC σ + 1 + 187)), (0, .ref o), (1, .int v)] = _
    rw [List.filter_cons_of_pos rfl, List.filter_cons_of_neg (by show ¬ vz_nb (vz_gr P0) (.ref (gC σ + 1 + 187)) = true; rw [nb_no (by omega) (show gC σ + 1 + 187 < vz_M0 by omega)]; exact Bool.false_ne_true), List.filter_cons_of_pos (p := fun q : Nat × Value => vz_nb (vz_gr P0) q.2) (a := (0, Value.ref o)) ho.2.2.2]
    rfl
  refine ev_hs (σ' := st_gw σ (o + 1) n (2 * n)) rfl ?_
  refine ev_x (i := .aload_n 0) (len := 1) (p' := 52) (s' := [.ref o]) rfl rfl rfl ?_
  refine ev_gc (p' := 55) (v := o + 1) rfl rfl rfl ho.1 rfl rfl ?_
  refine ev_x (i := .aload_n 0) (len := 1) (p' := 56) (s' := [.ref o, .ref (o + 1)]) rfl rfl rfl ?_
  refine ev_gi (p' := 59) (v := nI n) rfl rfl rfl ho.1 rfl rfl hi_ ?_
  refine ev_x (i := .iload_n 1) (len := 1) (p' := 60) (s' := [.int v, .int (nI n), .ref (o + 1)]) rfl rfl rfl ?_
  refine ev_pa (j := n) (p' := 61) rfl rfl ho.2.1 rfl (by rw [show gN (st_gw σ (o + 1) n (2 * n)) (o + 1) = 2 * n from va_up_self _ _ _]; exact vp_in_nI (by omega) (by omega)) (nI_clamp (by omega)) ?_
  refine ev_x (i := .aload_n 0) (len := 1) (p' := 62) (s' := [.ref o]) rfl rfl rfl ?_
  refine ev_x (i := .aload_n 0) (len := 1) (p' := 63) (s' := [.ref o, .ref o]) rfl rfl rfl ?_
  refine ev_gi (p' := 66) (v := nI n) rfl rfl rfl ho.1 rfl rfl hi_ ?_
  refine ev_x (i := .iconst 1) (len := 1) (p' := 67) (s' := [.int 1, .int (nI n), .ref o]) rfl rfl rfl ?_
  refine ev_x (i := .iadd) (len := 1) (p' := 68) (s' := [.int (nI n + 1), .ref o]) rfl rfl rfl ?_
  refine ev_st (st' := [.int (nI (n + 1)), .ref o]) (congrArg (fun z => [Value.int z, .ref o]) (nI_1 n)) ?_
  refine ev_pi (p' := 71) rfl rfl rfl ho.1 rfl rfl rfl rfl ?_
  exact ev_vret rfl rfl rfl
/-- add -/
def N_133 (N o : Nat) (v : Int32) (σ : st_S) : Option st_S :=
  if gI σ o 1 = nI (gN σ (o + 1)) then
    if 0 < gN σ (o + 1) ∧ gN σ (o + 1) < 50000000 ∧ gC σ + 188 < vz_M0 then
      some (st_i (st_e (st_gw σ (o + 1) (gN σ (o + 1)) (2 * gN σ (o + 1))) (o + 1) (gN σ (o + 1)) v) o 1 (nI (gN σ (o + 1) + 1)))
    else none
  else
    if aB (gI σ o 1) (gN σ (o + 1)) ∧ gN σ (o + 1) < 2 ^ 31 then
      some (st_i (st_e σ (o + 1) (gI σ o 1).toNatClampNeg v) o 1 (nI ((gI σ o 1).toNatClampNeg + 1)))
    else none
theorem N_133_R {N o : Nat} {v : Int32} {σ p : st_S} (H : N_133 N o v σ = some p) : gR p = gR σ := by
  unfold N_133 at H
  refine F_if H (fun _ H => ?_) (fun _ H => ?_)
  · obtain ⟨_, H⟩ := F_gd H
    obtain rfl := Option.some.inj H
    rfl
  · obtain ⟨_, H⟩ := F_gd H
    obtain rfl := Option.some.inj H
    rfl
theorem N_133_ok {N d o : Nat} {v : Int32} {σ p : st_S} (ho : Nm o) (H : N_133 N o v σ = some p) : vz_ev P0 (d + 1) 133 0 (lv_args 0 [.ref o, .int v]) [] (hp σ) (.inl none, hp p) := by
  unfold N_133 at H
  refine F_if H (fun c H => ?_) (fun c H => ?_)
  · obtain ⟨b, H⟩ := F_gd H
    obtain rfl := Option.some.inj H
    exact add_g_o ho b.1 b.2.1 b.2.2 c rfl
  · obtain ⟨b, H⟩ := F_gd H
    obtain rfl := Option.some.inj H
    exact add_n_o ho b.2 b.1.2 (nI_cl b.1.1) rfl
/-- at -/
def N_139 (N o : Nat) (i : Int32) (σ : st_S) : Option (Int32 × st_S) := if aB i (gN σ (o + 1)) then some (gE σ (o + 1) i.toNatClampNeg, σ) else none
theorem N_139_R {N o : Nat} {i : Int32} {σ : st_S} {p : Int32 × st_S} (H : N_139 N o i σ = some p) : gR p.2 = gR σ := by
  unfold N_139 at H
  obtain ⟨_, H⟩ := F_gd H
  obtain rfl := Option.some.inj H
  rfl
theorem N_139_ok {N d o : Nat} {i : Int32} {σ : st_S} {p : Int32 × st_S} (ho : Nm o) (H : N_139 N o i σ = some p) : vz_ev P0 (d + 1) 139 0 (lv_args 0 [.ref o, .int i]) [] (hp σ) (.inl (some (.int p.1)), hp p.2) := by
  unfold N_139 at H
  obtain ⟨b, H⟩ := F_gd H
  obtain rfl := Option.some.inj H
  refine ev_x (i := .aload_n 0) (len := 1) (p' := 1) (s' := [.ref o]) rfl rfl rfl ?_
  refine ev_gc (p' := 4) (v := o + 1) rfl rfl rfl ho.1 rfl rfl ?_
  refine ev_x (i := .iload_n 1) (len := 1) (p' := 5) (s' := [.int i, .ref (o + 1)]) rfl rfl rfl ?_
  refine ev_ga (p' := 6) (v := gE σ (o + 1) i.toNatClampNeg) rfl rfl ho.2.1 rfl (gd_in b) rfl ?_
  exact ev_iret rfl rfl rfl rfl
/-- take -/
def N_148 (N o : Nat) (σ : st_S) : Option (Int32 × st_S) := if aB (gI σ o 1 - 1) (gN σ (o + 1)) then some (gE σ (o + 1) (gI σ o 1 - 1).toNatClampNeg, st_i σ o 1 (gI σ o 1 - 1)) else none
theorem N_148_R {N o : Nat} {σ : st_S} {p : Int32 × st_S} (H : N_148 N o σ = some p) : gR p.2 = gR σ := by
  unfold N_148 at H
  obtain ⟨_, H⟩ := F_gd H
  obtain rfl := Option.some.inj H
  rfl
theorem N_148_ok {N d o : Nat} {σ : st_S} {p : Int32 × st_S} (ho : Nm o) (H : N_148 N o σ = some p) : vz_ev P0 (d + 1) 148 0 (lv_args 0 [.ref o]) [] (hp σ) (.inl (some (.int p.1)), hp p.2) := by
  unfold N_148 at H
  obtain ⟨b, H⟩ := F_gd H
  obtain rfl := Option.some.inj H
  refine ev_x (i := .aload_n 0) (len := 1) (p' := 1) (s' := [.ref o]) rfl rfl rfl ?_
  refine ev_x (i := .aload_n 0) (len := 1) (p' := 2) (s' := [.ref o, .ref o]) rfl rfl rfl ?_
  refine ev_gi (p' := 5) (v := gI σ o 1) rfl rfl rfl ho.1 rfl rfl rfl ?_
  refine ev_x (i := .iconst 1) (len := 1) (p' := 6) (s' := [.int 1, .int (gI σ o 1), .ref o]) rfl rfl rfl ?_
  refine ev_x (i := .isub) (len := 1) (p' := 7) (s' := [.int (gI σ o 1 - 1), .ref o]) rfl rfl rfl ?_
  refine ev_pi (p' := 10) rfl rfl rfl ho.1 rfl rfl rfl rfl ?_
  refine ev_x (i := .aload_n 0) (len := 1) (p' := 11) (s' := [.ref o]) rfl rfl rfl ?_
  refine ev_gc (p' := 14) (v := o + 1) rfl rfl rfl ho.1 rfl rfl ?_
  refine ev_x (i := .aload_n 0) (len := 1) (p' := 15) (s' := [.ref o, .ref (o + 1)]) rfl rfl rfl ?_
  refine ev_gi (p' := 18) (v := gI σ o 1 - 1) rfl rfl rfl ho.1 rfl rfl (st_i_s _ _ _ _) ?_
  refine ev_ga (p' := 19) (v := gE σ (o + 1) (gI σ o 1 - 1).toNatClampNeg) rfl rfl ho.2.1 rfl (gd_in b) rfl ?_
  exact ev_iret rfl rfl rfl rfl
/-- last -/
def N_183 (N o : Nat) (σ : st_S) : Option (Int32 × st_S) := if aB (gI σ o 1 - 1) (gN σ (o + 1)) then some (gE σ (o + 1) (gI σ o 1 - 1).toNatClampNeg, σ) else none
theorem N_183_R {N o : Nat} {σ : st_S} {p : Int32 × st_S} (H : N_183 N o σ = some p) : gR p.2 = gR σ := by
  unfold N_183 at H
  obtain ⟨_, H⟩ := F_gd H
  obtain rfl := Option.some.inj H
  rfl
theorem N_183_ok {N d o : Nat} {σ : st_S} {p : Int32 × st_S} (ho : Nm o) (H : N_183 N o σ = some p) : vz_ev P0 (d + 1) 183 0 (lv_args 0 [.ref o]) [] (hp σ) (.inl (some (.int p.1)), hp p.2) := by
  unfold N_183 at H
  obtain ⟨b, H⟩ := F_gd H
  obtain rfl := Option.some.inj H
  refine ev_x (i := .aload_n 0) (len := 1) (p' := 1) (s' := [.ref o]) rfl rfl rfl ?_
  refine ev_gc (p' := 4) (v := o + 1) rfl rfl rfl ho.1 rfl rfl ?_
  refine ev_x (i := .aload_n 0) (len := 1) (p' := 5) (s' := [.ref o, .ref (o + 1)]) rfl rfl rfl ?_
  refine ev_gi (p' := 8) (v := gI σ o 1) rfl rfl rfl ho.1 rfl rfl rfl ?_
  refine ev_x (i := .iconst 1) (len := 1) (p' := 9) (s' := [.int 1, .int (gI σ o 1), .ref (o + 1)]) rfl rfl rfl ?_
  refine ev_x (i := .isub) (len := 1) (p' := 10) (s' := [.int (gI σ o 1 - 1), .ref (o + 1)]) rfl rfl rfl ?_
  refine ev_ga (p' := 11) (v := gE σ (o + 1) (gI σ o 1 - 1).toNatClampNeg) rfl rfl ho.2.1 rfl (gd_in b) rfl ?_
  exact ev_iret rfl rfl rfl rfl
