/-! Numbers.add. Written by wip/prog/gen_add.py -/
/-- a fresh array of m ints, the first i of f copied -/
def st_cp (σ : st_S) (f : Nat → Int32) (m i : Nat) : st_S := st_w σ (.inl (0, m, .inl fun j => if j < i then f j else 0)) m
theorem st_cp_0 (σ : st_S) (f : Nat → Int32) (m : Nat) : st_w σ (.inl (0, m, .inl fun _ => 0)) m = st_cp σ f m 0 := by
  have e : (fun j => if j < 0 then f j else 0) = (fun _ => (0 : Int32)) := funext fun j => if_neg (Nat.not_lt_zero j)
  unfold st_cp
  rw [e]
theorem st_cp_x (σ : st_S) (f : Nat → Int32) (m i : Nat) : st_x (st_cp σ f m i) (gC σ + 1 + 187) (.inl (0, m, .inl (upd (fun j => if j < i then f j else 0) i (f i)))) = st_cp σ f m (i + 1) := by
  unfold st_cp st_x st_w
  have e : upd (fun j => if j < i then f j else 0) i (f i) = fun j => if j < i + 1 then f j else 0 := by
    funext j
    show (if j = i then f i else if j < i then f j else 0) = if j < i + 1 then f j else 0
    by_cases e1 : j = i
    · subst e1
      rw [if_pos rfl, if_pos (by omega)]
    · rw [if_neg e1]
      by_cases e2 : j < i
      · rw [if_pos e2, if_pos (by omega)]
      · rw [if_neg e2, if_neg (by omega)]
  rw [e]
  show (_, _, _, _, _, _, _, va_up (va_up _ _ _) _ _, _, _) = _
  rw [va_up_up]
/-- the store with its array b grown from n to m: the old contents lie in the fresh cell -/
def st_gw (σ : st_S) (b n m : Nat) : st_S := st_x (st_a (st_cp σ (gE σ b) m n) b (m, fun j => if j < n then (gE σ b) j else 0)) (gC σ + 1 + 187) (.inl (0, (gN σ b), .inl (gE σ b)))
theorem cp_arr (σ : st_S) (f : Nat → Int32) (m i : Nat) : vz_arr (hp (st_cp σ f m i)) (gC σ + 1 + 187) = some (0, m, .inl fun j => if j < i then f j else 0) :=
  hp_out (st_cp σ f m i) (ly_out (Or.inr (by omega))) (Nat.le_refl _) (va_up_self _ _ _)
set_option maxHeartbeats 4000000 in
set_option maxRecDepth 100000 in
theorem add_n_67 {d : Nat} {σ : st_S} {n m : Nat} {v : Int32} (hm : m < 2 ^ 31) (h : n < m) (hi_67_1 : σ.1 67 1 = nI n) (hn_68 : (gN σ 68) = m) : vz_ev P0 (d + 1) 133 0 (lv_args 0 [.ref 67, .int v]) [] (hp σ) (.inl none, hp (st_i (st_e σ 68 n v) 67 1 (nI (n + 1)))) := by
  refine ev_x (i := .aload_n 0) (len := 1) (p' := 1) (s' := [.ref 67]) rfl rfl rfl ?_
  refine ev_gi (p' := 4) (v := nI n) rfl rfl rfl ly_67 rfl rfl hi_67_1 ?_
  refine ev_x (i := .aload_n 0) (len := 1) (p' := 5) (s' := [.ref 67, .int (nI n)]) rfl rfl rfl ?_
  refine ev_gc (p' := 8) (v := 68) rfl rfl rfl ly_67 rfl rfl ?_
  refine ev_al (p' := 9) (v := nI m) rfl rfl ly_68 (by decide) (by decide) rfl (congrArg Int32.ofNat hn_68) ?_
  refine ev_b2 (t := 51) (p' := 51) rfl rfl rfl (if_pos (fun e => Nat.ne_of_lt h ((nI_eq (by omega) hm).mp e))) ?_
  refine ev_x (i := .aload_n 0) (len := 1) (p' := 52) (s' := [.ref 67]) rfl rfl rfl ?_
  refine ev_gc (p' := 55) (v := 68) rfl rfl rfl ly_67 rfl rfl ?_
  refine ev_x (i := .aload_n 0) (len := 1) (p' := 56) (s' := [.ref 67, .ref 68]) rfl rfl rfl ?_
  refine ev_gi (p' := 59) (v := nI n) rfl rfl rfl ly_67 rfl rfl hi_67_1 ?_
  refine ev_x (i := .iload_n 1) (len := 1) (p' := 60) (s' := [.int v, .int (nI n), .ref 68]) rfl rfl rfl ?_
  refine ev_pa (j := n) (p' := 61) rfl rfl ly_68 rfl (by rw [hn_68]; exact vp_in_nI h hm) (nI_clamp (by omega)) ?_
  refine ev_x (i := .aload_n 0) (len := 1) (p' := 62) (s' := [.ref 67]) rfl rfl rfl ?_
  refine ev_x (i := .aload_n 0) (len := 1) (p' := 63) (s' := [.ref 67, .ref 67]) rfl rfl rfl ?_
  refine ev_gi (p' := 66) (v := nI n) rfl rfl rfl ly_67 rfl rfl hi_67_1 ?_
  refine ev_x (i := .iconst 1) (len := 1) (p' := 67) (s' := [.int 1, .int (nI n), .ref 67]) rfl rfl rfl ?_
  refine ev_x (i := .iadd) (len := 1) (p' := 68) (s' := [.int (nI n + 1), .ref 67]) rfl rfl rfl ?_
  refine ev_st (st' := [.int (nI (n + 1)), .ref 67]) (congrArg (fun z => [Value.int z, .ref 67]) (nI_1 n)) ?_
  refine ev_pi (p' := 71) rfl rfl rfl ly_67 rfl rfl rfl rfl ?_
  exact ev_vret rfl rfl rfl
set_option maxHeartbeats 4000000 in
set_option maxRecDepth 100000 in
theorem cp_step_67 {d : Nat} {σ : st_S} {n m i : Nat} {v : Int32} {q : vz_O × vz_H} (hnm : n ≤ m) (hm : m < 2 ^ 31) (hi_67_1 : σ.1 67 1 = nI n) (hn_68 : (gN σ 68) = n) (hi : i < n)
    (h : vz_ev P0 d 133 23 [(3, .int (nI (i + 1))), (2, .ref (gC σ + 1 + 187)), (0, .ref 67), (1, .int v)] [] (hp (st_cp σ (gE σ 68) m (i + 1))) q) : vz_ev P0 d 133 23 [(3, .int (nI i)), (2, .ref (gC σ + 1 + 187)), (0, .ref 67), (1, .int v)] [] (hp (st_cp σ (gE σ 68) m i)) q := by
  refine ev_x (i := .iload_n 3) (len := 1) (p' := 24) (s' := [.int (nI i)]) rfl rfl rfl ?_
  refine ev_x (i := .aload_n 0) (len := 1) (p' := 25) (s' := [.ref 67, .int (nI i)]) rfl rfl rfl ?_
  refine ev_gi (p' := 28) (v := nI n) rfl rfl rfl ly_67 rfl rfl hi_67_1 ?_
  refine ev_b2 (t := 46) (p' := 31) rfl rfl rfl (if_neg (nI_ge hi (by omega))) ?_
  refine ev_x (i := .aload_n 2) (len := 1) (p' := 32) (s' := [.ref (gC σ + 1 + 187)]) rfl rfl rfl ?_
  refine ev_x (i := .iload_n 3) (len := 1) (p' := 33) (s' := [.int (nI i), .ref (gC σ + 1 + 187)]) rfl rfl rfl ?_
  refine ev_x (i := .aload_n 0) (len := 1) (p' := 34) (s' := [.ref 67, .int (nI i), .ref (gC σ + 1 + 187)]) rfl rfl rfl ?_
  refine ev_gc (p' := 37) (v := 68) rfl rfl rfl ly_67 rfl rfl ?_
  refine ev_x (i := .iload_n 3) (len := 1) (p' := 38) (s' := [.int (nI i), .ref 68, .int (nI i), .ref (gC σ + 1 + 187)]) rfl rfl rfl ?_
  refine ev_ga (p' := 39) (v := (gE σ 68) i) rfl rfl ly_68 rfl (show vp_in (nI i) (gN σ 68) by rw [hn_68]; exact vp_in_nI hi (by omega)) (congrArg (gE σ 68) (nI_clamp (by omega))) ?_
  refine ev_iast (n := m) (f := fun j => if j < i then (gE σ 68) j else 0) rfl rfl (decide_eq_true (by omega)) (cp_arr σ _ m i) (vp_in_nI (by omega) hm) ?_
  refine ev_hp (μ' := vz_upd (hp (st_cp σ (gE σ 68) m i)) (gC σ + 1 + 187) (.inl (0, m, .inl (upd (fun j => if j < i then (gE σ 68) j else 0) i ((gE σ 68) i))))) (congrArg (fun z => vz_upd (hp (st_cp σ (gE σ 68) m i)) (gC σ + 1 + 187) (.inl (0, m, .inl (upd (fun j => if j < i then (gE σ 68) j else 0) z ((gE σ 68) i))))) (nI_clamp (n := i) (by omega))) ?_
  refine ev_hp (st_h_x _ _ (ly_out (Or.inr (by omega)))) ?_
  refine ev_hs (st_cp_x σ _ m i) ?_
  refine ev_x (i := .iinc 3 1) (len := 3) (p' := 43) (l' := [(3, .int (nI i + 1)), (2, .ref (gC σ + 1 + 187)), (0, .ref 67), (1, .int v)]) (s' := []) rfl rfl rfl ?_
  refine ev_lv (lv' := [(3, .int (nI (i + 1))), (2, .ref (gC σ + 1 + 187)), (0, .ref 67), (1, .int v)]) (congrArg (fun z => [(3, Value.int z), (2, .ref (gC σ + 1 + 187)), (0, .ref 67), (1, .int v)]) (nI_1 i)) ?_
  exact ev_x (i := .goto (-20)) (len := 3) (p' := 23) (s' := []) rfl rfl rfl h
set_option maxHeartbeats 4000000 in
set_option maxRecDepth 100000 in
theorem cp_loop_67 {d : Nat} {σ : st_S} {n m : Nat} {v : Int32} {q : vz_O × vz_H} (hnm : n ≤ m) (hm : m < 2 ^ 31) (hi_67_1 : σ.1 67 1 = nI n) (hn_68 : (gN σ 68) = n)
    (h : vz_ev P0 d 133 46 [(3, .int (nI n)), (2, .ref (gC σ + 1 + 187)), (0, .ref 67), (1, .int v)] [] (hp (st_cp σ (gE σ 68) m n)) q) : ∀ k i : Nat, i + k = n → vz_ev P0 d 133 23 [(3, .int (nI i)), (2, .ref (gC σ + 1 + 187)), (0, .ref 67), (1, .int v)] [] (hp (st_cp σ (gE σ 68) m i)) q := by
  intro k
  induction k with
  | zero =>
    intro i hi
    have e : i = n := by omega
    subst e
    refine ev_x (i := .iload_n 3) (len := 1) (p' := 24) (s' := [.int (nI i)]) rfl rfl rfl ?_
    refine ev_x (i := .aload_n 0) (len := 1) (p' := 25) (s' := [.ref 67, .int (nI i)]) rfl rfl rfl ?_
    refine ev_gi (p' := 28) (v := nI i) rfl rfl rfl ly_67 rfl rfl hi_67_1 ?_
    exact ev_b2 (t := 46) (p' := 46) rfl rfl rfl (if_pos (nI_le (Nat.le_refl _) (by omega))) h
  | succ k ih =>
    intro i hi
    exact cp_step_67 hnm hm hi_67_1 hn_68 (by omega) (ih (i + 1) (by omega))
set_option maxHeartbeats 4000000 in
set_option maxRecDepth 100000 in
theorem add_g_67 {d : Nat} {σ : st_S} {n : Nat} {v : Int32} (h0 : 0 < n) (hm : n < 50000000) (hq : gC σ + 188 < vz_M0) (hi_67_1 : σ.1 67 1 = nI n) (hn_68 : (gN σ 68) = n) : vz_ev P0 (d + 1) 133 0 (lv_args 0 [.ref 67, .int v]) [] (hp σ) (.inl none, hp (st_i (st_e (st_gw σ 68 n (2 * n)) 68 n v) 67 1 (nI (n + 1)))) := by
  refine ev_x (i := .aload_n 0) (len := 1) (p' := 1) (s' := [.ref 67]) rfl rfl rfl ?_
  refine ev_gi (p' := 4) (v := nI n) rfl rfl rfl ly_67 rfl rfl hi_67_1 ?_
  refine ev_x (i := .aload_n 0) (len := 1) (p' := 5) (s' := [.ref 67, .int (nI n)]) rfl rfl rfl ?_
  refine ev_gc (p' := 8) (v := 68) rfl rfl rfl ly_67 rfl rfl ?_
  refine ev_al (p' := 9) (v := nI n) rfl rfl ly_68 (by decide) (by decide) rfl (congrArg Int32.ofNat hn_68) ?_
  refine ev_b2 (t := 51) (p' := 12) rfl rfl rfl (if_neg (fun e => e rfl)) ?_
  refine ev_x (i := .iconst 2) (len := 1) (p' := 13) (s' := [.int (nI 2)]) rfl rfl rfl ?_
  refine ev_x (i := .aload_n 0) (len := 1) (p' := 14) (s' := [.ref 67, .int (nI 2)]) rfl rfl rfl ?_
  refine ev_gi (p' := 17) (v := nI n) rfl rfl rfl ly_67 rfl rfl hi_67_1 ?_
  refine ev_x (i := .imul) (len := 1) (p' := 18) (s' := [.int (nI 2 * nI n)]) rfl rfl rfl ?_
  refine ev_nw (m := 2 * n) (p' := 20) rfl rfl (pk_mul 2 n) (by omega) hq rfl ?_
  refine ev_x (i := .astore_n 2) (len := 1) (p' := 21) (l' := [(2, .ref (gC σ + 1 + 187)), (0, .ref 67), (1, .int v)]) (s' := []) rfl rfl rfl ?_
  refine ev_x (i := .iconst 0) (len := 1) (p' := 22) (s' := [.int (nI 0)]) rfl rfl rfl ?_
  refine ev_x (i := .istore_n 3) (len := 1) (p' := 23) (l' := [(3, .int (nI 0)), (2, .ref (gC σ + 1 + 187)), (0, .ref 67), (1, .int v)]) (s' := []) rfl rfl rfl ?_
  refine ev_hs (st_cp_0 σ (gE σ 68) (2 * n)) ?_
  refine cp_loop_67 (by omega) (by omega) hi_67_1 hn_68 ?_ n 0 (by omega)
  refine ev_x (i := .aload_n 0) (len := 1) (p' := 47) (s' := [.ref 67]) rfl rfl rfl ?_
  refine ev_x (i := .aload_n 2) (len := 1) (p' := 48) (s' := [.ref (gC σ + 1 + 187), .ref 67]) rfl rfl rfl ?_
  refine ev_pg (k := 68) (p' := 51) (lv' := [(3, .int (nI n)), (0, .ref 67), (1, .int v)]) rfl rfl rfl ly_67 rfl ly_68 (by omega) (show gC σ + 1 + 187 < vz_M0 by omega) rfl rfl rfl (cp_arr σ _ (2 * n) n) rfl ?_ rfl ?_
  · show List.filter (fun q => vz_nb (vz_gr P0) q.2) [(3, Value.int (nI n)), (2, .ref (gC σ + 1 + 187)), (0, .ref 67), (1, .int v)] = _
    rw [List.filter_cons_of_pos rfl, List.filter_cons_of_neg (by show ¬ vz_nb (vz_gr P0) (.ref (gC σ + 1 + 187)) = true; rw [nb_no (by omega) (show gC σ + 1 + 187 < vz_M0 by omega)]; exact Bool.false_ne_true)]
    rfl
  refine ev_hs (σ' := st_gw σ 68 n (2 * n)) rfl ?_
  refine ev_x (i := .aload_n 0) (len := 1) (p' := 52) (s' := [.ref 67]) rfl rfl rfl ?_
  refine ev_gc (p' := 55) (v := 68) rfl rfl rfl ly_67 rfl rfl ?_
  refine ev_x (i := .aload_n 0) (len := 1) (p' := 56) (s' := [.ref 67, .ref 68]) rfl rfl rfl ?_
  refine ev_gi (p' := 59) (v := nI n) rfl rfl rfl ly_67 rfl rfl hi_67_1 ?_
  refine ev_x (i := .iload_n 1) (len := 1) (p' := 60) (s' := [.int v, .int (nI n), .ref 68]) rfl rfl rfl ?_
  refine ev_pa (j := n) (p' := 61) rfl rfl ly_68 rfl (show vp_in (nI n) (2 * n) from vp_in_nI (by omega) (by omega)) (nI_clamp (by omega)) ?_
  refine ev_x (i := .aload_n 0) (len := 1) (p' := 62) (s' := [.ref 67]) rfl rfl rfl ?_
  refine ev_x (i := .aload_n 0) (len := 1) (p' := 63) (s' := [.ref 67, .ref 67]) rfl rfl rfl ?_
  refine ev_gi (p' := 66) (v := nI n) rfl rfl rfl ly_67 rfl rfl hi_67_1 ?_
  refine ev_x (i := .iconst 1) (len := 1) (p' := 67) (s' := [.int 1, .int (nI n), .ref 67]) rfl rfl rfl ?_
  refine ev_x (i := .iadd) (len := 1) (p' := 68) (s' := [.int (nI n + 1), .ref 67]) rfl rfl rfl ?_
  refine ev_st (st' := [.int (nI (n + 1)), .ref 67]) (congrArg (fun z => [Value.int z, .ref 67]) (nI_1 n)) ?_
  refine ev_pi (p' := 71) rfl rfl rfl ly_67 rfl rfl rfl rfl ?_
  exact ev_vret rfl rfl rfl
set_option maxHeartbeats 4000000 in
set_option maxRecDepth 100000 in
theorem add_n_69 {d : Nat} {σ : st_S} {n m : Nat} {v : Int32} (hm : m < 2 ^ 31) (h : n < m) (hi_69_1 : σ.1 69 1 = nI n) (hn_70 : (gN σ 70) = m) : vz_ev P0 (d + 1) 133 0 (lv_args 0 [.ref 69, .int v]) [] (hp σ) (.inl none, hp (st_i (st_e σ 70 n v) 69 1 (nI (n + 1)))) := by
  refine ev_x (i := .aload_n 0) (len := 1) (p' := 1) (s' := [.ref 69]) rfl rfl rfl ?_
  refine ev_gi (p' := 4) (v := nI n) rfl rfl rfl ly_69 rfl rfl hi_69_1 ?_
  refine ev_x (i := .aload_n 0) (len := 1) (p' := 5) (s' := [.ref 69, .int (nI n)]) rfl rfl rfl ?_
  refine ev_gc (p' := 8) (v := 70) rfl rfl rfl ly_69 rfl rfl ?_
  refine ev_al (p' := 9) (v := nI m) rfl rfl ly_70 (by decide) (by decide) rfl (congrArg Int32.ofNat hn_70) ?_
  refine ev_b2 (t := 51) (p' := 51) rfl rfl rfl (if_pos (fun e => Nat.ne_of_lt h ((nI_eq (by omega) hm).mp e))) ?_
  refine ev_x (i := .aload_n 0) (len := 1) (p' := 52) (s' := [.ref 69]) rfl rfl rfl ?_
  refine ev_gc (p' := 55) (v := 70) rfl rfl rfl ly_69 rfl rfl ?_
  refine ev_x (i := .aload_n 0) (len := 1) (p' := 56) (s' := [.ref 69, .ref 70]) rfl rfl rfl ?_
  refine ev_gi (p' := 59) (v := nI n) rfl rfl rfl ly_69 rfl rfl hi_69_1 ?_
  refine ev_x (i := .iload_n 1) (len := 1) (p' := 60) (s' := [.int v, .int (nI n), .ref 70]) rfl rfl rfl ?_
  refine ev_pa (j := n) (p' := 61) rfl rfl ly_70 rfl (by rw [hn_70]; exact vp_in_nI h hm) (nI_clamp (by omega)) ?_
  refine ev_x (i := .aload_n 0) (len := 1) (p' := 62) (s' := [.ref 69]) rfl rfl rfl ?_
  refine ev_x (i := .aload_n 0) (len := 1) (p' := 63) (s' := [.ref 69, .ref 69]) rfl rfl rfl ?_
  refine ev_gi (p' := 66) (v := nI n) rfl rfl rfl ly_69 rfl rfl hi_69_1 ?_
  refine ev_x (i := .iconst 1) (len := 1) (p' := 67) (s' := [.int 1, .int (nI n), .ref 69]) rfl rfl rfl ?_
  refine ev_x (i := .iadd) (len := 1) (p' := 68) (s' := [.int (nI n + 1), .ref 69]) rfl rfl rfl ?_
  refine ev_st (st' := [.int (nI (n + 1)), .ref 69]) (congrArg (fun z => [Value.int z, .ref 69]) (nI_1 n)) ?_
  refine ev_pi (p' := 71) rfl rfl rfl ly_69 rfl rfl rfl rfl ?_
  exact ev_vret rfl rfl rfl
set_option maxHeartbeats 4000000 in
set_option maxRecDepth 100000 in
theorem cp_step_69 {d : Nat} {σ : st_S} {n m i : Nat} {v : Int32} {q : vz_O × vz_H} (hnm : n ≤ m) (hm : m < 2 ^ 31) (hi_69_1 : σ.1 69 1 = nI n) (hn_70 : (gN σ 70) = n) (hi : i < n)
    (h : vz_ev P0 d 133 23 [(3, .int (nI (i + 1))), (2, .ref (gC σ + 1 + 187)), (0, .ref 69), (1, .int v)] [] (hp (st_cp σ (gE σ 70) m (i + 1))) q) : vz_ev P0 d 133 23 [(3, .int (nI i)), (2, .ref (gC σ + 1 + 187)), (0, .ref 69), (1, .int v)] [] (hp (st_cp σ (gE σ 70) m i)) q := by
  refine ev_x (i := .iload_n 3) (len := 1) (p' := 24) (s' := [.int (nI i)]) rfl rfl rfl ?_
  refine ev_x (i := .aload_n 0) (len := 1) (p' := 25) (s' := [.ref 69, .int (nI i)]) rfl rfl rfl ?_
  refine ev_gi (p' := 28) (v := nI n) rfl rfl rfl ly_69 rfl rfl hi_69_1 ?_
  refine ev_b2 (t := 46) (p' := 31) rfl rfl rfl (if_neg (nI_ge hi (by omega))) ?_
  refine ev_x (i := .aload_n 2) (len := 1) (p' := 32) (s' := [.ref (gC σ + 1 + 187)]) rfl rfl rfl ?_
  refine ev_x (i := .iload_n 3) (len := 1) (p' := 33) (s' := [.int (nI i), .ref (gC σ + 1 + 187)]) rfl rfl rfl ?_
  refine ev_x (i := .aload_n 0) (len := 1) (p' := 34) (s' := [.ref 69, .int (nI i), .ref (gC σ + 1 + 187)]) rfl rfl rfl ?_
  refine ev_gc (p' := 37) (v := 70) rfl rfl rfl ly_69 rfl rfl ?_
  refine ev_x (i := .iload_n 3) (len := 1) (p' := 38) (s' := [.int (nI i), .ref 70, .int (nI i), .ref (gC σ + 1 + 187)]) rfl rfl rfl ?_
  refine ev_ga (p' := 39) (v := (gE σ 70) i) rfl rfl ly_70 rfl (show vp_in (nI i) (gN σ 70) by rw [hn_70]; exact vp_in_nI hi (by omega)) (congrArg (gE σ 70) (nI_clamp (by omega))) ?_
  refine ev_iast (n := m) (f := fun j => if j < i then (gE σ 70) j else 0) rfl rfl (decide_eq_true (by omega)) (cp_arr σ _ m i) (vp_in_nI (by omega) hm) ?_
  refine ev_hp (μ' := vz_upd (hp (st_cp σ (gE σ 70) m i)) (gC σ + 1 + 187) (.inl (0, m, .inl (upd (fun j => if j < i then (gE σ 70) j else 0) i ((gE σ 70) i))))) (congrArg (fun z => vz_upd (hp (st_cp σ (gE σ 70) m i)) (gC σ + 1 + 187) (.inl (0, m, .inl (upd (fun j => if j < i then (gE σ 70) j else 0) z ((gE σ 70) i))))) (nI_clamp (n := i) (by omega))) ?_
  refine ev_hp (st_h_x _ _ (ly_out (Or.inr (by omega)))) ?_
  refine ev_hs (st_cp_x σ _ m i) ?_
  refine ev_x (i := .iinc 3 1) (len := 3) (p' := 43) (l' := [(3, .int (nI i + 1)), (2, .ref (gC σ + 1 + 187)), (0, .ref 69), (1, .int v)]) (s' := []) rfl rfl rfl ?_
  refine ev_lv (lv' := [(3, .int (nI (i + 1))), (2, .ref (gC σ + 1 + 187)), (0, .ref 69), (1, .int v)]) (congrArg (fun z => [(3, Value.int z), (2, .ref (gC σ + 1 + 187)), (0, .ref 69), (1, .int v)]) (nI_1 i)) ?_
  exact ev_x (i := .goto (-20)) (len := 3) (p' := 23) (s' := []) rfl rfl rfl h
set_option maxHeartbeats 4000000 in
set_option maxRecDepth 100000 in
theorem cp_loop_69 {d : Nat} {σ : st_S} {n m : Nat} {v : Int32} {q : vz_O × vz_H} (hnm : n ≤ m) (hm : m < 2 ^ 31) (hi_69_1 : σ.1 69 1 = nI n) (hn_70 : (gN σ 70) = n)
    (h : vz_ev P0 d 133 46 [(3, .int (nI n)), (2, .ref (gC σ + 1 + 187)), (0, .ref 69), (1, .int v)] [] (hp (st_cp σ (gE σ 70) m n)) q) : ∀ k i : Nat, i + k = n → vz_ev P0 d 133 23 [(3, .int (nI i)), (2, .ref (gC σ + 1 + 187)), (0, .ref 69), (1, .int v)] [] (hp (st_cp σ (gE σ 70) m i)) q := by
  intro k
  induction k with
  | zero =>
    intro i hi
    have e : i = n := by omega
    subst e
    refine ev_x (i := .iload_n 3) (len := 1) (p' := 24) (s' := [.int (nI i)]) rfl rfl rfl ?_
    refine ev_x (i := .aload_n 0) (len := 1) (p' := 25) (s' := [.ref 69, .int (nI i)]) rfl rfl rfl ?_
    refine ev_gi (p' := 28) (v := nI i) rfl rfl rfl ly_69 rfl rfl hi_69_1 ?_
    exact ev_b2 (t := 46) (p' := 46) rfl rfl rfl (if_pos (nI_le (Nat.le_refl _) (by omega))) h
  | succ k ih =>
    intro i hi
    exact cp_step_69 hnm hm hi_69_1 hn_70 (by omega) (ih (i + 1) (by omega))
set_option maxHeartbeats 4000000 in
set_option maxRecDepth 100000 in
theorem add_g_69 {d : Nat} {σ : st_S} {n : Nat} {v : Int32} (h0 : 0 < n) (hm : n < 50000000) (hq : gC σ + 188 < vz_M0) (hi_69_1 : σ.1 69 1 = nI n) (hn_70 : (gN σ 70) = n) : vz_ev P0 (d + 1) 133 0 (lv_args 0 [.ref 69, .int v]) [] (hp σ) (.inl none, hp (st_i (st_e (st_gw σ 70 n (2 * n)) 70 n v) 69 1 (nI (n + 1)))) := by
  refine ev_x (i := .aload_n 0) (len := 1) (p' := 1) (s' := [.ref 69]) rfl rfl rfl ?_
  refine ev_gi (p' := 4) (v := nI n) rfl rfl rfl ly_69 rfl rfl hi_69_1 ?_
  refine ev_x (i := .aload_n 0) (len := 1) (p' := 5) (s' := [.ref 69, .int (nI n)]) rfl rfl rfl ?_
  refine ev_gc (p' := 8) (v := 70) rfl rfl rfl ly_69 rfl rfl ?_
  refine ev_al (p' := 9) (v := nI n) rfl rfl ly_70 (by decide) (by decide) rfl (congrArg Int32.ofNat hn_70) ?_
  refine ev_b2 (t := 51) (p' := 12) rfl rfl rfl (if_neg (fun e => e rfl)) ?_
  refine ev_x (i := .iconst 2) (len := 1) (p' := 13) (s' := [.int (nI 2)]) rfl rfl rfl ?_
  refine ev_x (i := .aload_n 0) (len := 1) (p' := 14) (s' := [.ref 69, .int (nI 2)]) rfl rfl rfl ?_
  refine ev_gi (p' := 17) (v := nI n) rfl rfl rfl ly_69 rfl rfl hi_69_1 ?_
  refine ev_x (i := .imul) (len := 1) (p' := 18) (s' := [.int (nI 2 * nI n)]) rfl rfl rfl ?_
  refine ev_nw (m := 2 * n) (p' := 20) rfl rfl (pk_mul 2 n) (by omega) hq rfl ?_
  refine ev_x (i := .astore_n 2) (len := 1) (p' := 21) (l' := [(2, .ref (gC σ + 1 + 187)), (0, .ref 69), (1, .int v)]) (s' := []) rfl rfl rfl ?_
  refine ev_x (i := .iconst 0) (len := 1) (p' := 22) (s' := [.int (nI 0)]) rfl rfl rfl ?_
  refine ev_x (i := .istore_n 3) (len := 1) (p' := 23) (l' := [(3, .int (nI 0)), (2, .ref (gC σ + 1 + 187)), (0, .ref 69), (1, .int v)]) (s' := []) rfl rfl rfl ?_
  refine ev_hs (st_cp_0 σ (gE σ 70) (2 * n)) ?_
  refine cp_loop_69 (by omega) (by omega) hi_69_1 hn_70 ?_ n 0 (by omega)
  refine ev_x (i := .aload_n 0) (len := 1) (p' := 47) (s' := [.ref 69]) rfl rfl rfl ?_
  refine ev_x (i := .aload_n 2) (len := 1) (p' := 48) (s' := [.ref (gC σ + 1 + 187), .ref 69]) rfl rfl rfl ?_
  refine ev_pg (k := 70) (p' := 51) (lv' := [(3, .int (nI n)), (0, .ref 69), (1, .int v)]) rfl rfl rfl ly_69 rfl ly_70 (by omega) (show gC σ + 1 + 187 < vz_M0 by omega) rfl rfl rfl (cp_arr σ _ (2 * n) n) rfl ?_ rfl ?_
  · show List.filter (fun q => vz_nb (vz_gr P0) q.2) [(3, Value.int (nI n)), (2, .ref (gC σ + 1 + 187)), (0, .ref 69), (1, .int v)] = _
    rw [List.filter_cons_of_pos rfl, List.filter_cons_of_neg (by show ¬ vz_nb (vz_gr P0) (.ref (gC σ + 1 + 187)) = true; rw [nb_no (by omega) (show gC σ + 1 + 187 < vz_M0 by omega)]; exact Bool.false_ne_true)]
    rfl
  refine ev_hs (σ' := st_gw σ 70 n (2 * n)) rfl ?_
  refine ev_x (i := .aload_n 0) (len := 1) (p' := 52) (s' := [.ref 69]) rfl rfl rfl ?_
  refine ev_gc (p' := 55) (v := 70) rfl rfl rfl ly_69 rfl rfl ?_
  refine ev_x (i := .aload_n 0) (len := 1) (p' := 56) (s' := [.ref 69, .ref 70]) rfl rfl rfl ?_
  refine ev_gi (p' := 59) (v := nI n) rfl rfl rfl ly_69 rfl rfl hi_69_1 ?_
  refine ev_x (i := .iload_n 1) (len := 1) (p' := 60) (s' := [.int v, .int (nI n), .ref 70]) rfl rfl rfl ?_
  refine ev_pa (j := n) (p' := 61) rfl rfl ly_70 rfl (show vp_in (nI n) (2 * n) from vp_in_nI (by omega) (by omega)) (nI_clamp (by omega)) ?_
  refine ev_x (i := .aload_n 0) (len := 1) (p' := 62) (s' := [.ref 69]) rfl rfl rfl ?_
  refine ev_x (i := .aload_n 0) (len := 1) (p' := 63) (s' := [.ref 69, .ref 69]) rfl rfl rfl ?_
  refine ev_gi (p' := 66) (v := nI n) rfl rfl rfl ly_69 rfl rfl hi_69_1 ?_
  refine ev_x (i := .iconst 1) (len := 1) (p' := 67) (s' := [.int 1, .int (nI n), .ref 69]) rfl rfl rfl ?_
  refine ev_x (i := .iadd) (len := 1) (p' := 68) (s' := [.int (nI n + 1), .ref 69]) rfl rfl rfl ?_
  refine ev_st (st' := [.int (nI (n + 1)), .ref 69]) (congrArg (fun z => [Value.int z, .ref 69]) (nI_1 n)) ?_
  refine ev_pi (p' := 71) rfl rfl rfl ly_69 rfl rfl rfl rfl ?_
  exact ev_vret rfl rfl rfl
