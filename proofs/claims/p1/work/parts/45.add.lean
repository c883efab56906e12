/-! Numbers.add. Written by wip/prog/gen_add.py -/
/-- a fresh array of m ints, the first i of f copied -/
def st_cp (σ : st_S) (f : Nat → Int32) (m i : Nat) : st_S := st_w σ (.inl (0, m, .inl fun j => if j < i then f j else 0)) m
theorem st_cp_0 (σ : st_S) (f : Nat → Int32) (m : Nat) : st_w σ (.inl (0, m, .inl fun _ => 0)) m = st_cp σ f m 0 := by
  have e : (fun j => if j < 0 then f j else 0) = (fun _ => (0 : Int32)) := funext fun j => if_neg (Nat.not_lt_zero j)
  unfold st_cp
  rw [e]
theorem st_cp_x (σ : st_S) (f : Nat → Int32) (m i : Nat) : st_x (st_cp σ f m i) (σ.2.2.2.2.2.1 + 1 + 187) (.inl (0, m, .inl (upd (fun j => if j < i then f j else 0) i (f i)))) = st_cp σ f m (i + 1) := by
  unfold st_cp st_x st_w
  have e : upd (fun j => if j < i then f j else 0) i (f i) = fun j => if j < i + 1 then f j else 0 := by
    funext j
    show (if j = i then f i else if j < i then f j else 0) = if j < i + 1 then f j else 0
    by_cases e1 : j = i
    · subst e1
      rw [if_pos rfl, if_pos (by omega)]
    · rw [if_neg e1]
      by_cases e2 : j < i
      · rw [if_pos e2, if_pos (by omega)]
      · rw [if_neg e2, if_neg (by omega)]
  rw [e]
  show (_, _, _, _, _, _, va_up (va_up _ _ _) _ _, _, _) = _
  rw [va_up_up]
/-- the store with its array b grown from n to m: the old contents lie in the fresh cell -/
def st_gw (σ : st_S) (b n m : Nat) : st_S := st_x (st_a (st_cp σ (σ.2.2.2.1 b).2 m n) b (m, fun j => if j < n then (σ.2.2.2.1 b).2 j else 0)) (σ.2.2.2.2.2.1 + 1 + 187) (.inl (0, (σ.2.2.2.1 b).1, .inl (σ.2.2.2.1 b).2))
theorem cp_arr (σ : st_S) (f : Nat → Int32) (m i : Nat) : vz_arr (hp (st_cp σ f m i)) (σ.2.2.2.2.2.1 + 1 + 187) = some (0, m, .inl fun j => if j < i then f j else 0) :=
  hp_out (st_cp σ f m i) (ly_out (Or.inr (by omega))) (Nat.le_refl _) (va_up_self _ _ _)
set_option maxHeartbeats 4000000 in
set_option maxRecDepth 100000 in
theorem add_n_67 {d : Nat} {σ : st_S} {n m : Nat} {v : Int32} (hm : m < 2 ^ 31) (h : n < m) (hi_67_1 : σ.1 67 1 = nI n) (hn_68 : (σ.2.2.2.1 68).1 = m) : vz_ev P0 (d + 1) 133 0 (lv_args 0 [.ref 67, .int v]) [] (hp σ) (.inl none, hp (st_i (st_e σ 68 n v) 67 1 (nI (n + 1)))) := by
  refine ev_x (i := .aload_n 0) (len := 1) (p' := 1) (s' := [.ref 67]) rfl rfl rfl ?_
  refine ev_gi (p' := 4) (v := nI n) rfl rfl rfl ly_67 rfl rfl hi_67_1 ?_
  refine ev_x (i := .aload_n 0) (len := 1) (p' := 5) (s' := [.ref 67, .int (nI n)]) rfl rfl rfl ?_
  refine ev_gc (p' := 8) (v := 68) rfl rfl rfl ly_67 rfl rfl ?_
  refine ev_al (p' := 9) (v := nI m) rfl rfl ly_68 (by decide) (by decide) rfl (congrArg Int32.ofNat hn_68) ?_
  refine ev_b2 (t := 51) (p' := 51) rfl rfl rfl (if_pos (fun e => Nat.ne_of_lt h ((nI_eq (by omega) hm).mp e))) ?_
  refine ev_x (i := .aload_n 0) (len := 1) (p' := 52) (s' := [.ref 67]) rfl rfl rfl ?_
  refine ev_gc (p' := 55) (v := 68) rfl rfl rfl ly_67 rfl rfl ?_
  refine ev_x (i := .aload_n 0) (len := 1) (p' := 56) (s' := [.ref 67, .ref 68]) rfl rfl rfl ?_
  refine ev_gi (p' := 59) (v := nI n) rfl rfl rfl ly_67 rfl rfl hi_67_1 ?_
  refine ev_x (i := .iload_n 1) (len := 1) (p' := 60) (s' := [.int v, .int (nI n), .ref 68]) rfl rfl rfl ?_
  refine ev_pa (j := n) (p' := 61) rfl rfl ly_68 rfl (by rw [hn_68]; exact vp_in_nI h hm) (nI_clamp (by omega)) ?_
  refine ev_x (i := .aload_n 0) (len := 1) (p' := 62) (s' := [.ref 67]) rfl rfl rfl ?_
  refine ev_x (i := .aload_n 0) (len := 1) (p' := 63) (s' := [.ref 67, .ref 67]) rfl rfl rfl ?_
  refine ev_gi (p' := 66) (v := nI n) rfl rfl rfl ly_67 rfl rfl hi_67_1 ?_
  refine ev_x (i := .iconst 1) (len := 1) (p' := 67) (s' := [.int 1, .int (nI n), .ref 67]) rfl rfl rfl ?_
  refine ev_x (i := .iadd) (len := 1) (p' := 68) (s' := [.int (nI n + 1), .ref 67]) rfl rfl rfl ?_
  refine ev_st (st' := [.int (nI (n + 1)), .ref 67]) (congrArg (fun z => [Value.int z, .ref 67]) (nI_1 n)) ?_
  refine ev_pi (p' := 71) rfl rfl rfl ly_67 rfl rfl rfl rfl ?_
  exact ev_vret rfl rfl rfl
set_option maxHeartbeats 4000000 in
set_option maxRecDepth 100000 in
theorem cp_step_67 {d : Nat} {σ : st_S} {n m i : Nat} {v : Int32} {q : vz_O × vz_H} (hnm : n ≤ m) (hm : m < 2 ^ 31) (hi_67_1 : σ.1 67 1 = nI n) (hn_68 : (σ.2.2.2.1 68).1 = n) (hi : i < n)
    (h : vz_ev P0 d 133 23 [(3, .int (nI (i + 1))), (2, .ref (σ.2.2.2.2.2.1 + 1 + 187)), (0, .ref 67), (1, .int v)] [] (hp (st_cp σ (σ.2.2.2.1 68).2 m (i + 1))) q) : vz_ev P0 d 133 23 [(3, .int (nI i)), (2, .ref (σ.2.2.2.2.2.1 + 1 + 187)), (0, .ref 67), (1, .int v)] [] (hp (st_cp σ (σ.2.2.2.1 68).2 m i)) q := by
  refine ev_x (i := .iload_n 3) (len := 1) (p' := 24) (s' := [.int (nI i)]) rfl rfl rfl ?_
  refine ev_x (i := .aload_n 0) (len := 1) (p' := 25) (s' := [.ref 67, .int (nI i)]) rfl rfl rfl ?_
  refine ev_gi (p' := 28) (v := nI n) rfl rfl rfl ly_67 rfl rfl hi_67_1 ?_
  refine ev_b2 (t := 46) (p' := 31) rfl rfl rfl (if_neg (nI_ge hi (by omega))) ?_
  refine ev_x (i := .aload_n 2) (len := 1) (p' := 32) (s' := [.ref (σ.2.2.2.2.2.1 + 1 + 187)]) rfl rfl rfl ?_
  refine ev_x (i := .iload_n 3) (len := 1) (p' := 33) (s' := [.int (nI i), .ref (σ.2.2.2.2.2.1 + 1 + 187)]) rfl rfl rfl ?_
  refine ev_x (i := .aload_n 0) (len := 1) (p' := 34) (s' := [.ref 67, .int (nI i), .ref (σ.2.2.2.2.2.1 + 1 + 187)]) rfl rfl rfl ?_
  refine ev_gc (p' := 37) (v := 68) rfl rfl rfl ly_67 rfl rfl ?_
  refine ev_x (i := .iload_n 3) (len := 1) (p' := 38) (s' := [.int (nI i), .ref 68, .int (nI i), .ref (σ.2.2.2.2.2.1 + 1 + 187)]) rfl rfl rfl ?_
  refine ev_ga (p' := 39) (v := (σ.2.2.2.1 68).2 i) rfl rfl ly_68 rfl (show vp_in (nI i) (σ.2.2.2.1 68).1 by rw [hn_68]; exact vp_in_nI hi (by omega)) (congrArg (σ.2.2.2.1 68).2 (nI_clamp (by omega))) ?_
  refine ev_iast (n := m) (f := fun j => if j < i then (σ.2.2.2.1 68).2 j else 0) rfl rfl (decide_eq_true (by omega)) (cp_arr σ _ m i) (vp_in_nI (by omega) hm) ?_
  refine ev_hp (μ' := vz_upd (hp (st_cp σ (σ.2.2.2.1 68).2 m i)) (σ.2.2.2.2.2.1 + 1 + 187) (.inl (0, m, .inl (upd (fun j => if j < i then (σ.2.2.2.1 68).2 j else 0) i ((σ.2.2.2.1 68).2 i))))) (congrArg (fun z => vz_upd (hp (st_cp σ (σ.2.2.2.1 68).2 m i)) (σ.2.2.2.2.2.1 + 1 + 187) (.inl (0, m, .inl (upd (fun j => if j < i then (σ.2.2.2.1 68).2 j else 0) z ((σ.2.2.2.1 68).2 i))))) (nI_clamp (n := i) (by omega))) ?_
  refine ev_hp (st_h_x _ _ (ly_out (Or.inr (by omega)))) ?_
  refine ev_hs (st_cp_x σ _ m i) ?_
  refine ev_x (i := .iinc 3 1) (len := 3) (p' := 43) (l' := [(3, .int (nI i + 1)), (2, .ref (σ.2.2.2.2.2.1 + 1 + 187)), (0, .ref 67), (1, .int v)]) (s' := []) rfl rfl rfl ?_
  refine ev_lv (lv' := [(3, .int (nI (i + 1))), (2, .ref (σ.2.2.2.2.2.1 + 1 + 187)), (0, .ref 67), (1, .int v)]) (congrArg (fun z => [(3, Value.int z), (2, .ref (σ.2.2.2.2.2.1 + 1 + 187)), (0, .ref 67), (1, .int v)]) (nI_1 i)) ?_
  exact ev_x (i := .goto (-20)) (len := 3) (p' := 23) (s' := []) rfl rfl rfl h
set_option maxHeartbeats 4000000 in
set_option maxRecDepth 100000 in
theorem cp_loop_67 {d : Nat} {σ : st_S} {n m : Nat} {v : Int32} {q : vz_O × vz_H} (hnm : n ≤ m) (hm : m < 2 ^ 31) (hi_67_1 : σ.1 67 1 = nI n) (hn_68 : (σ.2.2.2.1 68).1 = n)
    (h : vz_ev P0 d 133 46 [(3, .int (nI n)), (2, .ref (σ.2.2.2.2.2.1 + 1 + 187)), (0, .ref 67), (1, .int v)] [] (hp (st_cp σ (σ.2.2.2.1 68).2 m n)) q) : ∀ k i : Nat, i + k = n → vz_ev P0 d 133 23 [(3, .int (nI i)), (2, .ref (σ.2.2.2.2.2.1 + 1 + 187)), (0, .ref 67), (1, .int v)] [] (hp (st_cp σ (σ.2.2.2.1 68).2 m i)) q := by
  intro k
  induction k with
  | zero =>
    intro i hi
    have e : i = n := by omega
    subst e
    refine ev_x (i := .iload_n 3) (len := 1) (p' := 24) (s' := [.int (nI i)]) rfl rfl rfl ?_
    refine ev_x (i := .aload_n 0) (len := 1) (p' := 25) (s' := [.ref 67, .int (nI i)]) rfl rfl rfl ?_
    refine ev_gi (p' := 28) (v := nI i) rfl rfl rfl ly_67 rfl rfl hi_67_1 ?_
    exact ev_b2 (t := 46) (p' := 46) rfl rfl rfl (if_pos (nI_le (Nat.le_refl _) (by omega))) h
  | succ k ih =>
    intro i hi
    exact cp_step_67 hnm hm hi_67_1 hn_68 (by omega) (ih (i + 1) (by omega))
set_option maxHeartbeats 4000000 in
set_option maxRecDepth 100000 in
theorem add_g_67 {d : Nat} {σ : st_S} {n : Nat} {v : Int32} (h0 : 0 < n) (hm : n < 50000000) (hq : σ.2.2.2.2.2.1 + 188 < vz_M0) (hi_67_1 : σ.1 67 1 = nI n) (hn_68 : (σ.2.2.2.1 68).1 = n) : vz_ev P0 (d + 1) 133 0 (lv_args 0 [.ref 67, .int v]) [] (hp σ) (.inl none, hp (st_i (st_e (st_gw σ 68 n (2 * n)) 68 n v) 67 1 (nI (n + 1)))) := by
  refine ev_x (i := .aload_n 0) (len := 1) (p' := 1) (s' := [.ref 67]) rfl rfl rfl ?_
  refine ev_gi (p' := 4) (v := nI n) rfl rfl rfl ly_67 rfl rfl hi_67_1 ?_
  refine ev_x (i := .aload_n 0) (len := 1) (p' := 5) (s' := [.ref 67, .int (nI n)]) rfl rfl rfl ?_
  refine ev_gc (p' := 8) (v := 68) rfl rfl rfl ly_67 rfl rfl ?_
  refine ev_al (p' := 9) (v := nI n) rfl rfl ly_68 (by decide) (by decide) rfl (congrArg Int32.ofNat hn_68) ?_
  refine ev_b2 (t := 51) (p' := 12) rfl rfl rfl (if_neg (fun e => e rfl)) ?_
  refine ev_x (i := .iconst 2) (len := 1) (p' := 13) (s' := [.int (nI 2)]) rfl rfl rfl ?_
  refine ev_x (i := .aload_n 0) (len := 1) (p' := 14) (s' := [.ref 67, .int (nI 2)]) rfl rfl rfl ?_
  refine ev_gi (p' := 17) (v := nI n) rfl rfl rfl ly_67 rfl rfl hi_67_1 ?_
  refine ev_x (i := .imul) (len := 1) (p' := 18) (s' := [.int (nI 2 * nI n)]) rfl rfl rfl ?_
  refine ev_nw (m := 2 * n) (p' := 20) rfl rfl (pk_mul 2 n) (by omega) hq rfl ?_
  refine ev_x (i := .astore_n 2) (len := 1) (p' := 21) (l' := [(2, .ref (σ.2.2.2.2.2.1 + 1 + 187)), (0, .ref 67), (1, .int v)]) (s' := []) rfl rfl rfl ?_
  refine ev_x (i := .iconst 0) (len := 1) (p' := 22) (s' := [.int (nI 0)]) rfl rfl rfl ?_
  refine ev_x (i := .istore_n 3) (len := 1) (p' := 23) (l' := [(3, .int (nI 0)), (2, .ref (σ.2.2.2.2.2.1 + 1 + 187)), (0, .ref 67), (1, .int v)]) (s' := []) rfl rfl rfl ?_
  refine ev_hs (st_cp_0 σ (σ.2.2.2.1 68).2 (2 * n)) ?_
  refine cp_loop_67 (by omega) (by omega) hi_67_1 hn_68 ?_ n 0 (by omega)
  refine ev_x (i := .aload_n 0) (len := 1) (p' := 47) (s' := [.ref 67]) rfl rfl rfl ?_
  refine ev_x (i := .aload_n 2) (len := 1) (p' := 48) (s' := [.ref (σ.2.2.2.2.2.1 + 1 + 187), .ref 67]) rfl rfl rfl ?_
  refine ev_pg (k := 68) (p' := 51) (lv' := [(3, .int (nI n)), (0, .ref 67), (1, .int v)]) rfl rfl rfl ly_67 rfl ly_68 (by omega) (show σ.2.2.2.2.2.1 + 1 + 187 < vz_M0 by omega) rfl rfl rfl (cp_arr σ _ (2 * n) n) rfl ?_ rfl ?_
  · show List.filter (fun q => vz_nb (vz_gr P0) q.2) [(3, Value.int (nI n)), (2, .ref (σ.2.2.2.2.2.1 + 1 + 187)), (0, .ref 67), (1, .int v)] = _
    rw [List.filter_cons_of_pos rfl, List.filter_cons_of_neg (by show ¬ vz_nb (vz_gr P0) (.ref (σ.2.2.2.2.2.1 + 1 + 187)) = true; rw [nb_no (by omega) (show σ.2.2.2.2.2.1 + 1 + 187 < vz_M0 by omega)]; exact Bool.false_ne_true)]
    rfl
  refine ev_hs (σ' := st_gw σ 68 n (2 * n)) rfl ?_
  refine ev_x (i := .aload_n 0) (len := 1) (p' := 52) (s' := [.ref 67]) rfl rfl rfl ?_
  refine ev_gc (p' := 55) (v := 68) rfl rfl rfl ly_67 rfl rfl ?_
  refine ev_x (i := .aload_n 0) (len := 1) (p' := 56) (s' := [.ref 67, .ref 68]) rfl rfl rfl ?_
  refine ev_gi (p' := 59) (v := nI n) rfl rfl rfl ly_67 rfl rfl hi_67_1 ?_
  refine ev_x (i := .iload_n 1) (len := 1) (p' := 60) (s' := [.int v, .int (nI n), .ref 68]) rfl rfl rfl ?_
  refine ev_pa (j := n) (p' := 61) rfl rfl ly_68 rfl (show vp_in (nI n) (2 * n) from vp_in_nI (by omega) (by omega)) (nI_clamp (by omega)) ?_
  refine ev_x (i := .aload_n 0) (len := 1) (p' := 62) (s' := [.ref 67]) rfl rfl rfl ?_
  refine ev_x (i := .aload_n 0) (len := 1) (p' := 63) (s' := [.ref 67, .ref 67]) rfl rfl rfl ?_
  refine ev_gi (p' := 66) (v := nI n) rfl rfl rfl ly_67 rfl rfl hi_67_1 ?_
  refine ev_x (i := .iconst 1) (len := 1) (p' := 67) (s' := [.int 1, .int (nI n), .ref 67]) rfl rfl rfl ?_
  refine ev_x (i := .iadd) (len := 1) (p' := 68) (s' := [.int (nI n + 1), .ref 67]) rfl rfl rfl ?_
  refine ev_st (st' := [.int (nI (n + 1)), .ref 67]) (congrArg (fun z => [Value.int z, .ref 67]) (nI_1 n)) ?_
  refine ev_pi (p' := 71) rfl rfl rfl ly_67 rfl rfl rfl rfl ?_
  exact ev_vret rfl rfl rfl
set_option maxHeartbeats 4000000 in
set_option maxRecDepth 100000 in
theorem add_n_71 {d : Nat} {σ : st_S} {n m : Nat} {v : Int32} (hm : m < 2 ^ 31) (h : n < m) (hi_71_1 : σ.1 71 1 = nI n) (hn_72 : (σ.2.2.2.1 72).1 = m) : vz_ev P0 (d + 1) 133 0 (lv_args 0 [.ref 71, .int v]) [] (hp σ) (.inl none, hp (st_i (st_e σ 72 n v) 71 1 (nI (n + 1)))) := by
  refine ev_x (i := .aload_n 0) (len := 1) (p' := 1) (s' := [.ref 71]) rfl rfl rfl ?_
  refine ev_gi (p' := 4) (v := nI n) rfl rfl rfl ly_71 rfl rfl hi_71_1 ?_
  refine ev_x (i := .aload_n 0) (len := 1) (p' := 5) (s' := [.ref 71, .int (nI n)]) rfl rfl rfl ?_
  refine ev_gc (p' := 8) (v := 72) rfl rfl rfl ly_71 rfl rfl ?_
  refine ev_al (p' := 9) (v := nI m) rfl rfl ly_72 (by decide) (by decide) rfl (congrArg Int32.ofNat hn_72) ?_
  refine ev_b2 (t := 51) (p' := 51) rfl rfl rfl (if_pos (fun e => Nat.ne_of_lt h ((nI_eq (by omega) hm).mp e))) ?_
  refine ev_x (i := .aload_n 0) (len := 1) (p' := 52) (s' := [.ref 71]) rfl rfl rfl ?_
  refine ev_gc (p' := 55) (v := 72) rfl rfl rfl ly_71 rfl rfl ?_
  refine ev_x (i := .aload_n 0) (len := 1) (p' := 56) (s' := [.ref 71, .ref 72]) rfl rfl rfl ?_
  refine ev_gi (p' := 59) (v := nI n) rfl rfl rfl ly_71 rfl rfl hi_71_1 ?_
  refine ev_x (i := .iload_n 1) (len := 1) (p' := 60) (s' := [.int v, .int (nI n), .ref 72]) rfl rfl rfl ?_
  refine ev_pa (j := n) (p' := 61) rfl rfl ly_72 rfl (by rw [hn_72]; exact vp_in_nI h hm) (nI_clamp (by omega)) ?_
  refine ev_x (i := .aload_n 0) (len := 1) (p' := 62) (s' := [.ref 71]) rfl rfl rfl ?_
  refine ev_x (i := .aload_n 0) (len := 1) (p' := 63) (s' := [.ref 71, .ref 71]) rfl rfl rfl ?_
  refine ev_gi (p' := 66) (v := nI n) rfl rfl rfl ly_71 rfl rfl hi_71_1 ?_
  refine ev_x (i := .iconst 1) (len := 1) (p' := 67) (s' := [.int 1, .int (nI n), .ref 71]) rfl rfl rfl ?_
  refine ev_x (i := .iadd) (len := 1) (p' := 68) (s' := [.int (nI n + 1), .ref 71]) rfl rfl rfl ?_
  refine ev_st (st' := [.int (nI (n + 1)), .ref 71]) (congrArg (fun z => [Value.int z, .ref 71]) (nI_1 n)) ?_
  refine ev_pi (p' := 71) rfl rfl rfl ly_71 rfl rfl rfl rfl ?_
  exact ev_vret rfl rfl rfl
set_option maxHeartbeats 4000000 in
set_option maxRecDepth 100000 in
theorem cp_step_71 {d : Nat} {σ : st_S} {n m i : Nat} {v : Int32} {q : vz_O × vz_H} (hnm : n ≤ m) (hm : m < 2 ^ 31) (hi_71_1 : σ.1 71 1 = nI n) (hn_72 : (σ.2.2.2.1 72).1 = n) (hi : i < n)
    (h : vz_ev P0 d 133 23 [(3, .int (nI (i + 1))), (2, .ref (σ.2.2.2.2.2.1 + 1 + 187)), (0, .ref 71), (1, .int v)] [] (hp (st_cp σ (σ.2.2.2.1 72).2 m (i + 1))) q) : vz_ev P0 d 133 23 [(3, .int (nI i)), (2, .ref (σ.2.2.2.2.2.1 + 1 + 187)), (0, .ref 71), (1, .int v)] [] (hp (st_cp σ (σ.2.2.2.1 72).2 m i)) q := by
  refine ev_x (i := .iload_n 3) (len := 1) (p' := 24) (s' := [.int (nI i)]) rfl rfl rfl ?_
  refine ev_x (i := .aload_n 0) (len := 1) (p' := 25) (s' := [.ref 71, .int (nI i)]) rfl rfl rfl ?_
  refine ev_gi (p' := 28) (v := nI n) rfl rfl rfl ly_71 rfl rfl hi_71_1 ?_
  refine ev_b2 (t := 46) (p' := 31) rfl rfl rfl (if_neg (nI_ge hi (by omega))) ?_
  refine ev_x (i := .aload_n 2) (len := 1) (p' := 32) (s' := [.ref (σ.2.2.2.2.2.1 + 1 + 187)]) rfl rfl rfl ?_
  refine ev_x (i := .iload_n 3) (len := 1) (p' := 33) (s' := [.int (nI i), .ref (σ.2.2.2.2.2.1 + 1 + 187)]) rfl rfl rfl ?_
  refine ev_x (i := .aload_n 0) (len := 1) (p' := 34) (s' := [.ref 71, .int (nI i), .ref (σ.2.2.2.2.2.1 + 1 + 187)]) rfl rfl rfl ?_
  refine ev_gc (p' := 37) (v := 72) rfl rfl rfl ly_71 rfl rfl ?_
  refine ev_x (i := .iload_n 3) (len := 1) (p' := 38) (s' := [.int (nI i), .ref 72, .int (nI i), .ref (σ.2.2.2.2.2.1 + 1 + 187)]) rfl rfl rfl ?_
  refine ev_ga (p' := 39) (v := (σ.2.2.2.1 72).2 i) rfl rfl ly_72 rfl (show vp_in (nI i) (σ.2.2.2.1 72).1 by rw [hn_72]; exact vp_in_nI hi (by omega)) (congrArg (σ.2.2.2.1 72).2 (nI_clamp (by omega))) ?_
  refine ev_iast (n := m) (f := fun j => if j < i then (σ.2.2.2.1 72).2 j else 0) rfl rfl (decide_eq_true (by omega)) (cp_arr σ _ m i) (vp_in_nI (by omega) hm) ?_
  refine ev_hp (μ' := vz_upd (hp (st_cp σ (σ.2.2.2.1 72).2 m i)) (σ.2.2.2.2.2.1 + 1 + 187) (.inl (0, m, .inl (upd (fun j => if j < i then (σ.2.2.2.1 72).2 j else 0) i ((σ.2.2.2.1 72).2 i))))) (congrArg (fun z => vz_upd (hp (st_cp σ (σ.2.2.2.1 72).2 m i)) (σ.2.2.2.2.2.1 + 1 + 187) (.inl (0, m, .inl (upd (fun j => if j < i then (σ.2.2.2.1 72).2 j else 0) z ((σ.2.2.2.1 72).2 i))))) (nI_clamp (n := i) (by omega))) ?_
  refine ev_hp (st_h_x _ _ (ly_out (Or.inr (by omega)))) ?_
  refine ev_hs (st_cp_x σ _ m i) ?_
  refine ev_x (i := .iinc 3 1) (len := 3) (p' := 43) (l' := [(3, .int (nI i + 1)), (2, .ref (σ.2.2.2.2.2.1 + 1 + 187)), (0, .ref 71), (1, .int v)]) (s' := []) rfl rfl rfl ?_
  refine ev_lv (lv' := [(3, .int (nI (i + 1))), (2, .ref (σ.2.2.2.2.2.1 + 1 + 187)), (0, .ref 71), (1, .int v)]) (congrArg (fun z => [(3, Value.int z), (2, .ref (σ.2.2.2.2.2.1 + 1 + 187)), (0, .ref 71), (1, .int v)]) (nI_1 i)) ?_
  exact ev_x (i := .goto (-20)) (len := 3) (p' := 23) (s' := []) rfl rfl rfl h
set_option maxHeartbeats 4000000 in
set_option maxRecDepth 100000 in
theorem cp_loop_71 {d : Nat} {σ : st_S} {n m : Nat} {v : Int32} {q : vz_O × vz_H} (hnm : n ≤ m) (hm : m < 2 ^ 31) (hi_71_1 : σ.1 71 1 = nI n) (hn_72 : (σ.2.2.2.1 72).1 = n)
    (h : vz_ev P0 d 133 46 [(3, .int (nI n)), (2, .ref (σ.2.2.2.2.2.1 + 1 + 187)), (0, .ref 71), (1, .int v)] [] (hp (st_cp σ (σ.2.2.2.1 72).2 m n)) q) : ∀ k i : Nat, i + k = n → vz_ev P0 d 133 23 [(3, .int (nI i)), (2, .ref (σ.2.2.2.2.2.1 + 1 + 187)), (0, .ref 71), (1, .int v)] [] (hp (st_cp σ (σ.2.2.2.1 72).2 m i)) q := by
  intro k
  induction k with
  | zero =>
    intro i hi
    have e : i = n := by omega
    subst e
    refine ev_x (i := .iload_n 3) (len := 1) (p' := 24) (s' := [.int (nI i)]) rfl rfl rfl ?_
    refine ev_x (i := .aload_n 0) (len := 1) (p' := 25) (s' := [.ref 71, .int (nI i)]) rfl rfl rfl ?_
    refine ev_gi (p' := 28) (v := nI i) rfl rfl rfl ly_71 rfl rfl hi_71_1 ?_
    exact ev_b2 (t := 46) (p' := 46) rfl rfl rfl (if_pos (nI_le (Nat.le_refl _) (by omega))) h
  | succ k ih =>
    intro i hi
    exact cp_step_71 hnm hm hi_71_1 hn_72 (by omega) (ih (i + 1) (by omega))
set_option maxHeartbeats 4000000 in
set_option maxRecDepth 100000 in
theorem add_g_71 {d : Nat} {σ : st_S} {n : Nat} {v : Int32} (h0 : 0 < n) (hm : n < 50000000) (hq : σ.2.2.2.2.2.1 + 188 < vz_M0) (hi_71_1 : σ.1 71 1 = nI n) (hn_72 : (σ.2.2.2.1 72).1 = n) : vz_ev P0 (d + 1) 133 0 (lv_args 0 [.ref 71, .int v]) [] (hp σ) (.inl none, hp (st_i (st_e (st_gw σ 72 n (2 * n)) 72 n v) 71 1 (nI (n + 1)))) := by
  refine ev_x (i := .aload_n 0) (len := 1) (p' := 1) (s' := [.ref 71]) rfl rfl rfl ?_
  refine ev_gi (p' := 4) (v := nI n) rfl rfl rfl ly_71 rfl rfl hi_71_1 ?_
  refine ev_x (i := .aload_n 0) (len := 1) (p' := 5) (s' := [.ref 71, .int (nI n)]) rfl rfl rfl ?_
  refine ev_gc (p' := 8) (v := 72) rfl rfl rfl ly_71 rfl rfl ?_
  refine ev_al (p' := 9) (v := nI n) rfl rfl ly_72 (by decide) (by decide) rfl (congrArg Int32.ofNat hn_72) ?_
  refine ev_b2 (t := 51) (p' := 12) rfl rfl rfl (if_neg (fun e => e rfl)) ?_
  refine ev_x (i := .iconst 2) (len := 1) (p' := 13) (s' := [.int (nI 2)]) rfl rfl rfl ?_
  refine ev_x (i := .aload_n 0) (len := 1) (p' := 14) (s' := [.ref 71, .int (nI 2)]) rfl rfl rfl ?_
  refine ev_gi (p' := 17) (v := nI n) rfl rfl rfl ly_71 rfl rfl hi_71_1 ?_
  refine ev_x (i := .imul) (len := 1) (p' := 18) (s' := [.int (nI 2 * nI n)]) rfl rfl rfl ?_
  refine ev_nw (m := 2 * n) (p' := 20) rfl rfl (pk_mul 2 n) (by omega) hq rfl ?_
  refine ev_x (i := .astore_n 2) (len := 1) (p' := 21) (l' := [(2, .ref (σ.2.2.2.2.2.1 + 1 + 187)), (0, .ref 71), (1, .int v)]) (s' := []) rfl rfl rfl ?_
  refine ev_x (i := .iconst 0) (len := 1) (p' := 22) (s' := [.int (nI 0)]) rfl rfl rfl ?_
  refine ev_x (i := .istore_n 3) (len := 1) (p' := 23) (l' := [(3, .int (nI 0)), (2, .ref (σ.2.2.2.2.2.1 + 1 + 187)), (0, .ref 71), (1, .int v)]) (s' := []) rfl rfl rfl ?_
  refine ev_hs (st_cp_0 σ (σ.2.2.2.1 72).2 (2 * n)) ?_
  refine cp_loop_71 (by omega) (by omega) hi_71_1 hn_72 ?_ n 0 (by omega)
  refine ev_x (i := .aload_n 0) (len := 1) (p' := 47) (s' := [.ref 71]) rfl rfl rfl ?_
  refine ev_x (i := .aload_n 2) (len := 1) (p' := 48) (s' := [.ref (σ.2.2.2.2.2.1 + 1 + 187), .ref 71]) rfl rfl rfl ?_
  refine ev_pg (k := 72) (p' := 51) (lv' := [(3, .int (nI n)), (0, .ref 71), (1, .int v)]) rfl rfl rfl ly_71 rfl ly_72 (by omega) (show σ.2.2.2.2.2.1 + 1 + 187 < vz_M0 by omega) rfl rfl rfl (cp_arr σ _ (2 * n) n) rfl ?_ rfl ?_
  · show List.filter (fun q => vz_nb (vz_gr P0) q.2) [(3, Value.int (nI n)), (2, .ref (σ.2.2.2.2.2.1 + 1 + 187)), (0, .ref 71), (1, .int v)] = _
    rw [List.filter_cons_of_pos rfl, List.filter_cons_of_neg (by show ¬ vz_nb (vz_gr P0) (.ref (σ.2.2.2.2.2.1 + 1 + 187)) = true; rw [nb_no (by omega) (show σ.2.2.2.2.2.1 + 1 + 187 < vz_M0 by omega)]; exact Bool.false_ne_true)]
    rfl
  refine ev_hs (σ' := st_gw σ 72 n (2 * n)) rfl ?_
  refine ev_x (i := .aload_n 0) (len := 1) (p' := 52) (s' := [.ref 71]) rfl rfl rfl ?_
  refine ev_gc (p' := 55) (v := 72) rfl rfl rfl ly_71 rfl rfl ?_
  refine ev_x (i := .aload_n 0) (len := 1) (p' := 56) (s' := [.ref 71, .ref 72]) rfl rfl rfl ?_
  refine ev_gi (p' := 59) (v := nI n) rfl rfl rfl ly_71 rfl rfl hi_71_1 ?_
  refine ev_x (i := .iload_n 1) (len := 1) (p' := 60) (s' := [.int v, .int (nI n), .ref 72]) rfl rfl rfl ?_
  refine ev_pa (j := n) (p' := 61) rfl rfl ly_72 rfl (show vp_in (nI n) (2 * n) from vp_in_nI (by omega) (by omega)) (nI_clamp (by omega)) ?_
  refine ev_x (i := .aload_n 0) (len := 1) (p' := 62) (s' := [.ref 71]) rfl rfl rfl ?_
  refine ev_x (i := .aload_n 0) (len := 1) (p' := 63) (s' := [.ref 71, .ref 71]) rfl rfl rfl ?_
  refine ev_gi (p' := 66) (v := nI n) rfl rfl rfl ly_71 rfl rfl hi_71_1 ?_
  refine ev_x (i := .iconst 1) (len := 1) (p' := 67) (s' := [.int 1, .int (nI n), .ref 71]) rfl rfl rfl ?_
  refine ev_x (i := .iadd) (len := 1) (p' := 68) (s' := [.int (nI n + 1), .ref 71]) rfl rfl rfl ?_
  refine ev_st (st' := [.int (nI (n + 1)), .ref 71]) (congrArg (fun z => [Value.int z, .ref 71]) (nI_1 n)) ?_
  refine ev_pi (p' := 71) rfl rfl rfl ly_71 rfl rfl rfl rfl ?_
  exact ev_vret rfl rfl rfl
set_option maxHeartbeats 4000000 in
set_option maxRecDepth 100000 in
theorem add_n_73 {d : Nat} {σ : st_S} {n m : Nat} {v : Int32} (hm : m < 2 ^ 31) (h : n < m) (hi_73_1 : σ.1 73 1 = nI n) (hn_74 : (σ.2.2.2.1 74).1 = m) : vz_ev P0 (d + 1) 133 0 (lv_args 0 [.ref 73, .int v]) [] (hp σ) (.inl none, hp (st_i (st_e σ 74 n v) 73 1 (nI (n + 1)))) := by
  refine ev_x (i := .aload_n 0) (len := 1) (p' := 1) (s' := [.ref 73]) rfl rfl rfl ?_
  refine ev_gi (p' := 4) (v := nI n) rfl rfl rfl ly_73 rfl rfl hi_73_1 ?_
  refine ev_x (i := .aload_n 0) (len := 1) (p' := 5) (s' := [.ref 73, .int (nI n)]) rfl rfl rfl ?_
  refine ev_gc (p' := 8) (v := 74) rfl rfl rfl ly_73 rfl rfl ?_
  refine ev_al (p' := 9) (v := nI m) rfl rfl ly_74 (by decide) (by decide) rfl (congrArg Int32.ofNat hn_74) ?_
  refine ev_b2 (t := 51) (p' := 51) rfl rfl rfl (if_pos (fun e => Nat.ne_of_lt h ((nI_eq (by omega) hm).mp e))) ?_
  refine ev_x (i := .aload_n 0) (len := 1) (p' := 52) (s' := [.ref 73]) rfl rfl rfl ?_
  refine ev_gc (p' := 55) (v := 74) rfl rfl rfl ly_73 rfl rfl ?_
  refine ev_x (i := .aload_n 0) (len := 1) (p' := 56) (s' := [.ref 73, .ref 74]) rfl rfl rfl ?_
  refine ev_gi (p' := 59) (v := nI n) rfl rfl rfl ly_73 rfl rfl hi_73_1 ?_
  refine ev_x (i := .iload_n 1) (len := 1) (p' := 60) (s' := [.int v, .int (nI n), .ref 74]) rfl rfl rfl ?_
  refine ev_pa (j := n) (p' := 61) rfl rfl ly_74 rfl (by rw [hn_74]; exact vp_in_nI h hm) (nI_clamp (by omega)) ?_
  refine ev_x (i := .aload_n 0) (len := 1) (p' := 62) (s' := [.ref 73]) rfl rfl rfl ?_
  refine ev_x (i := .aload_n 0) (len := 1) (p' := 63) (s' := [.ref 73, .ref 73]) rfl rfl rfl ?_
  refine ev_gi (p' := 66) (v := nI n) rfl rfl rfl ly_73 rfl rfl hi_73_1 ?_
  refine ev_x (i := .iconst 1) (len := 1) (p' := 67) (s' := [.int 1, .int (nI n), .ref 73]) rfl rfl rfl ?_
  refine ev_x (i := .iadd) (len := 1) (p' := 68) (s' := [.int (nI n + 1), .ref 73]) rfl rfl rfl ?_
  refine ev_st (st' := [.int (nI (n + 1)), .ref 73]) (congrArg (fun z => [Value.int z, .ref 73]) (nI_1 n)) ?_
  refine ev_pi (p' := 71) rfl rfl rfl ly_73 rfl rfl rfl rfl ?_
  exact ev_vret rfl rfl rfl
set_option maxHeartbeats 4000000 in
set_option maxRecDepth 100000 in
theorem cp_step_73 {d : Nat} {σ : st_S} {n m i : Nat} {v : Int32} {q : vz_O × vz_H} (hnm : n ≤ m) (hm : m < 2 ^ 31) (hi_73_1 : σ.1 73 1 = nI n) (hn_74 : (σ.2.2.2.1 74).1 = n) (hi : i < n)
    (h : vz_ev P0 d 133 23 [(3, .int (nI (i + 1))), (2, .ref (σ.2.2.2.2.2.1 + 1 + 187)), (0, .ref 73), (1, .int v)] [] (hp (st_cp σ (σ.2.2.2.1 74).2 m (i + 1))) q) : vz_ev P0 d 133 23 [(3, .int (nI i)), (2, .ref (σ.2.2.2.2.2.1 + 1 + 187)), (0, .ref 73), (1, .int v)] [] (hp (st_cp σ (σ.2.2.2.1 74).2 m i)) q := by
  refine ev_x (i := .iload_n 3) (len := 1) (p' := 24) (s' := [.int (nI i)]) rfl rfl rfl ?_
  refine ev_x (i := .aload_n 0) (len := 1) (p' := 25) (s' := [.ref 73, .int (nI i)]) rfl rfl rfl ?_
  refine ev_gi (p' := 28) (v := nI n) rfl rfl rfl ly_73 rfl rfl hi_73_1 ?_
  refine ev_b2 (t := 46) (p' := 31) rfl rfl rfl (if_neg (nI_ge hi (by omega))) ?_
  refine ev_x (i := .aload_n 2) (len := 1) (p' := 32) (s' := [.ref (σ.2.2.2.2.2.1 + 1 + 187)]) rfl rfl rfl ?_
  refine ev_x (i := .iload_n 3) (len := 1) (p' := 33) (s' := [.int (nI i), .ref (σ.2.2.2.2.2.1 + 1 + 187)]) rfl rfl rfl ?_
  refine ev_x (i := .aload_n 0) (len := 1) (p' := 34) (s' := [.ref 73, .int (nI i), .ref (σ.2.2.2.2.2.1 + 1 + 187)]) rfl rfl rfl ?_
  refine ev_gc (p' := 37) (v := 74) rfl rfl rfl ly_73 rfl rfl ?_
  refine ev_x (i := .iload_n 3) (len := 1) (p' := 38) (s' := [.int (nI i), .ref 74, .int (nI i), .ref (σ.2.2.2.2.2.1 + 1 + 187)]) rfl rfl rfl ?_
  refine ev_ga (p' := 39) (v := (σ.2.2.2.1 74).2 i) rfl rfl ly_74 rfl (show vp_in (nI i) (σ.2.2.2.1 74).1 by rw [hn_74]; exact vp_in_nI hi (by omega)) (congrArg (σ.2.2.2.1 74).2 (nI_clamp (by omega))) ?_
  refine ev_iast (n := m) (f := fun j => if j < i then (σ.2.2.2.1 74).2 j else 0) rfl rfl (decide_eq_true (by omega)) (cp_arr σ _ m i) (vp_in_nI (by omega) hm) ?_
  refine ev_hp (μ' := vz_upd (hp (st_cp σ (σ.2.2.2.1 74).2 m i)) (σ.2.2.2.2.2.1 + 1 + 187) (.inl (0, m, .inl (upd (fun j => if j < i then (σ.2.2.2.1 74).2 j else 0) i ((σ.2.2.2.1 74).2 i))))) (congrArg (fun z => vz_upd (hp (st_cp σ (σ.2.2.2.1 74).2 m i)) (σ.2.2.2.2.2.1 + 1 + 187) (.inl (0, m, .inl (upd (fun j => if j < i then (σ.2.2.2.1 74).2 j else 0) z ((σ.2.2.2.1 74).2 i))))) (nI_clamp (n := i) (by omega))) ?_
  refine ev_hp (st_h_x _ _ (ly_out (Or.inr (by omega)))) ?_
  refine ev_hs (st_cp_x σ _ m i) ?_
  refine ev_x (i := .iinc 3 1) (len := 3) (p' := 43) (l' := [(3, .int (nI i + 1)), (2, .ref (σ.2.2.2.2.2.1 + 1 + 187)), (0, .ref 73), (1, .int v)]) (s' := []) rfl rfl rfl ?_
  refine ev_lv (lv' := [(3, .int (nI (i + 1))), (2, .ref (σ.2.2.2.2.2.1 + 1 + 187)), (0, .ref 73), (1, .int v)]) (congrArg (fun z => [(3, Value.int z), (2, .ref (σ.2.2.2.2.2.1 + 1 + 187)), (0, .ref 73), (1, .int v)]) (nI_1 i)) ?_
  exact ev_x (i := .goto (-20)) (len := 3) (p' := 23) (s' := []) rfl rfl rfl h
set_option maxHeartbeats 4000000 in
set_option maxRecDepth 100000 in
theorem cp_loop_73 {d : Nat} {σ : st_S} {n m : Nat} {v : Int32} {q : vz_O × vz_H} (hnm : n ≤ m) (hm : m < 2 ^ 31) (hi_73_1 : σ.1 73 1 = nI n) (hn_74 : (σ.2.2.2.1 74).1 = n)
    (h : vz_ev P0 d 133 46 [(3, .int (nI n)), (2, .ref (σ.2.2.2.2.2.1 + 1 + 187)), (0, .ref 73), (1, .int v)] [] (hp (st_cp σ (σ.2.2.2.1 74).2 m n)) q) : ∀ k i : Nat, i + k = n → vz_ev P0 d 133 23 [(3, .int (nI i)), (2, .ref (σ.2.2.2.2.2.1 + 1 + 187)), (0, .ref 73), (1, .int v)] [] (hp (st_cp σ (σ.2.2.2.1 74).2 m i)) q := by
  intro k
  induction k with
  | zero =>
    intro i hi
    have e : i = n := by omega
    subst e
    refine ev_x (i := .iload_n 3) (len := 1) (p' := 24) (s' := [.int (nI i)]) rfl rfl rfl ?_
    refine ev_x (i := .aload_n 0) (len := 1) (p' := 25) (s' := [.ref 73, .int (nI i)]) rfl rfl rfl ?_
    refine ev_gi (p' := 28) (v := nI i) rfl rfl rfl ly_73 rfl rfl hi_73_1 ?_
    exact ev_b2 (t := 46) (p' := 46) rfl rfl rfl (if_pos (nI_le (Nat.le_refl _) (by omega))) h
  | succ k ih =>
    intro i hi
    exact cp_step_73 hnm hm hi_73_1 hn_74 (by omega) (ih (i + 1) (by omega))
set_option maxHeartbeats 4000000 in
set_option maxRecDepth 100000 in
theorem add_g_73 {d : Nat} {σ : st_S} {n : Nat} {v : Int32} (h0 : 0 < n) (hm : n < 50000000) (hq : σ.2.2.2.2.2.1 + 188 < vz_M0) (hi_73_1 : σ.1 73 1 = nI n) (hn_74 : (σ.2.2.2.1 74).1 = n) : vz_ev P0 (d + 1) 133 0 (lv_args 0 [.ref 73, .int v]) [] (hp σ) (.inl none, hp (st_i (st_e (st_gw σ 74 n (2 * n)) 74 n v) 73 1 (nI (n + 1)))) := by
  refine ev_x (i := .aload_n 0) (len := 1) (p' := 1) (s' := [.ref 73]) rfl rfl rfl ?_
  refine ev_gi (p' := 4) (v := nI n) rfl rfl rfl ly_73 rfl rfl hi_73_1 ?_
  refine ev_x (i := .aload_n 0) (len := 1) (p' := 5) (s' := [.ref 73, .int (nI n)]) rfl rfl rfl ?_
  refine ev_gc (p' := 8) (v := 74) rfl rfl rfl ly_73 rfl rfl ?_
  refine ev_al (p' := 9) (v := nI n) rfl rfl ly_74 (by decide) (by decide) rfl (congrArg Int32.ofNat hn_74) ?_
  refine ev_b2 (t := 51) (p' := 12) rfl rfl rfl (if_neg (fun e => e rfl)) ?_
  refine ev_x (i := .iconst 2) (len := 1) (p' := 13) (s' := [.int (nI 2)]) rfl rfl rfl ?_
  refine ev_x (i := .aload_n 0) (len := 1) (p' := 14) (s' := [.ref 73, .int (nI 2)]) rfl rfl rfl ?_
  refine ev_gi (p' := 17) (v := nI n) rfl rfl rfl ly_73 rfl rfl hi_73_1 ?_
  refine ev_x (i := .imul) (len := 1) (p' := 18) (s' := [.int (nI 2 * nI n)]) rfl rfl rfl ?_
  refine ev_nw (m := 2 * n) (p' := 20) rfl rfl (pk_mul 2 n) (by omega) hq rfl ?_
  refine ev_x (i := .astore_n 2) (len := 1) (p' := 21) (l' := [(2, .ref (σ.2.2.2.2.2.1 + 1 + 187)), (0, .ref 73), (1, .int v)]) (s' := []) rfl rfl rfl ?_
  refine ev_x (i := .iconst 0) (len := 1) (p' := 22) (s' := [.int (nI 0)]) rfl rfl rfl ?_
  refine ev_x (i := .istore_n 3) (len := 1) (p' := 23) (l' := [(3, .int (nI 0)), (2, .ref (σ.2.2.2.2.2.1 + 1 + 187)), (0, .ref 73), (1, .int v)]) (s' := []) rfl rfl rfl ?_
  refine ev_hs (st_cp_0 σ (σ.2.2.2.1 74).2 (2 * n)) ?_
  refine cp_loop_73 (by omega) (by omega) hi_73_1 hn_74 ?_ n 0 (by omega)
  refine ev_x (i := .aload_n 0) (len := 1) (p' := 47) (s' := [.ref 73]) rfl rfl rfl ?_
  refine ev_x (i := .aload_n 2) (len := 1) (p' := 48) (s' := [.ref (σ.2.2.2.2.2.1 + 1 + 187), .ref 73]) rfl rfl rfl ?_
  refine ev_pg (k := 74) (p' := 51) (lv' := [(3, .int (nI n)), (0, .ref 73), (1, .int v)]) rfl rfl rfl ly_73 rfl ly_74 (by omega) (show σ.2.2.2.2.2.1 + 1 + 187 < vz_M0 by omega) rfl rfl rfl (cp_arr σ _ (2 * n) n) rfl ?_ rfl ?_
  · show List.filter (fun q => vz_nb (vz_gr P0) q.2) [(3, Value.int (nI n)), (2, .ref (σ.2.2.2.2.2.1 + 1 + 187)), (0, .ref 73), (1, .int v)] = _
    rw [List.filter_cons_of_pos rfl, List.filter_cons_of_neg (by show ¬ vz_nb (vz_gr P0) (.ref (σ.2.2.2.2.2.1 + 1 + 187)) = true; rw [nb_no (by omega) (show σ.2.2.2.2.2.1 + 1 + 187 < vz_M0 by omega)]; exact Bool.false_ne_true)]
    rfl
  refine ev_hs (σ' := st_gw σ 74 n (2 * n)) rfl ?_
  refine ev_x (i := .aload_n 0) (len := 1) (p' := 52) (s' := [.ref 73]) rfl rfl rfl ?_
  refine ev_gc (p' := 55) (v := 74) rfl rfl rfl ly_73 rfl rfl ?_
  refine ev_x (i := .aload_n 0) (len := 1) (p' := 56) (s' := [.ref 73, .ref 74]) rfl rfl rfl ?_
  refine ev_gi (p' := 59) (v := nI n) rfl rfl rfl ly_73 rfl rfl hi_73_1 ?_
  refine ev_x (i := .iload_n 1) (len := 1) (p' := 60) (s' := [.int v, .int (nI n), .ref 74]) rfl rfl rfl ?_
  refine ev_pa (j := n) (p' := 61) rfl rfl ly_74 rfl (show vp_in (nI n) (2 * n) from vp_in_nI (by omega) (by omega)) (nI_clamp (by omega)) ?_
  refine ev_x (i := .aload_n 0) (len := 1) (p' := 62) (s' := [.ref 73]) rfl rfl rfl ?_
  refine ev_x (i := .aload_n 0) (len := 1) (p' := 63) (s' := [.ref 73, .ref 73]) rfl rfl rfl ?_
  refine ev_gi (p' := 66) (v := nI n) rfl rfl rfl ly_73 rfl rfl hi_73_1 ?_
  refine ev_x (i := .iconst 1) (len := 1) (p' := 67) (s' := [.int 1, .int (nI n), .ref 73]) rfl rfl rfl ?_
  refine ev_x (i := .iadd) (len := 1) (p' := 68) (s' := [.int (nI n + 1), .ref 73]) rfl rfl rfl ?_
  refine ev_st (st' := [.int (nI (n + 1)), .ref 73]) (congrArg (fun z => [Value.int z, .ref 73]) (nI_1 n)) ?_
  refine ev_pi (p' := 71) rfl rfl rfl ly_73 rfl rfl rfl rfl ?_
  exact ev_vret rfl rfl rfl
set_option maxHeartbeats 4000000 in
set_option maxRecDepth 100000 in
theorem add_n_75 {d : Nat} {σ : st_S} {n m : Nat} {v : Int32} (hm : m < 2 ^ 31) (h : n < m) (hi_75_1 : σ.1 75 1 = nI n) (hn_76 : (σ.2.2.2.1 76).1 = m) : vz_ev P0 (d + 1) 133 0 (lv_args 0 [.ref 75, .int v]) [] (hp σ) (.inl none, hp (st_i (st_e σ 76 n v) 75 1 (nI (n + 1)))) := by
  refine ev_x (i := .aload_n 0) (len := 1) (p' := 1) (s' := [.ref 75]) rfl rfl rfl ?_
  refine ev_gi (p' := 4) (v := nI n) rfl rfl rfl ly_75 rfl rfl hi_75_1 ?_
  refine ev_x (i := .aload_n 0) (len := 1) (p' := 5) (s' := [.ref 75, .int (nI n)]) rfl rfl rfl ?_
  refine ev_gc (p' := 8) (v := 76) rfl rfl rfl ly_75 rfl rfl ?_
  refine ev_al (p' := 9) (v := nI m) rfl rfl ly_76 (by decide) (by decide) rfl (congrArg Int32.ofNat hn_76) ?_
  refine ev_b2 (t := 51) (p' := 51) rfl rfl rfl (if_pos (fun e => Nat.ne_of_lt h ((nI_eq (by omega) hm).mp e))) ?_
  refine ev_x (i := .aload_n 0) (len := 1) (p' := 52) (s' := [.ref 75]) rfl rfl rfl ?_
  refine ev_gc (p' := 55) (v := 76) rfl rfl rfl ly_75 rfl rfl ?_
  refine ev_x (i := .aload_n 0) (len := 1) (p' := 56) (s' := [.ref 75, .ref 76]) rfl rfl rfl ?_
  refine ev_gi (p' := 59) (v := nI n) rfl rfl rfl ly_75 rfl rfl hi_75_1 ?_
  refine ev_x (i := .iload_n 1) (len := 1) (p' := 60) (s' := [.int v, .int (nI n), .ref 76]) rfl rfl rfl ?_
  refine ev_pa (j := n) (p' := 61) rfl rfl ly_76 rfl (by rw [hn_76]; exact vp_in_nI h hm) (nI_clamp (by omega)) ?_
  refine ev_x (i := .aload_n 0) (len := 1) (p' := 62) (s' := [.ref 75]) rfl rfl rfl ?_
  refine ev_x (i := .aload_n 0) (len := 1) (p' := 63) (s' := [.ref 75, .ref 75]) rfl rfl rfl ?_
  refine ev_gi (p' := 66) (v := nI n) rfl rfl rfl ly_75 rfl rfl hi_75_1 ?_
  refine ev_x (i := .iconst 1) (len := 1) (p' := 67) (s' := [.int 1, .int (nI n), .ref 75]) rfl rfl rfl ?_
  refine ev_x (i := .iadd) (len := 1) (p' := 68) (s' := [.int (nI n + 1), .ref 75]) rfl rfl rfl ?_
  refine ev_st (st' := [.int (nI (n + 1)), .ref 75]) (congrArg (fun z => [Value.int z, .ref 75]) (nI_1 n)) ?_
  refine ev_pi (p' := 71) rfl rfl rfl ly_75 rfl rfl rfl rfl ?_
  exact ev_vret rfl rfl rfl
set_option maxHeartbeats 4000000 in
set_option maxRecDepth 100000 in
theorem cp_step_75 {d : Nat} {σ : st_S} {n m i : Nat} {v : Int32} {q : vz_O × vz_H} (hnm : n ≤ m) (hm : m < 2 ^ 31) (hi_75_1 : σ.1 75 1 = nI n) (hn_76 : (σ.2.2.2.1 76).1 = n) (hi : i < n)
    (h : vz_ev P0 d 133 23 [(3, .int (nI (i + 1))), (2, .ref (σ.2.2.2.2.2.1 + 1 + 187)), (0, .ref 75), (1, .int v)] [] (hp (st_cp σ (σ.2.2.2.1 76).2 m (i + 1))) q) : vz_ev P0 d 133 23 [(3, .int (nI i)), (2, .ref (σ.2.2.2.2.2.1 + 1 + 187)), (0, .ref 75), (1, .int v)] [] (hp (st_cp σ (σ.2.2.2.1 76).2 m i)) q := by
  refine ev_x (i := .iload_n 3) (len := 1) (p' := 24) (s' := [.int (nI i)]) rfl rfl rfl ?_
  refine ev_x (i := .aload_n 0) (len := 1) (p' := 25) (s' := [.ref 75, .int (nI i)]) rfl rfl rfl ?_
  refine ev_gi (p' := 28) (v := nI n) rfl rfl rfl ly_75 rfl rfl hi_75_1 ?_
  refine ev_b2 (t := 46) (p' := 31) rfl rfl rfl (if_neg (nI_ge hi (by omega))) ?_
  refine ev_x (i := .aload_n 2) (len := 1) (p' := 32) (s' := [.ref (σ.2.2.2.2.2.1 + 1 + 187)]) rfl rfl rfl ?_
  refine ev_x (i := .iload_n 3) (len := 1) (p' := 33) (s' := [.int (nI i), .ref (σ.2.2.2.2.2.1 + 1 + 187)]) rfl rfl rfl ?_
  refine ev_x (i := .aload_n 0) (len := 1) (p' := 34) (s' := [.ref 75, .int (nI i), .ref (σ.2.2.2.2.2.1 + 1 + 187)]) rfl rfl rfl ?_
  refine ev_gc (p' := 37) (v := 76) rfl rfl rfl ly_75 rfl rfl ?_
  refine ev_x (i := .iload_n 3) (len := 1) (p' := 38) (s' := [.int (nI i), .ref 76, .int (nI i), .ref (σ.2.2.2.2.2.1 + 1 + 187)]) rfl rfl rfl ?_
  refine ev_ga (p' := 39) (v := (σ.2.2.2.1 76).2 i) rfl rfl ly_76 rfl (show vp_in (nI i) (σ.2.2.2.1 76).1 by rw [hn_76]; exact vp_in_nI hi (by omega)) (congrArg (σ.2.2.2.1 76).2 (nI_clamp (by omega))) ?_
  refine ev_iast (n := m) (f := fun j => if j < i then (σ.2.2.2.1 76).2 j else 0) rfl rfl (decide_eq_true (by omega)) (cp_arr σ _ m i) (vp_in_nI (by omega) hm) ?_
  refine ev_hp (μ' := vz_upd (hp (st_cp σ (σ.2.2.2.1 76).2 m i)) (σ.2.2.2.2.2.1 + 1 + 187) (.inl (0, m, .inl (upd (fun j => if j < i then (σ.2.2.2.1 76).2 j else 0) i ((σ.2.2.2.1 76).2 i))))) (congrArg (fun z => vz_upd (hp (st_cp σ (σ.2.2.2.1 76).2 m i)) (σ.2.2.2.2.2.1 + 1 + 187) (.inl (0, m, .inl (upd (fun j => if j < i then (σ.2.2.2.1 76).2 j else 0) z ((σ.2.2.2.1 76).2 i))))) (nI_clamp (n := i) (by omega))) ?_
  refine ev_hp (st_h_x _ _ (ly_out (Or.inr (by omega)))) ?_
  refine ev_hs (st_cp_x σ _ m i) ?_
  refine ev_x (i := .iinc 3 1) (len := 3) (p' := 43) (l' := [(3, .int (nI i + 1)), (2, .ref (σ.2.2.2.2.2.1 + 1 + 187)), (0, .ref 75), (1, .int v)]) (s' := []) rfl rfl rfl ?_
  refine ev_lv (lv' := [(3, .int (nI (i + 1))), (2, .ref (σ.2.2.2.2.2.1 + 1 + 187)), (0, .ref 75), (1, .int v)]) (congrArg (fun z => [(3, Value.int z), (2, .ref (σ.2.2.2.2.2.1 + 1 + 187)), (0, .ref 75), (1, .int v)]) (nI_1 i)) ?_
  exact ev_x (i := .goto (-20)) (len := 3) (p' := 23) (s' := []) rfl rfl rfl h
set_option maxHeartbeats 4000000 in
set_option maxRecDepth 100000 in
theorem cp_loop_75 {d : Nat} {σ : st_S} {n m : Nat} {v : Int32} {q : vz_O × vz_H} (hnm : n ≤ m) (hm : m < 2 ^ 31) (hi_75_1 : σ.1 75 1 = nI n) (hn_76 : (σ.2.2.2.1 76).1 = n)
    (h : vz_ev P0 d 133 46 [(3, .int (nI n)), (2, .ref (σ.2.2.2.2.2.1 + 1 + 187)), (0, .ref 75), (1, .int v)] [] (hp (st_cp σ (σ.2.2.2.1 76).2 m n)) q) : ∀ k i : Nat, i + k = n → vz_ev P0 d 133 23 [(3, .int (nI i)), (2, .ref (σ.2.2.2.2.2.1 + 1 + 187)), (0, .ref 75), (1, .int v)] [] (hp (st_cp σ (σ.2.2.2.1 76).2 m i)) q := by
  intro k
  induction k with
  | zero =>
    intro i hi
    have e : i = n := by omega
    subst e
    refine ev_x (i := .iload_n 3) (len := 1) (p' := 24) (s' := [.int (nI i)]) rfl rfl rfl ?_
    refine ev_x (i := .aload_n 0) (len := 1) (p' := 25) (s' := [.ref 75, .int (nI i)]) rfl rfl rfl ?_
    refine ev_gi (p' := 28) (v := nI i) rfl rfl rfl ly_75 rfl rfl hi_75_1 ?_
    exact ev_b2 (t := 46) (p' := 46) rfl rfl rfl (if_pos (nI_le (Nat.le_refl _) (by omega))) h
  | succ k ih =>
    intro i hi
    exact cp_step_75 hnm hm hi_75_1 hn_76 (by omega) (ih (i + 1) (by omega))
set_option maxHeartbeats 4000000 in
set_option maxRecDepth 100000 in
theorem add_g_75 {d : Nat} {σ : st_S} {n : Nat} {v : Int32} (h0 : 0 < n) (hm : n < 50000000) (hq : σ.2.2.2.2.2.1 + 188 < vz_M0) (hi_75_1 : σ.1 75 1 = nI n) (hn_76 : (σ.2.2.2.1 76).1 = n) : vz_ev P0 (d + 1) 133 0 (lv_args 0 [.ref 75, .int v]) [] (hp σ) (.inl none, hp (st_i (st_e (st_gw σ 76 n (2 * n)) 76 n v) 75 1 (nI (n + 1)))) := by
  refine ev_x (i := .aload_n 0) (len := 1) (p' := 1) (s' := [.ref 75]) rfl rfl rfl ?_
  refine ev_gi (p' := 4) (v := nI n) rfl rfl rfl ly_75 rfl rfl hi_75_1 ?_
  refine ev_x (i := .aload_n 0) (len := 1) (p' := 5) (s' := [.ref 75, .int (nI n)]) rfl rfl rfl ?_
  refine ev_gc (p' := 8) (v := 76) rfl rfl rfl ly_75 rfl rfl ?_
  refine ev_al (p' := 9) (v := nI n) rfl rfl ly_76 (by decide) (by decide) rfl (congrArg Int32.ofNat hn_76) ?_
  refine ev_b2 (t := 51) (p' := 12) rfl rfl rfl (if_neg (fun e => e rfl)) ?_
  refine ev_x (i := .iconst 2) (len := 1) (p' := 13) (s' := [.int (nI 2)]) rfl rfl rfl ?_
  refine ev_x (i := .aload_n 0) (len := 1) (p' := 14) (s' := [.ref 75, .int (nI 2)]) rfl rfl rfl ?_
  refine ev_gi (p' := 17) (v := nI n) rfl rfl rfl ly_75 rfl rfl hi_75_1 ?_
  refine ev_x (i := .imul) (len := 1) (p' := 18) (s' := [.int (nI 2 * nI n)]) rfl rfl rfl ?_
  refine ev_nw (m := 2 * n) (p' := 20) rfl rfl (pk_mul 2 n) (by omega) hq rfl ?_
  refine ev_x (i := .astore_n 2) (len := 1) (p' := 21) (l' := [(2, .ref (σ.2.2.2.2.2.1 + 1 + 187)), (0, .ref 75), (1, .int v)]) (s' := []) rfl rfl rfl ?_
  refine ev_x (i := .iconst 0) (len := 1) (p' := 22) (s' := [.int (nI 0)]) rfl rfl rfl ?_
  refine ev_x (i := .istore_n 3) (len := 1) (p' := 23) (l' := [(3, .int (nI 0)), (2, .ref (σ.2.2.2.2.2.1 + 1 + 187)), (0, .ref 75), (1, .int v)]) (s' := []) rfl rfl rfl ?_
  refine ev_hs (st_cp_0 σ (σ.2.2.2.1 76).2 (2 * n)) ?_
  refine cp_loop_75 (by omega) (by omega) hi_75_1 hn_76 ?_ n 0 (by omega)
  refine ev_x (i := .aload_n 0) (len := 1) (p' := 47) (s' := [.ref 75]) rfl rfl rfl ?_
  refine ev_x (i := .aload_n 2) (len := 1) (p' := 48) (s' := [.ref (σ.2.2.2.2.2.1 + 1 + 187), .ref 75]) rfl rfl rfl ?_
  refine ev_pg (k := 76) (p' := 51) (lv' := [(3, .int (nI n)), (0, .ref 75), (1, .int v)]) rfl rfl rfl ly_75 rfl ly_76 (by omega) (show σ.2.2.2.2.2.1 + 1 + 187 < vz_M0 by omega) rfl rfl rfl (cp_arr σ _ (2 * n) n) rfl ?_ rfl ?_
  · show List.filter (fun q => vz_nb (vz_gr P0) q.2) [(3, Value.int (nI n)), (2, .ref (σ.2.2.2.2.2.1 + 1 + 187)), (0, .ref 75), (1, .int v)] = _
    rw [List.filter_cons_of_pos rfl, List.filter_cons_of_neg (by show ¬ vz_nb (vz_gr P0) (.ref (σ.2.2.2.2.2.1 + 1 + 187)) = true; rw [nb_no (by omega) (show σ.2.2.2.2.2.1 + 1 + 187 < vz_M0 by omega)]; exact Bool.false_ne_true)]
    rfl
  refine ev_hs (σ' := st_gw σ 76 n (2 * n)) rfl ?_
  refine ev_x (i := .aload_n 0) (len := 1) (p' := 52) (s' := [.ref 75]) rfl rfl rfl ?_
  refine ev_gc (p' := 55) (v := 76) rfl rfl rfl ly_75 rfl rfl ?_
  refine ev_x (i := .aload_n 0) (len := 1) (p' := 56) (s' := [.ref 75, .ref 76]) rfl rfl rfl ?_
  refine ev_gi (p' := 59) (v := nI n) rfl rfl rfl ly_75 rfl rfl hi_75_1 ?_
  refine ev_x (i := .iload_n 1) (len := 1) (p' := 60) (s' := [.int v, .int (nI n), .ref 76]) rfl rfl rfl ?_
  refine ev_pa (j := n) (p' := 61) rfl rfl ly_76 rfl (show vp_in (nI n) (2 * n) from vp_in_nI (by omega) (by omega)) (nI_clamp (by omega)) ?_
  refine ev_x (i := .aload_n 0) (len := 1) (p' := 62) (s' := [.ref 75]) rfl rfl rfl ?_
  refine ev_x (i := .aload_n 0) (len := 1) (p' := 63) (s' := [.ref 75, .ref 75]) rfl rfl rfl ?_
  refine ev_gi (p' := 66) (v := nI n) rfl rfl rfl ly_75 rfl rfl hi_75_1 ?_
  refine ev_x (i := .iconst 1) (len := 1) (p' := 67) (s' := [.int 1, .int (nI n), .ref 75]) rfl rfl rfl ?_
  refine ev_x (i := .iadd) (len := 1) (p' := 68) (s' := [.int (nI n + 1), .ref 75]) rfl rfl rfl ?_
  refine ev_st (st' := [.int (nI (n + 1)), .ref 75]) (congrArg (fun z => [Value.int z, .ref 75]) (nI_1 n)) ?_
  refine ev_pi (p' := 71) rfl rfl rfl ly_75 rfl rfl rfl rfl ?_
  exact ev_vret rfl rfl rfl
set_option maxHeartbeats 4000000 in
set_option maxRecDepth 100000 in
theorem add_n_77 {d : Nat} {σ : st_S} {n m : Nat} {v : Int32} (hm : m < 2 ^ 31) (h : n < m) (hi_77_1 : σ.1 77 1 = nI n) (hn_78 : (σ.2.2.2.1 78).1 = m) : vz_ev P0 (d + 1) 133 0 (lv_args 0 [.ref 77, .int v]) [] (hp σ) (.inl none, hp (st_i (st_e σ 78 n v) 77 1 (nI (n + 1)))) := by
  refine ev_x (i := .aload_n 0) (len := 1) (p' := 1) (s' := [.ref 77]) rfl rfl rfl ?_
  refine ev_gi (p' := 4) (v := nI n) rfl rfl rfl ly_77 rfl rfl hi_77_1 ?_
  refine ev_x (i := .aload_n 0) (len := 1) (p' := 5) (s' := [.ref 77, .int (nI n)]) rfl rfl rfl ?_
  refine ev_gc (p' := 8) (v := 78) rfl rfl rfl ly_77 rfl rfl ?_
  refine ev_al (p' := 9) (v := nI m) rfl rfl ly_78 (by decide) (by decide) rfl (congrArg Int32.ofNat hn_78) ?_
  refine ev_b2 (t := 51) (p' := 51) rfl rfl rfl (if_pos (fun e => Nat.ne_of_lt h ((nI_eq (by omega) hm).mp e))) ?_
  refine ev_x (i := .aload_n 0) (len := 1) (p' := 52) (s' := [.ref 77]) rfl rfl rfl ?_
  refine ev_gc (p' := 55) (v := 78) rfl rfl rfl ly_77 rfl rfl ?_
  refine ev_x (i := .aload_n 0) (len := 1) (p' := 56) (s' := [.ref 77, .ref 78]) rfl rfl rfl ?_
  refine ev_gi (p' := 59) (v := nI n) rfl rfl rfl ly_77 rfl rfl hi_77_1 ?_
  refine ev_x (i := .iload_n 1) (len := 1) (p' := 60) (s' := [.int v, .int (nI n), .ref 78]) rfl rfl rfl ?_
  refine ev_pa (j := n) (p' := 61) rfl rfl ly_78 rfl (by rw [hn_78]; exact vp_in_nI h hm) (nI_clamp (by omega)) ?_
  refine ev_x (i := .aload_n 0) (len := 1) (p' := 62) (s' := [.ref 77]) rfl rfl rfl ?_
  refine ev_x (i := .aload_n 0) (len := 1) (p' := 63) (s' := [.ref 77, .ref 77]) rfl rfl rfl ?_
  refine ev_gi (p' := 66) (v := nI n) rfl rfl rfl ly_77 rfl rfl hi_77_1 ?_
  refine ev_x (i := .iconst 1) (len := 1) (p' := 67) (s' := [.int 1, .int (nI n), .ref 77]) rfl rfl rfl ?_
  refine ev_x (i := .iadd) (len := 1) (p' := 68) (s' := [.int (nI n + 1), .ref 77]) rfl rfl rfl ?_
  refine ev_st (st' := [.int (nI (n + 1)), .ref 77]) (congrArg (fun z => [Value.int z, .ref 77]) (nI_1 n)) ?_
  refine ev_pi (p' := 71) rfl rfl rfl ly_77 rfl rfl rfl rfl ?_
  exact ev_vret rfl rfl rfl
set_option maxHeartbeats 4000000 in
set_option maxRecDepth 100000 in
theorem cp_step_77 {d : Nat} {σ : st_S} {n m i : Nat} {v : Int32} {q : vz_O × vz_H} (hnm : n ≤ m) (hm : m < 2 ^ 31) (hi_77_1 : σ.1 77 1 = nI n) (hn_78 : (σ.2.2.2.1 78).1 = n) (hi : i < n)
    (h : vz_ev P0 d 133 23 [(3, .int (nI (i + 1))), (2, .ref (σ.2.2.2.2.2.1 + 1 + 187)), (0, .ref 77), (1, .int v)] [] (hp (st_cp σ (σ.2.2.2.1 78).2 m (i + 1))) q) : vz_ev P0 d 133 23 [(3, .int (nI i)), (2, .ref (σ.2.2.2.2.2.1 + 1 + 187)), (0, .ref 77), (1, .int v)] [] (hp (st_cp σ (σ.2.2.2.1 78).2 m i)) q := by
  refine ev_x (i := .iload_n 3) (len := 1) (p' := 24) (s' := [.int (nI i)]) rfl rfl rfl ?_
  refine ev_x (i := .aload_n 0) (len := 1) (p' := 25) (s' := [.ref 77, .int (nI i)]) rfl rfl rfl ?_
  refine ev_gi (p' := 28) (v := nI n) rfl rfl rfl ly_77 rfl rfl hi_77_1 ?_
  refine ev_b2 (t := 46) (p' := 31) rfl rfl rfl (if_neg (nI_ge hi (by omega))) ?_
  refine ev_x (i := .aload_n 2) (len := 1) (p' := 32) (s' := [.ref (σ.2.2.2.2.2.1 + 1 + 187)]) rfl rfl rfl ?_
  refine ev_x (i := .iload_n 3) (len := 1) (p' := 33) (s' := [.int (nI i), .ref (σ.2.2.2.2.2.1 + 1 + 187)]) rfl rfl rfl ?_
  refine ev_x (i := .aload_n 0) (len := 1) (p' := 34) (s' := [.ref 77, .int (nI i), .ref (σ.2.2.2.2.2.1 + 1 + 187)]) rfl rfl rfl ?_
  refine ev_gc (p' := 37) (v := 78) rfl rfl rfl ly_77 rfl rfl ?_
  refine ev_x (i := .iload_n 3) (len := 1) (p' := 38) (s' := [.int (nI i), .ref 78, .int (nI i), .ref (σ.2.2.2.2.2.1 + 1 + 187)]) rfl rfl rfl ?_
  refine ev_ga (p' := 39) (v := (σ.2.2.2.1 78).2 i) rfl rfl ly_78 rfl (show vp_in (nI i) (σ.2.2.2.1 78).1 by rw [hn_78]; exact vp_in_nI hi (by omega)) (congrArg (σ.2.2.2.1 78).2 (nI_clamp (by omega))) ?_
  refine ev_iast (n := m) (f := fun j => if j < i then (σ.2.2.2.1 78).2 j else 0) rfl rfl (decide_eq_true (by omega)) (cp_arr σ _ m i) (vp_in_nI (by omega) hm) ?_
  refine ev_hp (μ' := vz_upd (hp (st_cp σ (σ.2.2.2.1 78).2 m i)) (σ.2.2.2.2.2.1 + 1 + 187) (.inl (0, m, .inl (upd (fun j => if j < i then (σ.2.2.2.1 78).2 j else 0) i ((σ.2.2.2.1 78).2 i))))) (congrArg (fun z => vz_upd (hp (st_cp σ (σ.2.2.2.1 78).2 m i)) (σ.2.2.2.2.2.1 + 1 + 187) (.inl (0, m, .inl (upd (fun j => if j < i then (σ.2.2.2.1 78).2 j else 0) z ((σ.2.2.2.1 78).2 i))))) (nI_clamp (n := i) (by omega))) ?_
  refine ev_hp (st_h_x _ _ (ly_out (Or.inr (by omega)))) ?_
  refine ev_hs (st_cp_x σ _ m i) ?_
  refine ev_x (i := .iinc 3 1) (len := 3) (p' := 43) (l' := [(3, .int (nI i + 1)), (2, .ref (σ.2.2.2.2.2.1 + 1 + 187)), (0, .ref 77), (1, .int v)]) (s' := []) rfl rfl rfl ?_
  refine ev_lv (lv' := [(3, .int (nI (i + 1))), (2, .ref (σ.2.2.2.2.2.1 + 1 + 187)), (0, .ref 77), (1, .int v)]) (congrArg (fun z => [(3, Value.int z), (2, .ref (σ.2.2.2.2.2.1 + 1 + 187)), (0, .ref 77), (1, .int v)]) (nI_1 i)) ?_
  exact ev_x (i := .goto (-20)) (len := 3) (p' := 23) (s' := []) rfl rfl rfl h
set_option maxHeartbeats 4000000 in
set_option maxRecDepth 100000 in
theorem cp_loop_77 {d : Nat} {σ : st_S} {n m : Nat} {v : Int32} {q : vz_O × vz_H} (hnm : n ≤ m) (hm : m < 2 ^ 31) (hi_77_1 : σ.1 77 1 = nI n) (hn_78 : (σ.2.2.2.1 78).1 = n)
    (h : vz_ev P0 d 133 46 [(3, .int (nI n)), (2, .ref (σ.2.2.2.2.2.1 + 1 + 187)), (0, .ref 77), (1, .int v)] [] (hp (st_cp σ (σ.2.2.2.1 78).2 m n)) q) : ∀ k i : Nat, i + k = n → vz_ev P0 d 133 23 [(3, .int (nI i)), (2, .ref (σ.2.2.2.2.2.1 + 1 + 187)), (0, .ref 77), (1, .int v)] [] (hp (st_cp σ (σ.2.2.2.1 78).2 m i)) q := by
  intro k
  induction k with
  | zero =>
    intro i hi
    have e : i = n := by omega
    subst e
    refine ev_x (i := .iload_n 3) (len := 1) (p' := 24) (s' := [.int (nI i)]) rfl rfl rfl ?_
    refine ev_x (i := .aload_n 0) (len := 1) (p' := 25) (s' := [.ref 77, .int (nI i)]) rfl rfl rfl ?_
    refine ev_gi (p' := 28) (v := nI i) rfl rfl rfl ly_77 rfl rfl hi_77_1 ?_
    exact ev_b2 (t := 46) (p' := 46) rfl rfl rfl (if_pos (nI_le (Nat.le_refl _) (by omega))) h
  | succ k ih =>
    intro i hi
    exact cp_step_77 hnm hm hi_77_1 hn_78 (by omega) (ih (i + 1) (by omega))
set_option maxHeartbeats 4000000 in
set_option maxRecDepth 100000 in
theorem add_g_77 {d : Nat} {σ : st_S} {n : Nat} {v : Int32} (h0 : 0 < n) (hm : n < 50000000) (hq : σ.2.2.2.2.2.1 + 188 < vz_M0) (hi_77_1 : σ.1 77 1 = nI n) (hn_78 : (σ.2.2.2.1 78).1 = n) : vz_ev P0 (d + 1) 133 0 (lv_args 0 [.ref 77, .int v]) [] (hp σ) (.inl none, hp (st_i (st_e (st_gw σ 78 n (2 * n)) 78 n v) 77 1 (nI (n + 1)))) := by
  refine ev_x (i := .aload_n 0) (len := 1) (p' := 1) (s' := [.ref 77]) rfl rfl rfl ?_
  refine ev_gi (p' := 4) (v := nI n) rfl rfl rfl ly_77 rfl rfl hi_77_1 ?_
  refine ev_x (i := .aload_n 0) (len := 1) (p' := 5) (s' := [.ref 77, .int (nI n)]) rfl rfl rfl ?_
  refine ev_gc (p' := 8) (v := 78) rfl rfl rfl ly_77 rfl rfl ?_
  refine ev_al (p' := 9) (v := nI n) rfl rfl ly_78 (by decide) (by decide) rfl (congrArg Int32.ofNat hn_78) ?_
  refine ev_b2 (t := 51) (p' := 12) rfl rfl rfl (if_neg (fun e => e rfl)) ?_
  refine ev_x (i := .iconst 2) (len := 1) (p' := 13) (s' := [.int (nI 2)]) rfl rfl rfl ?_
  refine ev_x (i := .aload_n 0) (len := 1) (p' := 14) (s' := [.ref 77, .int (nI 2)]) rfl rfl rfl ?_
  refine ev_gi (p' := 17) (v := nI n) rfl rfl rfl ly_77 rfl rfl hi_77_1 ?_
  refine ev_x (i := .imul) (len := 1) (p' := 18) (s' := [.int (nI 2 * nI n)]) rfl rfl rfl ?_
  refine ev_nw (m := 2 * n) (p' := 20) rfl rfl (pk_mul 2 n) (by omega) hq rfl ?_
  refine ev_x (i := .astore_n 2) (len := 1) (p' := 21) (l' := [(2, .ref (σ.2.2.2.2.2.1 + 1 + 187)), (0, .ref 77), (1, .int v)]) (s' := []) rfl rfl rfl ?_
  refine ev_x (i := .iconst 0) (len := 1) (p' := 22) (s' := [.int (nI 0)]) rfl rfl rfl ?_
  refine ev_x (i := .istore_n 3) (len := 1) (p' := 23) (l' := [(3, .int (nI 0)), (2, .ref (σ.2.2.2.2.2.1 + 1 + 187)), (0, .ref 77), (1, .int v)]) (s' := []) rfl rfl rfl ?_
  refine ev_hs (st_cp_0 σ (σ.2.2.2.1 78).2 (2 * n)) ?_
  refine cp_loop_77 (by omega) (by omega) hi_77_1 hn_78 ?_ n 0 (by omega)
  refine ev_x (i := .aload_n 0) (len := 1) (p' := 47) (s' := [.ref 77]) rfl rfl rfl ?_
  refine ev_x (i := .aload_n 2) (len := 1) (p' := 48) (s' := [.ref (σ.2.2.2.2.2.1 + 1 + 187), .ref 77]) rfl rfl rfl ?_
  refine ev_pg (k := 78) (p' := 51) (lv' := [(3, .int (nI n)), (0, .ref 77), (1, .int v)]) rfl rfl rfl ly_77 rfl ly_78 (by omega) (show σ.2.2.2.2.2.1 + 1 + 187 < vz_M0 by omega) rfl rfl rfl (cp_arr σ _ (2 * n) n) rfl ?_ rfl ?_
  · show List.filter (fun q => vz_nb (vz_gr P0) q.2) [(3, Value.int (nI n)), (2, .ref (σ.2.2.2.2.2.1 + 1 + 187)), (0, .ref 77), (1, .int v)] = _
    rw [List.filter_cons_of_pos rfl, List.filter_cons_of_neg (by show ¬ vz_nb (vz_gr P0) (.ref (σ.2.2.2.2.2.1 + 1 + 187)) = true; rw [nb_no (by omega) (show σ.2.2.2.2.2.1 + 1 + 187 < vz_M0 by omega)]; exact Bool.false_ne_true)]
    rfl
  refine ev_hs (σ' := st_gw σ 78 n (2 * n)) rfl ?_
  refine ev_x (i := .aload_n 0) (len := 1) (p' := 52) (s' := [.ref 77]) rfl rfl rfl ?_
  refine ev_gc (p' := 55) (v := 78) rfl rfl rfl ly_77 rfl rfl ?_
  refine ev_x (i := .aload_n 0) (len := 1) (p' := 56) (s' := [.ref 77, .ref 78]) rfl rfl rfl ?_
  refine ev_gi (p' := 59) (v := nI n) rfl rfl rfl ly_77 rfl rfl hi_77_1 ?_
  refine ev_x (i := .iload_n 1) (len := 1) (p' := 60) (s' := [.int v, .int (nI n), .ref 78]) rfl rfl rfl ?_
  refine ev_pa (j := n) (p' := 61) rfl rfl ly_78 rfl (show vp_in (nI n) (2 * n) from vp_in_nI (by omega) (by omega)) (nI_clamp (by omega)) ?_
  refine ev_x (i := .aload_n 0) (len := 1) (p' := 62) (s' := [.ref 77]) rfl rfl rfl ?_
  refine ev_x (i := .aload_n 0) (len := 1) (p' := 63) (s' := [.ref 77, .ref 77]) rfl rfl rfl ?_
  refine ev_gi (p' := 66) (v := nI n) rfl rfl rfl ly_77 rfl rfl hi_77_1 ?_
  refine ev_x (i := .iconst 1) (len := 1) (p' := 67) (s' := [.int 1, .int (nI n), .ref 77]) rfl rfl rfl ?_
  refine ev_x (i := .iadd) (len := 1) (p' := 68) (s' := [.int (nI n + 1), .ref 77]) rfl rfl rfl ?_
  refine ev_st (st' := [.int (nI (n + 1)), .ref 77]) (congrArg (fun z => [Value.int z, .ref 77]) (nI_1 n)) ?_
  refine ev_pi (p' := 71) rfl rfl rfl ly_77 rfl rfl rfl rfl ?_
  exact ev_vret rfl rfl rfl
