/-! FRESH ARRAYS, GROWING ARRAYS, fill -/
theorem ev_hs {P : vz_P} {d y pc : Nat} {lv : vz_L} {st : List Value} {σ σ' : st_S} {q : vz_O × vz_H} (h : σ = σ') (k : vz_ev P d y pc lv st (hp σ') q) : vz_ev P d y pc lv st (hp σ) q := by
  subst h
  exact k
theorem ev_lv {P : vz_P} {d y pc : Nat} {lv lv' : vz_L} {st : List Value} {μ : vz_H} {q : vz_O × vz_H} (h : lv = lv') (k : vz_ev P d y pc lv' st μ q) : vz_ev P d y pc lv st μ q := by
  subst h
  exact k
theorem ev_q {P : vz_P} {d y pc : Nat} {lv : vz_L} {st : List Value} {μ : vz_H} {q q' : vz_O × vz_H} (h : q = q') (k : vz_ev P d y pc lv st μ q) : vz_ev P d y pc lv st μ q' := by
  subst h
  exact k
/-- a fresh array is made -/
def st_w (σ : st_S) (x : va_E) (n : Nat) : st_S := (σ.1, σ.2.1, σ.2.2.1, σ.2.2.2.1, σ.2.2.2.2.1, σ.2.2.2.2.2.1, gC σ + 1, va_up (gF σ) (gC σ + 1 + 187) x, gA σ + 1, gB σ + n)
/-- a cell beyond the layout is set -/
def st_x (σ : st_S) (u : Nat) (x : va_E) : st_S := (σ.1, σ.2.1, σ.2.2.1, σ.2.2.2.1, σ.2.2.2.2.1, σ.2.2.2.2.2.1, gC σ, va_up (gF σ) u x, gA σ, gB σ)
theorem st_c_out {σ σ' : st_S} {u : Nat} {x : va_E} (hu : vz_lk ly u = none) (h1 : σ'.1 = σ.1) (h2 : σ'.2.1 = σ.2.1) (h3 : σ'.2.2.1 = σ.2.2.1) (h4 : gN σ' = gN σ) (h5 : gE σ' = gE σ) (h7 : gL σ' = gL σ) (h6 : gF σ' = va_up (gF σ) u x) : va_up (st_c ly σ) u x = st_c ly σ' := by
  funext b
  by_cases e : b = u
  · subst e
    rw [va_up_self]
    unfold st_c
    rw [hu]
    show x = gF σ' b
    rw [h6, va_up_self]
  · rw [va_up_ne _ _ e]
    unfold st_c
    split
    · rw [st_f_other (σ := σ) (σ' := σ') (fun k => by rw [h1]) (fun k => by rw [h2]) (fun k => by rw [h3])]
    · rw [h4, h7]
    · rw [h4, h5]
    · rw [h6, va_up_ne _ _ e]
theorem st_h_w (σ : st_S) (x : va_E) (n : Nat) : vz_new (hp σ) x n = hp (st_w σ x n) := by
  refine Prod.ext (by show gC σ + 187 + 1 = gC σ + 1 + 187; omega) (Prod.ext ?_ rfl)
  show va_up (st_c ly σ) (gC σ + 187 + 1) x = st_c ly (st_w σ x n)
  rw [show gC σ + 187 + 1 = gC σ + 1 + 187 by omega]
  exact st_c_out (ly_out (Or.inr (by omega))) rfl rfl rfl rfl rfl rfl rfl
theorem st_h_x (σ : st_S) {u : Nat} (x : va_E) (hu : vz_lk ly u = none) : vz_upd (hp σ) u x = hp (st_x σ u x) := by
  refine Prod.ext rfl (Prod.ext ?_ rfl)
  show va_up (st_c ly σ) u x = st_c ly (st_x σ u x)
  exact st_c_out hu rfl rfl rfl rfl rfl rfl rfl
theorem set_same {α : Type} {l : List α} {j : Nat} {v : α} (h : l[j]? = some v) : l.set j v = l := by
  apply List.ext_getElem?
  intro i
  by_cases e : j = i
  · subst e
    rw [List.getElem?_set_self ((List.getElem?_eq_some_iff.mp h).elim fun h _ => h), h]
  · rw [List.getElem?_set_ne e]
theorem st_h_g (σ : st_S) {a ci j k u : Nat} {ks kk : List Nat} (hl : vz_lk ly a = some (0, ci, ks)) (hj : ks[j]? = some (k + 3)) (hk : vz_lk ly k = some (1, 0, kk)) (hu : vz_lk ly u = none) (x : Nat × (Nat → Int32)) (x' : Nat × vp_A) : vz_swp (hp σ) a j k u (ci, st_f σ a 0 ks) (0, x.1, .inl x.2) x' = hp (st_x (st_a σ k x) u (.inl x')) := by
  have e1 : va_up (st_c ly σ) a (.inr (ci, (st_f σ a 0 ks).set j (.ref k))) = st_c ly σ := by
    rw [set_same (st_f_3 σ a k ks j 0 hj)]
    funext b
    by_cases e : b = a
    · subst e
      rw [va_up_self]
      unfold st_c
      rw [hl]
      rfl
    · rw [va_up_ne _ _ e]
  refine Prod.ext rfl (Prod.ext ?_ rfl)
  show va_up (va_up (va_up (st_c ly σ) a (.inr (ci, (st_f σ a 0 ks).set j (.ref k)))) k (.inl (0, x.1, .inl x.2))) u (.inl x') = st_c ly (st_x (st_a σ k x) u (.inl x'))
  have e2 : va_up (st_c ly σ) k (.inl (0, x.1, .inl x.2)) = st_c ly (st_a σ k x) := congrArg (fun μ : vz_H => μ.2.1) (st_h_a (N := 187) (σ := σ) hk (by decide) x)
  rw [e1, e2]
  exact st_c_out hu rfl rfl rfl rfl rfl rfl rfl
section EG
variable {d y pc ix a ci j k u p' : Nat} {ty : FieldType} {fn : Bool} {σ : st_S} {ks kk : List Nat} {lv lv' : vz_L} {r : List Value} {q : vz_O × vz_H}
/-- a fresh array of ints -/
theorem ev_nw {x : Int32} {m : Nat} (hT : vz_Th P0 y pc = none) (hI : vz_I P0 y pc = some (.newarray .int, 2)) (hx : x = nI m) (hm : m < 100000000) (hc : gC σ + 188 < vz_M0) (hp' : pc + 2 = p') (h : vz_ev P0 d y p' lv (.ref (gC σ + 1 + 187) :: r) (hp (st_w σ (.inl (0, m, .inl fun _ => 0)) m)) q) : vz_ev P0 d y pc lv (.int x :: r) (hp σ) q := by
  subst hp' hx
  have e1 : (nI m).toNatClampNeg = m := nI_clamp (by omega)
  refine ev_h (z := (pc + 2, lv, .ref ((hp σ).1 + 1) :: r, vz_new (hp σ) (.inl (0, m, .inl fun _ => 0)) m)) hT hI ?_ ?_
  · show (if nI m < 0 ∨ 536870912 < (nI m).toNatClampNeg * 4 then none else vz_b (decide ((hp σ).1 + 1 < vz_M0)) (some (pc + 2, lv, .ref ((hp σ).1 + 1) :: r, vz_new (hp σ) (.inl (0, (nI m).toNatClampNeg, .inl fun _ => 0)) (nI m).toNatClampNeg))) = _
    rw [e1, if_neg (by rintro (e | e); exact nI_pos (by omega) e; omega), decide_eq_true (show (hp σ).1 + 1 < vz_M0 by show gC σ + 187 + 1 < vz_M0; omega)]
    rfl
  · show vz_ev P0 d y (pc + 2) lv (.ref ((hp σ).1 + 1) :: r) (vz_new (hp σ) (.inl (0, m, .inl fun _ => 0)) m) q
    exact ev_st (st' := .ref (gC σ + 1 + 187) :: r) (congrArg (fun z => Value.ref z :: r) (show gC σ + 187 + 1 = gC σ + 1 + 187 by omega)) (ev_hp (st_h_w σ _ _) h)
theorem ow_no {a j u : Nat} (h1 : 187 < u) (h2 : u < vz_M0) : vz_ow (vz_gr P0) a j (.ref u) = false := by
  have e1 : Nat.ble u 187 = false := by
    cases h : Nat.ble u 187 with
    | false => rfl
    | true => have := Nat.le_of_ble_eq_true h; omega
  have e2 : Nat.ble vz_M0 u = false := by
    cases h : Nat.ble vz_M0 u with
    | false => rfl
    | true => have := Nat.le_of_ble_eq_true h; omega
  show ((Nat.ble u 187 || Nat.ble vz_M0 u) && _) = false
  rw [e1, e2]
  rfl
theorem nb_no {u : Nat} (h1 : 187 < u) (h2 : u < vz_M0) : vz_nb (vz_gr P0) (.ref u) = false := by
  have e1 : Nat.ble u 187 = false := by
    cases h : Nat.ble u 187 with
    | false => rfl
    | true => have := Nat.le_of_ble_eq_true h; omega
  have e2 : Nat.ble vz_M0 u = false := by
    cases h : Nat.ble vz_M0 u with
    | false => rfl
    | true => have := Nat.le_of_ble_eq_true h; omega
  show ((Nat.ble u 187 || Nat.ble vz_M0 u) && _) = false
  rw [e1, e2]
  rfl
/-- a fresh array becomes the contents of a growing one -/
theorem ev_pg {m : Nat} {g : Nat → Int32} (hT : vz_Th P0 y pc = none) (hI : vz_I P0 y pc = some (.putfield ix, 3)) (hF : vz_F P0 y ix = some (ci, j, ty, fn)) (hl : vz_lk ly a = some (0, ci, ks)) (hj : ks[j]? = some (k + 3)) (hk : vz_lk ly k = some (1, 0, kk)) (h1 : 187 < u) (h2 : u < vz_M0) (hf : vz_fit ty (.ref u) = true) (hfn : fn = false) (hg : (vz_gr P0).2.2 a j = some k) (hx : vz_arr (hp σ) u = some (0, m, .inl g)) (hS : vz_nbS (vz_gr P0) r = true) (hlv : vz_fl (vz_gr P0) lv = lv') (hp' : pc + 3 = p')
    (h : vz_ev P0 d y p' lv' r (hp (st_x (st_a σ k (m, g)) u (.inl (0, (gN σ k), .inl (gE σ k))))) q) (hqy : vz_q y = false := by rfl) : vz_ev P0 d y pc lv (.ref u :: .ref a :: r) (hp σ) q := by
  subst hp' hlv hfn
  have hu : vz_lk ly u = none := ly_out (Or.inr h1)
  refine ev_h (z := (pc + 3, vz_fl (vz_gr P0) lv, r, vz_swp (hp σ) a j k u (ci, st_f σ a 0 ks) (0, m, .inl g) (0, (gN σ k), .inl (gE σ k)))) hT hI ?_ ?_
  · show (vz_F P0 y ix).bind _ = _
    rw [hF]
    show (vz_obj (hp σ) a).bind _ = _
    rw [hp_obj σ hl]
    show vz_b (ci == ci) (vz_b (decide (j < (st_f σ a 0 ks).length)) (vz_b (vz_fit ty (.ref u)) (vz_put P0 y pc lv (hp σ) (ci, j, ty, false) (.ref u) a r (ci, st_f σ a 0 ks)))) = _
    rw [beq_self_eq_true, st_f_len, decide_eq_true (ev_lt hj), hf]
    show vz_put P0 y pc lv (hp σ) (ci, j, ty, false) (.ref u) a r (ci, st_f σ a 0 ks) = _
    show (bif vz_ow (vz_gr P0) a j (.ref u) then _ else vz_b (Nat.blt 187 u && !false && !vz_q y) (((vz_gr P0).2.2 a j).bind fun k => (vz_arr (hp σ) u).bind fun x => (vz_arr (hp σ) k).bind fun x' => vz_b (vz_nbS (vz_gr P0) r) (some (pc + 3, vz_fl (vz_gr P0) lv, r, vz_swp (hp σ) a j k u (ci, st_f σ a 0 ks) x x')))) = _
    rw [ow_no h1 h2, cond_false]
    show vz_b (Nat.blt 187 u && !false && !vz_q y) (((vz_gr P0).2.2 a j).bind fun k => (vz_arr (hp σ) u).bind fun x => (vz_arr (hp σ) k).bind fun x' => vz_b (vz_nbS (vz_gr P0) r) (some (pc + 3, vz_fl (vz_gr P0) lv, r, vz_swp (hp σ) a j k u (ci, st_f σ a 0 ks) x x'))) = _
    rw [show (Nat.blt 187 u && !false && !vz_q y) = true from by rw [show Nat.blt 187 u = true from Nat.ble_eq_true_of_le h1, hqy]; rfl, hg]
    show (vz_arr (hp σ) u).bind (fun x => (vz_arr (hp σ) k).bind fun x' => vz_b (vz_nbS (vz_gr P0) r) (some (pc + 3, vz_fl (vz_gr P0) lv, r, vz_swp (hp σ) a j k u (ci, st_f σ a 0 ks) x x'))) = _
    rw [hx]
    show (vz_arr (hp σ) k).bind (fun x' => vz_b (vz_nbS (vz_gr P0) r) (some (pc + 3, vz_fl (vz_gr P0) lv, r, vz_swp (hp σ) a j k u (ci, st_f σ a 0 ks) (0, m, .inl g) x'))) = _
    rw [hp_arr σ hk (by decide)]
    show vz_b (vz_nbS (vz_gr P0) r) _ = _
    rw [hS]
    rfl
  · show vz_ev P0 d y (pc + 3) (vz_fl (vz_gr P0) lv) r (vz_swp (hp σ) a j k u (ci, st_f σ a 0 ks) (0, m, .inl g) (0, (gN σ k), .inl (gE σ k))) q
    exact ev_hp (st_h_g σ hl hj hk hu (m, g) _) h
end EG
/-- a throw, in the store -/
theorem ev_thr {d y pc : Nat} {lv : vz_L} {st : List Value} {σ : st_S} {E : String} (hT : vz_Th P0 y pc = some E) (hd : decide (8 ≤ d) = true) (h8 : decide ((st.map Value.category).sum ≤ 8) = true) : vz_ev P0 d y pc lv st (hp σ) (.inr E, hp (st_n σ 1 6)) := ev_q (congrArg (fun μ : vz_H => ((.inr E : vz_O), μ)) (st_h_n σ 1 6)) (ev_throw hT hd h8)
/-- Arrays.fill -/
def st_fp (σ : st_S) (a : Nat) (v : Int32) (i : Nat) : st_S := (σ.1, σ.2.1, σ.2.2.1, σ.2.2.2.1, va_up (gE σ) a (fun j => if j < i then v else gE σ a j), σ.2.2.2.2.2)
def st_fl (σ : st_S) (a : Nat) (v : Int32) : st_S := st_fp σ a v (gN σ a)
theorem st_fp_e (σ : st_S) (a : Nat) (v : Int32) (i : Nat) : st_e (st_fp σ a v i) a i v = st_fp σ a v (i + 1) := by
  have e2 : (fun j => if j = i then v else if j < i then v else gE σ a j) = fun j => if j < i + 1 then v else gE σ a j := by
    funext j
    by_cases e1 : j = i
    · rw [if_pos e1, if_pos (by omega)]
    · rw [if_neg e1]
      by_cases e2 : j < i
      · rw [if_pos e2, if_pos (by omega)]
      · rw [if_neg e2, if_neg (by omega)]
  have e : st_u (va_up (gE σ) a (fun j => if j < i then v else gE σ a j)) a i v = va_up (gE σ) a (fun j => if j < i + 1 then v else gE σ a j) := by
    rw [← va_up_st, va_up_self, va_up_up, e2]
  show (σ.1, σ.2.1, σ.2.2.1, σ.2.2.2.1, st_u (va_up (gE σ) a (fun j => if j < i then v else gE σ a j)) a i v, σ.2.2.2.2.2) = _
  rw [e]
  rfl
theorem st_fp_0 (σ : st_S) (a : Nat) (v : Int32) : st_fp σ a v 0 = σ := by
  have e : (fun j => if j < 0 then v else gE σ a j) = gE σ a := funext fun j => if_neg (Nat.not_lt_zero j)
  unfold st_fp
  rw [e, va_up_id]
theorem fl_step {d a n i : Nat} {v : Int32} {σ : st_S} {ks : List Nat} {q : vz_O × vz_H} (hl : vz_lk ly a = some (1, 0, ks)) (hn : (gN σ a) = n) (hN : n < 2 ^ 31) (hi : i < n) (h : vz_ev P0 d 56 5 [(2, .int (nI (i + 1))), (3, .int (nI n)), (0, .ref a), (1, .int v)] [] (hp (st_fp σ a v (i + 1))) q) : vz_ev P0 d 56 5 [(2, .int (nI i)), (3, .int (nI n)), (0, .ref a), (1, .int v)] [] (hp (st_fp σ a v i)) q := by
  refine ev_x (i := .iload_n 2) (len := 1) (p' := 6) (s' := [.int (nI i)]) rfl rfl rfl ?_
  refine ev_x (i := .iload_n 3) (len := 1) (p' := 7) (s' := [.int (nI n), .int (nI i)]) rfl rfl rfl ?_
  refine ev_b2 (t := 20) (p' := 10) rfl rfl rfl (if_neg (nI_ge hi hN)) ?_
  refine ev_x (i := .aload_n 0) (len := 1) (p' := 11) (s' := [.ref a]) rfl rfl rfl ?_
  refine ev_x (i := .iload_n 2) (len := 1) (p' := 12) (s' := [.int (nI i), .ref a]) rfl rfl rfl ?_
  refine ev_x (i := .iload_n 1) (len := 1) (p' := 13) (s' := [.int v, .int (nI i), .ref a]) rfl rfl rfl ?_
  refine ev_pa (j := i) (p' := 14) rfl rfl hl rfl (show vp_in (nI i) (gN σ a) by rw [hn]; exact vp_in_nI hi hN) (nI_clamp (by omega)) ?_
  refine ev_hs (st_fp_e σ a v i) ?_
  refine ev_x (i := .iinc 2 1) (len := 3) (p' := 17) (l' := [(2, .int (nI i + 1)), (3, .int (nI n)), (0, .ref a), (1, .int v)]) (s' := []) rfl rfl rfl ?_
  refine ev_lv (lv' := [(2, .int (nI (i + 1))), (3, .int (nI n)), (0, .ref a), (1, .int v)]) (congrArg (fun z => [(2, Value.int z), (3, .int (nI n)), (0, .ref a), (1, .int v)]) (nI_1 i)) ?_
  exact ev_x (i := .goto (-12)) (len := 3) (p' := 5) (s' := []) rfl rfl rfl h
theorem fl_loop {d a n : Nat} {v : Int32} {σ : st_S} {ks : List Nat} (hl : vz_lk ly a = some (1, 0, ks)) (hn : (gN σ a) = n) (hN : n < 2 ^ 31) : ∀ k i : Nat, i + k = n → vz_ev P0 d 56 5 [(2, .int (nI i)), (3, .int (nI n)), (0, .ref a), (1, .int v)] [] (hp (st_fp σ a v i)) (.inl none, hp (st_fl σ a v)) := by
  intro k
  induction k with
  | zero =>
    intro i hi
    have e : i = n := by omega
    subst e
    refine ev_x (i := .iload_n 2) (len := 1) (p' := 6) (s' := [.int (nI i)]) rfl rfl rfl ?_
    refine ev_x (i := .iload_n 3) (len := 1) (p' := 7) (s' := [.int (nI i), .int (nI i)]) rfl rfl rfl ?_
    refine ev_b2 (t := 20) (p' := 20) rfl rfl rfl (if_pos (nI_le (Nat.le_refl _) hN)) ?_
    exact ev_hs (show st_fp σ a v i = st_fl σ a v by unfold st_fl; rw [hn]) (ev_vret rfl rfl rfl)
  | succ k ih =>
    intro i hi
    exact fl_step hl hn hN (by omega) (ih (i + 1) (by omega))
theorem fl_ok {d a n : Nat} {v : Int32} {σ : st_S} {ks : List Nat} (hl : vz_lk ly a = some (1, 0, ks)) (hn : (gN σ a) = n) (hN : n < 2 ^ 31) (h0 : 0 < n) : vz_ev P0 d 56 0 (lv_args 0 [.ref a, .int v]) [] (hp σ) (.inl none, hp (st_fl σ a v)) := by
  refine ev_x (i := .iconst 0) (len := 1) (p' := 1) (s' := [.int (nI 0)]) rfl rfl rfl ?_
  refine ev_x (i := .istore_n 2) (len := 1) (p' := 2) (l' := [(2, .int (nI 0)), (0, .ref a), (1, .int v)]) (s' := []) rfl rfl rfl ?_
  refine ev_x (i := .aload_n 0) (len := 1) (p' := 3) (s' := [.ref a]) rfl rfl rfl ?_
  refine ev_al (p' := 4) (v := nI n) rfl rfl hl (by decide) (by decide) rfl (congrArg Int32.ofNat hn) ?_
  refine ev_x (i := .istore_n 3) (len := 1) (p' := 5) (l' := [(3, .int (nI n)), (2, .int (nI 0)), (0, .ref a), (1, .int v)]) (s' := []) rfl rfl rfl ?_
  refine ev_x (i := .iload_n 2) (len := 1) (p' := 6) (s' := [.int (nI 0)]) rfl rfl rfl ?_
  refine ev_x (i := .iload_n 3) (len := 1) (p' := 7) (s' := [.int (nI n), .int (nI 0)]) rfl rfl rfl ?_
  refine ev_b2 (t := 20) (p' := 10) rfl rfl rfl (if_neg (nI_ge h0 hN)) ?_
  refine ev_x (i := .aload_n 0) (len := 1) (p' := 11) (s' := [.ref a]) rfl rfl rfl ?_
  refine ev_x (i := .iload_n 2) (len := 1) (p' := 12) (s' := [.int (nI 0), .ref a]) rfl rfl rfl ?_
  refine ev_x (i := .iload_n 1) (len := 1) (p' := 13) (s' := [.int v, .int (nI 0), .ref a]) rfl rfl rfl ?_
  refine ev_pa (j := 0) (p' := 14) rfl rfl hl rfl (by rw [hn]; exact vp_in_nI h0 hN) (nI_clamp (by decide)) ?_
  refine ev_x (i := .iinc 2 1) (len := 3) (p' := 17) (l' := [(2, .int (nI 0 + 1)), (3, .int (nI n)), (0, .ref a), (1, .int v)]) (s' := []) rfl rfl rfl ?_
  refine ev_lv (lv' := [(2, .int (nI (0 + 1))), (3, .int (nI n)), (0, .ref a), (1, .int v)]) (congrArg (fun z => [(2, Value.int z), (3, .int (nI n)), (0, .ref a), (1, .int v)]) (nI_1 0)) ?_
  refine ev_x (i := .goto (-12)) (len := 3) (p' := 5) (s' := []) rfl rfl rfl ?_
  have e : st_e σ a 0 v = st_fp σ a v (0 + 1) := by
    rw [← st_fp_e, st_fp_0]
  refine ev_hs e ?_
  exact fl_loop hl hn hN (n - 1) (0 + 1) (by omega)
theorem fill_44 {d : Nat} {σ : st_S} (hn_44 : (gN σ 44) = 60) : vz_ev P0 (d + 1) 56 0 (lv_args 0 [.ref 44, .int 0]) [] (hp σ) (.inl none, hp (st_fl σ 44 0)) := fl_ok ly_44 hn_44 (by decide) (by decide)
