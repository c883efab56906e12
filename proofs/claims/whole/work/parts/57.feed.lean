/-! FEED, any store -/
/-- the first elements of an array -/
def Pre (f : Nat → Int32) (l : List Int32) : Prop := ∀ j (h : j < l.length), f j = l[j]
theorem Pre.sn {f : Nat → Nat → Int32} {a n : Nat} {l : List Int32} (v : Int32) (h : Pre (f a) l) (hn : l.length = n) : Pre (st_u f a n v a) (l ++ [v]) := by
  subst hn
  intro j hj
  have hlen : (l ++ [v]).length = l.length + 1 := by rw [List.length_append]; rfl
  by_cases e : j = l.length
  · subst e
    rw [st_u_s, List.getElem_append_right (Nat.le_refl _)]
    simp
  · have hj2 : j < l.length := by omega
    rw [st_u_k _ _ _ _ e, List.getElem_append_left hj2]
    exact h j hj2
/-- the class's tape -/
def Tp (σ : st_S) (l : List Int32) : Prop := gI σ 2 1 = nI l.length ∧ l.length ≤ gN σ 3 ∧ 256 ≤ gN σ 3 ∧ Pre (gE σ 3) l
def by_c (s x : Int32) : Int32 := (x.toUInt32 >>> (s.toUInt32 &&& Int32.toUInt32 31)).toInt32 &&& 255
def by_r (s x : Int32) : Int32 := (x >>> (s &&& 31)) &&& 255
def ap4 (f : Int32 → Int32 → Int32) (l : List Int32) (x : Int32) : List Int32 := (((l ++ [f 24 x]) ++ [f 16 x]) ++ [f 8 x]) ++ [f 0 x]
theorem ap4_len (f : Int32 → Int32 → Int32) (l : List Int32) (x : Int32) : (ap4 f l x).length = l.length + 4 := by
  unfold ap4
  rw [List.length_append, List.length_append, List.length_append, List.length_append]
  rfl
theorem ln1 {α : Type} (l : List α) (v : α) : (l ++ [v]).length = l.length + 1 := by rw [List.length_append]; rfl
set_option maxHeartbeats 4000000 in
theorem put_ok {d : Nat} {σ : st_S} {l : List Int32} {x : Int32} (h : Tp σ l) (hc : l.length + 4 ≤ gN σ 3) (hb : gN σ 3 ≤ 40000) : ∃ σ', vz_ev P0 (d + 1) 14 0 (lv_args 0 [.ref 2, .int x]) [] (hp σ) (.inl none, hp σ') ∧ Tp σ' (ap4 by_c l x) ∧ Fr 0 [(2, 1)] [] [] [3] [] σ σ' ∧ gN σ' 3 = gN σ 3 ∧ gC σ' = gC σ := by
  obtain ⟨h1, h2, h3, h4⟩ := h
  refine ⟨_, put_path (n := l.length) (hbig := by omega) (hi_2_1 := h1) (c_1 := nI_ge (by omega) (by omega)) (c_2 := vp_in_nI (by omega) (by omega)) (c_3 := nI_ge (by omega) (by omega)) (c_4 := vp_in_nI (by omega) (by omega)) (c_5 := nI_ge (by omega) (by omega)) (c_6 := vp_in_nI (by omega) (by omega)) (c_7 := nI_ge (by omega) (by omega)) (c_8 := vp_in_nI (by omega) (by omega)), ⟨?_, ?_, h3, ?_⟩, ?_, rfl, rfl⟩
  · rw [ap4_len]
    exact st_i_s _ 2 1 _
  · rw [ap4_len]
    exact hc
  · exact Pre.sn _ (Pre.sn _ (Pre.sn _ (Pre.sn _ h4 rfl) (ln1 _ _)) (by rw [ln1, ln1])) (by rw [ln1, ln1, ln1])
  · exact Fr.t0 (Fr.e _ _ _ (by decide)) (Fr.t0 (Fr.i _ _ (by decide)) (Fr.t0 (Fr.e _ _ _ (by decide)) (Fr.t0 (Fr.i _ _ (by decide)) (Fr.t0 (Fr.e _ _ _ (by decide)) (Fr.t0 (Fr.i _ _ (by decide)) (Fr.t0 (Fr.e _ _ _ (by decide)) (Fr.i _ _ (by decide))))))))
/-- a growing array doubled -/
theorem gw_fr {σ : st_S} {b n : Nat} {I J R : List (Nat × Nat)} {A L : List Nat} (hn : gN σ b = n) (h16 : 16 ≤ n) (hA : b ∈ A) (hg : b ∈ gra) : Fr 0 I J R A L σ (st_gw σ b n (2 * n)) := by
  have hN : ∀ a, a ≠ b → va_up (gN σ) b (2 * n) a = gN σ a := fun a ha => va_up_ne _ _ ha
  refine ⟨fun _ _ _ => rfl, fun _ _ _ => rfl, fun _ _ _ => rfl, fun a q => ?_, fun _ _ => rfl, ?_, ?_⟩
  · have ha : a ≠ b := fun e => q (e ▸ hA)
    exact ⟨hN a ha, va_up_ne _ _ ha⟩
  · exact gw_F σ b n (2 * n)
  · have e := Ph_one (σ := σ) (σ' := st_gw σ b n (2 * n)) (b := b) hN hg
    have e2 : gN (st_gw σ b n (2 * n)) b = 2 * n := va_up_self _ _ _
    rw [e2, hn] at e
    exact Po_gw (B := gB σ) (A := gA σ) (C := gC σ) (P := Ph σ) (P' := Ph (st_gw σ b n (2 * n))) e h16
theorem gw_pre {σ : st_S} {b n m : Nat} {l : List Int32} (h : Pre (gE σ b) l) (hl : l.length ≤ n) : Pre (gE (st_gw σ b n m) b) l := by
  intro j hj
  show va_up (gE σ) b (fun j => if j < n then gE σ b j else 0) b j = l[j]
  rw [va_up_self, if_pos (by omega)]
  exact h j hj
/-- Arrays.copyOf to a greater length -/
theorem cpy_eq (f : Nat → Int32) (n : Nat) : va_cpy f (fun _ => 0) 0 0 n = fun j => if j < n then f j else 0 := by
  funext j
  show (if 0 ≤ j ∧ j < 0 + n then f (0 + (j - 0)) else 0) = _
  by_cases e : j < n
  · rw [if_pos e, if_pos ⟨by omega, by omega⟩]
    congr 1
    omega
  · rw [if_neg e, if_neg (by omega)]
set_option maxHeartbeats 4000000 in
set_option maxRecDepth 100000 in
theorem copyOf_ok {d : Nat} {σ : st_S} {a n m : Nat} {ks : List Nat} (hl : vz_lk ly a = some (1, 0, ks)) (hn : gN σ a = n) (h1 : n < m) (hm : m < 100000000) (hq : gC σ + 188 < vz_M0) : vz_ev P0 (d + 4) 13 0 (lv_args 0 [.ref a, .int (nI m)]) [] (hp σ) (.inl (some (.ref (gC σ + 1 + 187))), hp (st_cp σ (gE σ a) m n)) := by
  refine ev_x (i := .iload_n 1) (len := 1) (p' := 1) (s' := [.int (nI m)]) rfl rfl rfl ?_
  refine ev_x (i := .aload_n 0) (len := 1) (p' := 2) (s' := [.ref a, .int (nI m)]) rfl rfl rfl ?_
  refine ev_al (p' := 3) (v := nI n) rfl rfl hl (by decide) (by decide) rfl (congrArg Int32.ofNat hn) ?_
  refine ev_b2 (t := 14) (p' := 14) rfl rfl rfl (if_pos (fun e => Nat.ne_of_gt h1 ((nI_eq (by omega) (by omega)).mp e))) ?_
  refine ev_x (i := .iload_n 1) (len := 1) (p' := 15) (s' := [.int (nI m)]) rfl rfl rfl ?_
  refine ev_nw (m := m) (p' := 17) rfl rfl rfl hm hq rfl ?_
  refine ev_x (i := .astore_n 2) (len := 1) (p' := 18) (l' := [(2, .ref (gC σ + 1 + 187)), (0, .ref a), (1, .int (nI m))]) (s' := []) rfl rfl rfl ?_
  refine ev_x (i := .aload_n 0) (len := 1) (p' := 19) (s' := [.ref a]) rfl rfl rfl ?_
  refine ev_x (i := .iconst 0) (len := 1) (p' := 20) (s' := [.int 0, .ref a]) rfl rfl rfl ?_
  refine ev_x (i := .aload_n 2) (len := 1) (p' := 21) (s' := [.ref (gC σ + 1 + 187), .int 0, .ref a]) rfl rfl rfl ?_
  refine ev_x (i := .iconst 0) (len := 1) (p' := 22) (s' := [.int 0, .ref (gC σ + 1 + 187), .int 0, .ref a]) rfl rfl rfl ?_
  refine ev_x (i := .aload_n 0) (len := 1) (p' := 23) (s' := [.ref a, .int 0, .ref (gC σ + 1 + 187), .int 0, .ref a]) rfl rfl rfl ?_
  refine ev_al (p' := 24) (v := nI n) rfl rfl hl (by decide) (by decide) rfl (congrArg Int32.ofNat hn) ?_
  refine ev_x (i := .iload_n 1) (len := 1) (p' := 25) (s' := [.int (nI m), .int (nI n), .int 0, .ref (gC σ + 1 + 187), .int 0, .ref a]) rfl rfl rfl ?_
  refine ev_math (As := [.int (nI n), .int (nI m)]) (rest := [.int 0, .ref (gC σ + 1 + 187), .int 0, .ref a]) (x := nI n) rfl rfl rfl rfl rfl rfl (congrArg (fun z => some (Value.int z)) (if_neg (nI_nlt (Nat.le_of_lt h1) (by omega)))) ?_
  have e1 : (nI n).toNatClampNeg = n := nI_clamp (by omega)
  refine ev_copy (z := ([], vz_upd (hp (st_w σ (.inl (0, m, .inl fun _ => 0)) m)) (gC σ + 1 + 187) (.inl (0, m, .inl (va_cpy (gE σ a) (fun _ => 0) 0 0 n))))) rfl rfl rfl rfl rfl ?_ rfl ?_
  · show (vz_arr (hp (st_w σ (.inl (0, m, .inl fun _ => 0)) m)) a).bind _ = _
    rw [hp_arr _ hl (by decide)]
    show (vz_arr (hp (st_w σ (.inl (0, m, .inl fun _ => 0)) m)) (gC σ + 1 + 187)).bind _ = _
    rw [hp_out (st_w σ (.inl (0, m, .inl fun _ => 0)) m) (a := gC σ + 1 + 187) (x := (0, m, .inl fun _ => 0)) (ly_out (Or.inr (by omega))) (Nat.le_refl _) (va_up_self _ _ _)]
    show (if (0 : Int32) < 0 ∨ (0 : Int32) < 0 ∨ nI n < 0 ∨ gN σ a < (0 : Int32).toNatClampNeg + (nI n).toNatClampNeg ∨ m < (0 : Int32).toNatClampNeg + (nI n).toNatClampNeg ∨ gC σ + 1 + 187 = 0 ∨ a = 0 then none else some ([], vz_upd (hp (st_w σ (.inl (0, m, .inl fun _ => 0)) m)) (gC σ + 1 + 187) (.inl (0, m, .inl (va_cpy (gE σ a) (fun _ => 0) (0 : Int32).toNatClampNeg (0 : Int32).toNatClampNeg (nI n).toNatClampNeg))))) = _
    have h0 : (0 : Int32).toNatClampNeg = 0 := by decide
    rw [e1, h0, if_neg]
    rintro (e | e | e | e | e | e | e)
    · exact absurd e (by decide)
    · exact absurd e (by decide)
    · exact nI_pos (by omega) e
    · omega
    · omega
    · omega
    · have := (ly_in_rng hl).1
      omega
  refine ev_hp (st_h_x _ _ (ly_out (Or.inr (by omega)))) ?_
  refine ev_hs (σ' := st_cp σ (gE σ a) m n) ?_ ?_
  · rw [cpy_eq]
    unfold st_cp st_x st_w
    show (_, _, _, _, _, _, _, va_up (va_up _ _ _) _ _, _, _) = _
    rw [va_up_up]
  refine ev_x (i := .aload_n 2) (len := 1) (p' := 32) (s' := [.ref (gC σ + 1 + 187)]) rfl rfl rfl ?_
  exact ev_aret rfl rfl rfl rfl
set_option maxHeartbeats 4000000 in
set_option maxRecDepth 100000 in
/-- makeRoom, when the tape grows -/
theorem mr_grow {d : Nat} {σ : st_S} {n m : Nat} (hi : gI σ 2 1 = nI n) (hm : gN σ 3 = m) (h1 : m < n + 20) (hn : n ≤ 40000) (h0 : 0 < m) (hq : gC σ + 188 < vz_M0) : vz_ev P0 (d + 9) 12 0 (lv_args 0 [.ref 2]) [] (hp σ) (.inl none, hp (st_gw σ 3 m (2 * m))) := by
  refine ev_x (i := .aload_n 0) (len := 1) (p' := 1) (s' := [.ref 2]) rfl rfl rfl ?_
  refine ev_gi (p' := 4) (v := nI n) rfl rfl rfl ly_2 rfl rfl hi ?_
  refine ev_x (i := .bipush 20) (len := 2) (p' := 6) (s' := [.int 20, .int (nI n)]) rfl rfl rfl ?_
  refine ev_x (i := .iadd) (len := 1) (p' := 7) (s' := [.int (nI n + 20)]) rfl rfl rfl ?_
  refine ev_st (st' := [.int (nI (n + 20))]) (congrArg (fun z => [Value.int z]) (nI_add n 20)) ?_
  refine ev_x (i := .aload_n 0) (len := 1) (p' := 8) (s' := [.ref 2, .int (nI (n + 20))]) rfl rfl rfl ?_
  refine ev_gc (p' := 11) (v := 3) rfl rfl rfl ly_2 rfl rfl ?_
  refine ev_al (p' := 12) (v := nI m) rfl rfl ly_3 (by decide) (by decide) rfl (congrArg Int32.ofNat hm) ?_
  refine ev_b2 (t := 33) (p' := 15) rfl rfl rfl (if_neg (nI_ge h1 (by omega))) ?_
  refine ev_x (i := .aload_n 0) (len := 1) (p' := 16) (s' := [.ref 2]) rfl rfl rfl ?_
  refine ev_x (i := .aload_n 0) (len := 1) (p' := 17) (s' := [.ref 2, .ref 2]) rfl rfl rfl ?_
  refine ev_gc (p' := 20) (v := 3) rfl rfl rfl ly_2 rfl rfl ?_
  refine ev_x (i := .iconst 2) (len := 1) (p' := 21) (s' := [.int (nI 2), .ref 3, .ref 2]) rfl rfl rfl ?_
  refine ev_x (i := .aload_n 0) (len := 1) (p' := 22) (s' := [.ref 2, .int (nI 2), .ref 3, .ref 2]) rfl rfl rfl ?_
  refine ev_gc (p' := 25) (v := 3) rfl rfl rfl ly_2 rfl rfl ?_
  refine ev_al (p' := 26) (v := nI m) rfl rfl ly_3 (by decide) (by decide) rfl (congrArg Int32.ofNat hm) ?_
  refine ev_x (i := .imul) (len := 1) (p' := 27) (s' := [.int (nI 2 * nI m), .ref 3, .ref 2]) rfl rfl rfl ?_
  refine ev_st (st' := [.int (nI (2 * m)), .ref 3, .ref 2]) (congrArg (fun z => [Value.int z, .ref 3, .ref 2]) (pk_mul 2 m)) ?_
  refine ev_callS (d := d + 8) (As := [.ref 3, .int (nI (2 * m))]) rfl rfl rfl (by decide) rfl rfl rfl rfl rfl (copyOf_ok (d := d + 4) (m := 2 * m) ly_3 hm (by omega) (by omega) hq) ?_
  refine ev_st (st' := [.ref (gC σ + 1 + 187), .ref 2]) rfl ?_
  refine ev_pc (pc' := 30) rfl ?_
  refine ev_pg (k := 3) (p' := 33) (lv' := [(0, .ref 2)]) rfl rfl rfl ly_2 rfl ly_3 (by omega) (show gC σ + 1 + 187 < vz_M0 by omega) rfl rfl rfl (cp_arr σ _ (2 * m) m) rfl rfl rfl ?_
  refine ev_hs (σ' := st_gw σ 3 m (2 * m)) rfl ?_
  exact ev_vret rfl rfl rfl
/-- makeRoom -/
theorem mr_ok {d : Nat} {σ : st_S} {l : List Int32} (h : Tp σ l) (hl : l.length + 20 ≤ 16384) (hq : gC σ + 188 < vz_M0) (hb : gN σ 3 ≤ 32768) : ∃ σ', vz_ev P0 (d + 9) 12 0 (lv_args 0 [.ref 2]) [] (hp σ) (.inl none, hp σ') ∧ Tp σ' l ∧ Fr 0 [(2, 1)] [] [] [3] [] σ σ' ∧ l.length + 20 ≤ gN σ' 3 ∧ gN σ' 3 ≤ 32768 ∧ gC σ' ≤ gC σ + 1 := by
  obtain ⟨h1, h2, h3, h4⟩ := h
  by_cases e : l.length + 20 ≤ gN σ 3
  · exact ⟨σ, mr_path (d := d + 8) (n := l.length) (hi_2_1 := h1) (c_1 := nI_le e (by omega)), ⟨h1, h2, h3, h4⟩, Fr.rf σ, e, hb, Nat.le_succ _⟩
  · refine ⟨_, mr_grow (n := l.length) (m := gN σ 3) h1 rfl (by omega) (by omega) (by omega) hq, ⟨h1, ?_, ?_, gw_pre h4 h2⟩, gw_fr rfl (by omega) (by decide) (by decide), ?_, ?_, Nat.le_refl _⟩
    · show l.length ≤ 2 * gN σ 3
      omega
    · show 256 ≤ 2 * gN σ 3
      omega
    · show l.length + 20 ≤ 2 * gN σ 3
      omega
    · show 2 * gN σ 3 ≤ 32768
      omega
def ap20 (f : Int32 → Int32 → Int32) (l : List Int32) (a b c d e : Int32) : List Int32 := ap4 f (ap4 f (ap4 f (ap4 f (ap4 f l a) b) c) d) e
theorem ap20_len (f : Int32 → Int32 → Int32) (l : List Int32) (a b c d e : Int32) : (ap20 f l a b c d e).length = l.length + 20 := by
  unfold ap20
  rw [ap4_len, ap4_len, ap4_len, ap4_len, ap4_len]
set_option maxHeartbeats 4000000 in
/-- feed of the class -/
theorem feed_ok {d : Nat} {σ : st_S} {l : List Int32} {a b c e f : Int32} (h : Tp σ l) (hl : l.length + 20 ≤ 16384) (hq : gC σ + 188 < vz_M0) (hb : gN σ 3 ≤ 32768) : ∃ σ', vz_ev P0 (d + 10) 11 0 (lv_args 0 [.ref 1, .int a, .int b, .int c, .int e, .int f]) [] (hp σ) (.inl (some (.int (nI (l.length + 20)))), hp σ') ∧ Tp σ' (ap20 by_c l a b c e f) ∧ Fr 0 [(2, 1)] [] [] [3] [] σ σ' ∧ gN σ' 3 ≤ 32768 ∧ gC σ' ≤ gC σ + 1 := by
  obtain ⟨σ1, k1, t1, r1, c1, b1, g1⟩ := mr_ok (d := d) h hl hq hb
  obtain ⟨σ2, k2, t2, r2, n2, g2⟩ := put_ok (d := d + 8) (x := a) t1 (by omega) (by omega)
  obtain ⟨σ3, k3, t3, r3, n3, g3⟩ := put_ok (d := d + 8) (x := b) t2 (by rw [ap4_len, n2]; omega) (by omega)
  obtain ⟨σ4, k4, t4, r4, n4, g4⟩ := put_ok (d := d + 8) (x := c) t3 (by rw [ap4_len, ap4_len, n3, n2]; omega) (by omega)
  obtain ⟨σ5, k5, t5, r5, n5, g5⟩ := put_ok (d := d + 8) (x := e) t4 (by rw [ap4_len, ap4_len, ap4_len, n4, n3, n2]; omega) (by omega)
  obtain ⟨σ6, k6, t6, r6, n6, g6⟩ := put_ok (d := d + 8) (x := f) t5 (by rw [ap4_len, ap4_len, ap4_len, ap4_len, n5, n4, n3, n2]; omega) (by omega)
  refine ⟨σ6, ?_, t6, r1.t0 (r2.t0 (r3.t0 (r4.t0 (r5.t0 r6)))), by omega, by omega⟩
  have hx := feed_path (n := l.length) (hi_2_1 := h.1) (c_1 := nI_le (b := 16384) hl (by decide)) (k_1 := k1) (k_2 := k2) (k_3 := k3) (k_4 := k4) (k_5 := k5) (k_6 := k6)
  have e6 : gI σ6 2 1 = nI (l.length + 20) := t6.1.trans (congrArg nI (ap20_len by_c l a b c e f))
  exact ev_q (congrArg (fun z => ((.inl (some (Value.int z)) : vz_O), hp σ6)) e6) hx
