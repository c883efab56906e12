/-! METHODS AS FUNCTIONS OF THE STORE: what the printed functions are made of (wip/prog/dec2.py prints them) -/
theorem F_if {α : Type} {c : Prop} [Decidable c] {a b : Option α} {p : α} {G : Prop} (H : (if c then a else b) = some p) (h1 : c → a = some p → G) (h2 : ¬ c → b = some p → G) : G := by
  by_cases h : c
  · rw [if_pos h] at H
    exact h1 h H
  · rw [if_neg h] at H
    exact h2 h H
theorem F_gd {α : Type} {c : Prop} [Decidable c] {a : Option α} {p : α} (H : (if c then a else none) = some p) : c ∧ a = some p := by
  by_cases h : c
  · rw [if_pos h] at H
    exact ⟨h, H⟩
  · rw [if_neg h] at H
    cases H
theorem F_bd {α β : Type} {a : Option α} {f : α → Option β} {p : β} (H : a.bind f = some p) : ∃ z, a = some z ∧ f z = some p := by
  cases a with
  | none => cases H
  | some z => exact ⟨z, rfl, H⟩
theorem F_jn {A G : Prop} (a : A) (f : A → G) : G := f a
/-- an index within -/
abbrev aB (i : Int32) (n : Nat) : Prop := ¬ i < 0 ∧ i.toNatClampNeg < n
theorem gd_in {i : Int32} {n : Nat} (h : aB i n) : vp_in i n := fun e => e.elim h.1 (fun q => Nat.not_lt.mpr q h.2)
theorem aB_nI {i n : Nat} (h : i < n) (hn : n < 2 ^ 31) : aB (nI i) n := ⟨nI_pos (by omega), by rw [nI_clamp (by omega)]; exact h⟩
/-- a growing array may become so long -/
abbrev gwB (σ : st_S) (a : Nat) (x : Int32) : Prop := ¬ x < 0 ∧ gN σ a < x.toNatClampNeg ∧ x.toNatClampNeg < 100000000 ∧ gC σ + 188 < vz_M0
theorem nI_cl {x : Int32} (h : ¬ x < 0) : x = nI x.toNatClampNeg := by
  have h1 : 0 ≤ x.toInt := by
    rw [Int32.lt_iff_toInt_lt, Int32.toInt_zero] at h
    omega
  have h2 : x.toInt < 2 ^ 31 := Int32.toInt_lt x
  have e : x.toNatClampNeg = x.toInt.toNat := rfl
  apply Int32.toInt_inj.mp
  rw [nI_toInt (by rw [e]; omega), e]
  omega
theorem vg_s2 (lv : vz_L) (i : Nat) (v : Value) : vz_g (vz_s2 lv i v) i = some v := by
  show (if i = i then some v else _) = some v
  exact if_pos rfl
theorem vg_o2 {lv : vz_L} {i k : Nat} {v w : Value} (h : vz_g lv k = some w) (hk : k ≠ i) (hk2 : k ≠ i + 1) (hc : w.category = 1 ∨ k + 1 ≠ i) : vz_g (vz_s2 lv i v) k = some w := by
  show (if i = k then some v else vz_g (lv.filter (fun q => !(q.1 == i) && (!(q.1 == i + 1) && !(q.1 + 1 == i && q.2.category == 2)))) k) = some w
  rw [if_neg (fun e => hk e.symm)]
  refine vg_f h ?_
  show (!(k == i) && (!(k == i + 1) && !(k + 1 == i && w.category == 2))) = true
  rw [beq_eq_false_iff_ne.mpr hk, beq_eq_false_iff_ne.mpr hk2]
  rcases hc with c | c
  · rw [c]
    cases (k + 1 == i) <;> rfl
  · rw [beq_eq_false_iff_ne.mpr c]
    rfl
theorem nb_s2 {g : vz_Gr} {lv : vz_L} {i : Nat} {v : Value} (h : vz_nbL g lv = true) (hv : vz_nb g v = true) : vz_nbL g (vz_s2 lv i v) = true := by
  refine List.all_eq_true.mpr fun q hq => ?_
  rcases List.mem_cons.mp hq with e | e
  · rw [e]
    exact hv
  · exact List.all_eq_true.mp h q (List.mem_filter.mp e).1
section DV
variable {d y pc p' : Nat} {lv : vz_L} {r : List Value} {μ : vz_H} {q : vz_O × vz_H} {x z : Int64}
theorem ev_ldiv (hT : vz_Th P0 y pc = none) (hI : vz_I P0 y pc = some (.ldiv, 1)) (hz : ¬ z = 0) (hp' : pc + 1 = p') (k : vz_ev P0 d y p' lv (.long (x / z) :: r) μ q) : vz_ev P0 d y pc lv (.long z :: .long x :: r) μ q := by
  subst hp'
  refine ev_x (i := .ldiv) (len := 1) (p' := pc + 1) (l' := lv) (s' := .long (x / z) :: r) (μ' := μ) hT hI ?_ k
  show ((vz_b (!decide (z = 0)) (some (pc + 1, lv, .long (x / z) :: r))).bind fun z => some (z.1, z.2.1, z.2.2, μ)) = _
  rw [decide_eq_false hz]
  rfl
theorem ev_lrem (hT : vz_Th P0 y pc = none) (hI : vz_I P0 y pc = some (.lrem, 1)) (hz : ¬ z = 0) (hp' : pc + 1 = p') (k : vz_ev P0 d y p' lv (.long (x - x / z * z) :: r) μ q) : vz_ev P0 d y pc lv (.long z :: .long x :: r) μ q := by
  subst hp'
  refine ev_x (i := .lrem) (len := 1) (p' := pc + 1) (l' := lv) (s' := .long (x - x / z * z) :: r) (μ' := μ) hT hI ?_ k
  show ((vz_b (!decide (z = 0)) (some (pc + 1, lv, .long (x - x / z * z) :: r))).bind fun z => some (z.1, z.2.1, z.2.2, μ)) = _
  rw [decide_eq_false hz]
  rfl
end DV
/-! switches -/
theorem i32_ne {x v : Int32} {k : Int} (hk : v.toInt = k) (c : ¬ x = v) : k ≠ x.toInt := fun e => c (Int32.toInt_inj.mp (by rw [← e, hk]))
theorem ls_ne {a o df k : Int} {r : List (Int × Int)} (h : a ≠ k) : Op.lookupswitch.offset ((a, o) :: r) df k = Op.lookupswitch.offset r df k := by
  rw [Op.lookupswitch.offset_cons, if_neg h]
theorem ls_go {pc : Nat} {z df : Int} {t : Nat} (e : z = df) (h : (pc : Int) + df = .ofNat t) : (pc : Int) + z = .ofNat t := by rw [e]; exact h
/-! a growing array grows: Arrays.copyOf, and into its slot -/
theorem fl_id {g : vz_Gr} {lv : vz_L} (h : vz_nbL g lv = true) : vz_fl g lv = lv := List.filter_eq_self.mpr fun q hq => List.all_eq_true.mp h q hq
set_option maxHeartbeats 1000000 in
theorem ev_gw {d y pc ix ix2 a ci j k p' : Nat} {ty : FieldType} {fn : Bool} {ks kk : List Nat} {x : Int32} {σ : st_S} {lv : vz_L} {r : List Value} {q : vz_O × vz_H} (hT : vz_Th P0 y pc = none) (hI : vz_I P0 y pc = some (.invokestatic ix, 3)) (hC : vz_Cl P0 y ix = some (0, 13, 2)) (hT2 : vz_Th P0 y (pc + 3) = none) (hI2 : vz_I P0 y (pc + 3) = some (.putfield ix2, 3)) (hF : vz_F P0 y ix2 = some (ci, j, ty, fn)) (hl : vz_lk ly a = some (0, ci, ks)) (hj : ks[j]? = some (k + 3)) (hk : vz_lk ly k = some (1, 0, kk)) (hf : ∀ u : Nat, vz_fit ty (.ref u) = true) (hfn : fn = false) (hg : (vz_gr P0).2.2 a j = some k) (h8 : decide (((Value.ref a :: r).map Value.category).sum ≤ 8) = true) (hS : vz_nbS (vz_gr P0) (.ref a :: r) = true) (hL : vz_nbL (vz_gr P0) lv = true) (b : gwB σ k x) (hp' : pc + 6 = p')
    (h : vz_ev P0 (d + 5) y p' lv r (hp (st_gw σ k (gN σ k) x.toNatClampNeg)) q) (hqy : vz_q y = false := by rfl) : vz_ev P0 (d + 5) y pc lv (.int x :: .ref k :: .ref a :: r) (hp σ) q := by
  subst hp'
  obtain ⟨b1, b2, b3, b4⟩ := b
  have hS2 : vz_nbS (vz_gr P0) r = true := by
    refine List.all_eq_true.mpr fun v hv => List.all_eq_true.mp hS v (List.mem_cons_of_mem _ hv)
  refine ev_st (st' := .int (nI x.toNatClampNeg) :: .ref k :: .ref a :: r) (congrArg (fun z => Value.int z :: .ref k :: .ref a :: r) (nI_cl b1)) ?_
  refine ev_callS (d := d + 4) (As := [.ref k, .int (nI x.toNatClampNeg)]) (rest := .ref a :: r) hT hI hC (Or.inl rfl) rfl h8 rfl hS hL (copyOf_ok (d := d) (m := x.toNatClampNeg) hk rfl b2 b3 b4) (hq := by rw [hqy]; rfl) ?_
  refine ev_pg (k := k) (p' := pc + 6) (lv' := lv) hT2 hI2 hF hl hj hk (show 187 < gC σ + 1 + 187 by omega) (show gC σ + 1 + 187 < vz_M0 by omega) (hf _) hfn hg (cp_arr σ _ x.toNatClampNeg (gN σ k)) hS2 (fl_id hL) (by omega) (hqy := hqy) ?_
  exact ev_hs (σ' := st_gw σ k (gN σ k) x.toNatClampNeg) rfl h
/-! texts -/
def tx_1 (w : Nat) (i : Int32) : Option Int32 := (tb_tx[w]?).bind fun t => if i < 0 then none else (t[i.toNatClampNeg]?).bind fun c => some (nI c)
def tx_2 (w : Nat) (c : Int32) : Option Int32 := (tb_tx[w]?).bind fun t => if c < 0 ∨ 255 < c then none else match t.findIdx? (fun z => decide (nI z = c)) with
  | some i => some (nI i)
  | none => some (-1)
theorem bi_eq (k : Nat) (As : List Value) : vz_bi P0 k As = tb_bi k As := rfl
set_option maxRecDepth 100000 in
theorem tx_1_g {a : Nat} {i x : Int32} (h : tx_1 (a - vz_M0) i = some x) : vz_bi P0 1 [.ref a, .int i] = some (.int x) := by
  unfold tx_1 at h
  obtain ⟨t, h1, h⟩ := F_bd h
  rw [bi_eq]
  simp only [tb_bi, h1, Option.bind_some]
  by_cases c : i < 0
  · rw [if_pos c] at h
    cases h
  · rw [if_neg c] at h
    rw [if_neg c]
    obtain ⟨z, h2, h⟩ := F_bd h
    rw [h2, Option.bind_some]
    exact congrArg (fun z => some (Value.int z)) (Option.some.inj h)
theorem M0_sub (w : Nat) : 1000000 + w - vz_M0 = w := Nat.add_sub_cancel_left 1000000 w
theorem tx_1_ok {w : Nat} {i x : Int32} (h : tx_1 w i = some x) : vz_bi P0 1 [.ref (1000000 + w), .int i] = some (.int x) := tx_1_g (by rw [M0_sub]; exact h)
set_option maxRecDepth 100000 in
theorem tx_2_g {a : Nat} {i x : Int32} (h : tx_2 (a - vz_M0) i = some x) : vz_bi P0 2 [.ref a, .int i] = some (.int x) := by
  unfold tx_2 at h
  obtain ⟨t, h1, h⟩ := F_bd h
  rw [bi_eq]
  simp only [tb_bi, h1, Option.bind_some]
  by_cases c : i < 0 ∨ 255 < i
  · rw [if_pos c] at h
    cases h
  · rw [if_neg c] at h
    rw [if_neg c]
    cases hf : t.findIdx? (fun z => decide (nI z = i)) with
    | none => rw [hf] at h; exact congrArg (fun z => some (Value.int z)) (Option.some.inj h)
    | some j => rw [hf] at h; exact congrArg (fun z => some (Value.int z)) (Option.some.inj h)
theorem tx_2_ok {w : Nat} {i x : Int32} (h : tx_2 w i = some x) : vz_bi P0 2 [.ref (1000000 + w), .int i] = some (.int x) := tx_2_g (by rw [M0_sub]; exact h)
def gr_l : List (Nat × (Nat × Nat)) := [(3, 2, 0), (6, 5, 0), (7, 5, 1), (8, 5, 2), (9, 5, 3), (10, 5, 4), (11, 5, 5), (12, 5, 6), (13, 5, 7), (22, 21, 0), (23, 21, 1), (24, 21, 2), (25, 21, 3), (26, 21, 4), (27, 21, 5), (28, 21, 6), (29, 21, 7), (54, 52, 1), (55, 52, 2), (56, 52, 3), (57, 52, 4), (58, 52, 5), (59, 52, 6), (60, 52, 7), (61, 52, 8), (68, 67, 0), (70, 69, 0), (72, 71, 0), (74, 73, 0), (76, 75, 0), (78, 77, 0), (81, 80, 0), (83, 82, 0), (85, 84, 0), (87, 86, 0), (89, 88, 0), (91, 90, 0), (110, 109, 0), (112, 111, 0), (114, 113, 0), (117, 116, 0), (119, 118, 0), (121, 120, 0), (123, 122, 0), (125, 124, 0), (127, 126, 0), (146, 145, 0), (148, 147, 0), (150, 149, 0), (152, 151, 0), (154, 153, 0), (156, 155, 0), (158, 157, 0), (160, 159, 0), (162, 161, 0), (166, 165, 0), (176, 175, 0), (178, 177, 0), (180, 179, 0)]
theorem gr_eq : tb_gr.2.1 = vz_lk gr_l := rfl
theorem gr_rng : (gr_l.all fun p => Nat.ble p.1 187) = true := by decide +kernel
theorem nb_tx (w : Nat) : vz_nb (vz_gr P0) (.ref (1000000 + w)) = true := by
  have h : tb_gr.2.1 (1000000 + w) = none := by
    cases e : tb_gr.2.1 (1000000 + w) with
    | none => rfl
    | some x =>
      rw [gr_eq] at e
      have h1 := Nat.le_of_ble_eq_true (List.all_eq_true.mp gr_rng _ (vz_lk_mem e))
      have h2 : 1000000 + w ≤ 187 := h1
      omega
  show ((Nat.ble (1000000 + w) 187 || Nat.ble vz_M0 (1000000 + w)) && (tb_gr.2.1 (1000000 + w)).isNone) = true
  rw [h, show Nat.ble vz_M0 (1000000 + w) = true from Nat.ble_eq_true_of_le (Nat.le_add_right _ _)]
  cases Nat.ble (1000000 + w) 187 <;> rfl
theorem nbL_c {g : vz_Gr} {k : Nat} {v : Value} {lv : vz_L} (h1 : vz_nb g v = true) (h2 : vz_nbL g lv = true) : vz_nbL g ((k, v) :: lv) = true := by
  show (vz_nb g v && vz_nbL g lv) = true
  rw [h1, h2]
  rfl
def tx_0 (w : Nat) : Option Int32 := (tb_tx[w]?).bind fun t => some (nI t.length)
set_option maxRecDepth 100000 in
theorem tx_0_g {a : Nat} {x : Int32} (h : tx_0 (a - vz_M0) = some x) : vz_bi P0 0 [.ref a] = some (.int x) := by
  unfold tx_0 at h
  obtain ⟨t, h1, h⟩ := F_bd h
  rw [bi_eq]
  simp only [tb_bi, h1, Option.bind_some]
  rw [Option.some.inj h]
theorem tx_0_ok {w : Nat} {x : Int32} (h : tx_0 w = some x) : vz_bi P0 0 [.ref (1000000 + w)] = some (.int x) := tx_0_g (by rw [M0_sub]; exact h)
/-! System.arraycopy between lasting arrays -/
abbrev acB (ls ld : Nat) (sp dp n : Int32) : Prop := ¬ sp < 0 ∧ ¬ dp < 0 ∧ ¬ n < 0 ∧ sp.toNatClampNeg + n.toNatClampNeg ≤ ls ∧ dp.toNatClampNeg + n.toNatClampNeg ≤ ld
def st_ac (σ : st_S) (src sp dst dp n : Nat) : st_S := st_a σ dst (gN σ dst, va_cpy (gE σ src) (gE σ dst) sp dp n)
theorem ev_ac {d y pc ix src dst p' : Nat} {sp dp n : Int32} {σ : st_S} {ks kd : List Nat} {lv : vz_L} {r : List Value} {q : vz_O × vz_H} (hT : vz_Th P0 y pc = none) (hI : vz_I P0 y pc = some (.invokestatic ix, 3)) (hC : vz_Cl P0 y ix = some (5, 0, 5)) (hs : vz_lk ly src = some (1, 0, ks)) (hd : vz_lk ly dst = some (1, 0, kd)) (b : acB (gN σ src) (gN σ dst) sp dp n) (h8 : decide ((r.map Value.category).sum ≤ 8) = true) (hp' : pc + 3 = p') (k : vz_ev P0 (d + 1) y p' lv r (hp (st_ac σ src sp.toNatClampNeg dst dp.toNatClampNeg n.toNatClampNeg)) q) : vz_ev P0 (d + 1) y pc lv (.int n :: .int dp :: .ref dst :: .int sp :: .ref src :: r) (hp σ) q := by
  subst hp'
  obtain ⟨b1, b2, b3, b4, b5⟩ := b
  refine ev_copy (z := (r, vz_upd (hp σ) dst (.inl (0, gN σ dst, .inl (va_cpy (gE σ src) (gE σ dst) sp.toNatClampNeg dp.toNatClampNeg n.toNatClampNeg))))) hT hI hC ?_ rfl ?_ h8 ?_
  · exact decide_eq_true (by show 5 ≤ r.length + 1 + 1 + 1 + 1 + 1; omega)
  · show (vz_arr (hp σ) src).bind _ = _
    rw [hp_arr _ hs (by decide)]
    show (vz_arr (hp σ) dst).bind _ = _
    rw [hp_arr _ hd (by decide)]
    show (if sp < 0 ∨ dp < 0 ∨ n < 0 ∨ gN σ src < sp.toNatClampNeg + n.toNatClampNeg ∨ gN σ dst < dp.toNatClampNeg + n.toNatClampNeg ∨ dst = 0 ∨ src = 0 then none else some (r, vz_upd (hp σ) dst (.inl (0, gN σ dst, .inl (va_cpy (gE σ src) (gE σ dst) sp.toNatClampNeg dp.toNatClampNeg n.toNatClampNeg))))) = _
    rw [if_neg]
    rintro (e | e | e | e | e | e | e)
    · exact b1 e
    · exact b2 e
    · exact b3 e
    · omega
    · omega
    · have := (ly_in_rng hd).1
      omega
    · have := (ly_in_rng hs).1
      omega
  · exact ev_hp (st_h_a (N := 187) (σ := σ) hd (by decide) (gN σ dst, va_cpy (gE σ src) (gE σ dst) sp.toNatClampNeg dp.toNatClampNeg n.toNatClampNeg)) k
theorem fit_b {x : Int32} (h : x = 0 ∨ x = 1) : vz_fit .boolean (.int x) = true := by
  rcases h with rfl | rfl <;> rfl
theorem gR_gw (σ : st_S) (b n m : Nat) : gR (st_gw σ b n m) = gR σ := rfl
