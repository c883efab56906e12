/-! ROWS OVER THE STORE: an instruction a row, the heap is always hp σ -/
/-! branches -/
section EB
variable {P : vz_P} {d y pc t p' : Nat} {cd : ClassFile.Cond} {off : Int} {x z : Int32} {lv : vz_L} {r : List Value} {μ : vz_H} {q : vz_O × vz_H}
theorem ev_b2 (hT : vz_Th P y pc = none) (hI : vz_I P y pc = some (.if_icmp cd off, 3)) (hj : (pc : Int) + off = .ofNat t) (hc : vz_c2 cd x z t pc = p') (k : vz_ev P d y p' lv r μ q) : vz_ev P d y pc lv (.int z :: .int x :: r) μ q := by
  subst hc
  refine ev_h (z := (vz_c2 cd x z t pc, lv, r, μ)) hT hI ?_ k
  show (vz_n 3 3 (vz_j pc off fun t => some (vz_c2 cd x z t pc, lv, r))).bind _ = _
  unfold vz_j
  rw [hj]
  rfl
theorem ev_b0 (hT : vz_Th P y pc = none) (hI : vz_I P y pc = some (.ifCond cd off, 3)) (hj : (pc : Int) + off = .ofNat t) (hc : vz_c0 cd x t pc = p') (k : vz_ev P d y p' lv r μ q) : vz_ev P d y pc lv (.int x :: r) μ q := by
  subst hc
  refine ev_h (z := (vz_c0 cd x t pc, lv, r, μ)) hT hI ?_ k
  show (vz_n 3 3 (vz_j pc off fun t => some (vz_c0 cd x t pc, lv, r))).bind _ = _
  unfold vz_j
  rw [hj]
  rfl
theorem ev_ts {len : Nat} {df lo hi : Int} {offs : Array Int} (hT : vz_Th P y pc = none) (hI : vz_I P y pc = some (.tableswitch df lo hi offs, len)) (hx : (if x.toInt < lo ∨ hi < x.toInt then some df else offs[(x.toInt - lo).toNat]?) = some off) (hj : (pc : Int) + off = .ofNat t) (k : vz_ev P d y t lv r μ q) : vz_ev P d y pc lv (.int x :: r) μ q := by
  refine ev_h (z := (t, lv, r, μ)) hT hI ?_ k
  show (if x.toInt < lo ∨ hi < x.toInt then vz_j pc df fun t => some (t, lv, r) else (offs[(x.toInt - lo).toNat]?).bind fun off => vz_j pc off fun t => some (t, lv, r)).bind _ = _
  by_cases e : x.toInt < lo ∨ hi < x.toInt
  · rw [if_pos e] at hx ⊢
    cases hx
    unfold vz_j
    rw [hj]
    rfl
  · rw [if_neg e] at hx ⊢
    rw [hx]
    show (vz_j pc off fun t => some (t, lv, r)).bind _ = _
    unfold vz_j
    rw [hj]
    rfl
theorem ev_ls {len : Nat} {df : Int} {ps : Array (Int × Int)} (hT : vz_Th P y pc = none) (hI : vz_I P y pc = some (.lookupswitch df ps, len)) (hs : ((ps.toList.zip (ps.toList.drop 1)).all (fun (a, next) => a.1 < next.1)) = true) (hj : (pc : Int) + Op.lookupswitch.offset ps.toList df x.toInt = .ofNat t) (k : vz_ev P d y t lv r μ q) : vz_ev P d y pc lv (.int x :: r) μ q := by
  refine ev_h (z := (t, lv, r, μ)) hT hI ?_ k
  show (vz_b ((ps.toList.zip (ps.toList.drop 1)).all (fun (a, next) => a.1 < next.1)) (vz_j pc (Op.lookupswitch.offset ps.toList df x.toInt) fun t => some (t, lv, r))).bind _ = _
  rw [hs]
  unfold vz_j
  rw [hj]
  rfl
end EB
theorem sp_in_of {i : Int32} {n m : Nat} (h : n = m) (hd : (!(decide (i < 0)) && decide (i.toNatClampNeg < m)) = true) : vp_in i n := by
  subst h
  obtain ⟨h1, h2⟩ := Bool.and_eq_true_iff.mp hd
  have h3 : ¬ i < 0 := by simpa using h1
  have h4 : i.toNatClampNeg < n := of_decide_eq_true h2
  rintro (e | e)
  · exact h3 e
  · omega
theorem sp_in_L {i : Int32} {L : Nat} (h6 : 6 ≤ L) (hd : (!(decide (i < 0)) && decide (i.toNatClampNeg < 6)) = true) : vp_in i L := by
  obtain ⟨h1, h2⟩ := Bool.and_eq_true_iff.mp hd
  have h3 : ¬ i < 0 := by simpa using h1
  have h4 : i.toNatClampNeg < 6 := of_decide_eq_true h2
  rintro (e | e)
  · exact h3 e
  · omega
theorem ly_rng : (ly.all fun p => Nat.ble 1 p.1 && Nat.ble p.1 187) = true := by decide +kernel
theorem ly_in_rng {a : Nat} {x : Nat × Nat × List Nat} (h : vz_lk ly a = some x) : 0 < a ∧ a ≤ 187 := by
  have h1 := List.all_eq_true.mp ly_rng _ (vz_lk_mem h)
  obtain ⟨h2, h3⟩ := Bool.and_eq_true_iff.mp h1
  exact ⟨Nat.le_of_ble_eq_true h2, Nat.le_of_ble_eq_true h3⟩
theorem ly_out {a : Nat} (h : a = 0 ∨ 187 < a) : vz_lk ly a = none := by
  cases e : vz_lk ly a with
  | none => rfl
  | some x => have h1 := ly_in_rng e; omega
theorem hp_obj (σ : st_S) {a ci : Nat} {ks : List Nat} (hl : vz_lk ly a = some (0, ci, ks)) : vz_obj (hp σ) a = some (ci, st_f σ a 0 ks) := by
  have h1 := ly_in_rng hl
  unfold vz_obj
  rw [if_pos ⟨h1.1, show a ≤ (hp σ).1 from (by show a ≤ gC σ + 187; omega)⟩]
  have h2 : (hp σ).2.1 a = .inr (ci, st_f σ a 0 ks) := by
    show st_c ly σ a = _
    unfold st_c
    rw [hl]
    rfl
  rw [h2]
theorem hp_arr (σ : st_S) {a : Nat} {t : Nat} {ks : List Nat} (hl : vz_lk ly a = some (1, t, ks)) (ht : t ≠ 1) : vz_arr (hp σ) a = some (t, (gN σ a), .inl (gE σ a)) := by
  have h1 := ly_in_rng hl
  unfold vz_arr
  rw [if_pos (show a ≤ (hp σ).1 from (by show a ≤ gC σ + 187; omega))]
  have h2 : (hp σ).2.1 a = .inl (t, (gN σ a), .inl (gE σ a)) := by
    show st_c ly σ a = _
    unfold st_c
    rw [hl]
    split
    · next h => cases h
    · next h => cases h; exact absurd rfl ht
    · next h => cases h; rfl
    · next h => cases h
  rw [h2]
theorem hp_arl (σ : st_S) {a : Nat} {ks : List Nat} (hl : vz_lk ly a = some (1, 1, ks)) : vz_arr (hp σ) a = some (1, (gN σ a), .inr (.inl (gL σ a))) := by
  have h1 := ly_in_rng hl
  unfold vz_arr
  rw [if_pos (show a ≤ (hp σ).1 from (by show a ≤ gC σ + 187; omega))]
  have h2 : (hp σ).2.1 a = .inl (1, (gN σ a), .inr (.inl (gL σ a))) := by
    show st_c ly σ a = _
    unfold st_c
    rw [hl]
    rfl
  rw [h2]
/-- a cell that isn't of the layout: the script, a fresh array -/
theorem hp_out (σ : st_S) {a : Nat} {x : Nat × vp_A} (hl : vz_lk ly a = none) (h1 : a ≤ gC σ + 187) (h : gF σ a = .inl x) : vz_arr (hp σ) a = some x := by
  unfold vz_arr
  rw [if_pos (show a ≤ (hp σ).1 from h1)]
  have h2 : (hp σ).2.1 a = .inl x := by
    show st_c ly σ a = _
    unfold st_c
    rw [hl]
    exact h
  rw [h2]
theorem st_f_len (σ : st_S) (a : Nat) : ∀ (ks : List Nat) (k : Nat), (st_f σ a k ks).length = ks.length := by
  intro ks
  induction ks with
  | nil => intro k; rfl
  | cons q r ih =>
    intro k
    match q with
    | 0 => show (st_f σ a (k + 1) r).length + 1 = r.length + 1; rw [ih]
    | 1 => show (st_f σ a (k + 1) r).length + 1 = r.length + 1; rw [ih]
    | 2 => show (st_f σ a (k + 1) r).length + 1 = r.length + 1; rw [ih]
    | q + 3 => show (st_f σ a (k + 1) r).length + 1 = r.length + 1; rw [ih]
theorem st_f_0 (σ : st_S) (a : Nat) : ∀ (ks : List Nat) (n k0 : Nat), ks[n]? = some 0 → (st_f σ a k0 ks)[n]? = some (.int (σ.1 a (k0 + n))) := by
  intro ks
  induction ks with
  | nil => intro n k0 h; cases h
  | cons q r ih =>
    intro n k0 h
    cases n with
    | zero =>
      have h : q = 0 := by simpa using h
      subst h
      rfl
    | succ n =>
      have e := ih n (k0 + 1) (by simpa using h)
      rw [show k0 + 1 + n = k0 + (n + 1) by omega] at e
      match q with
      | 0 => exact e
      | 1 => exact e
      | 2 => exact e
      | q + 3 => exact e
theorem st_f_1 (σ : st_S) (a : Nat) : ∀ (ks : List Nat) (n k0 : Nat), ks[n]? = some 1 → (st_f σ a k0 ks)[n]? = some (.long (σ.2.1 a (k0 + n))) := by
  intro ks
  induction ks with
  | nil => intro n k0 h; cases h
  | cons q r ih =>
    intro n k0 h
    cases n with
    | zero =>
      have h : q = 1 := by simpa using h
      subst h
      rfl
    | succ n =>
      have e := ih n (k0 + 1) (by simpa using h)
      rw [show k0 + 1 + n = k0 + (n + 1) by omega] at e
      match q with
      | 0 => exact e
      | 1 => exact e
      | 2 => exact e
      | q + 3 => exact e
theorem st_f_2 (σ : st_S) (a : Nat) : ∀ (ks : List Nat) (n k0 : Nat), ks[n]? = some 2 → (st_f σ a k0 ks)[n]? = some (.ref (σ.2.2.1 a (k0 + n))) := by
  intro ks
  induction ks with
  | nil => intro n k0 h; cases h
  | cons q r ih =>
    intro n k0 h
    cases n with
    | zero =>
      have h : q = 2 := by simpa using h
      subst h
      rfl
    | succ n =>
      have e := ih n (k0 + 1) (by simpa using h)
      rw [show k0 + 1 + n = k0 + (n + 1) by omega] at e
      match q with
      | 0 => exact e
      | 1 => exact e
      | 2 => exact e
      | q + 3 => exact e
theorem st_f_3 (σ : st_S) (a b : Nat) : ∀ (ks : List Nat) (n k0 : Nat), ks[n]? = some (b + 3) → (st_f σ a k0 ks)[n]? = some (.ref b) := by
  intro ks
  induction ks with
  | nil => intro n k0 h; cases h
  | cons q r ih =>
    intro n k0 h
    cases n with
    | zero =>
      have h : q = b + 3 := by simpa using h
      subst h
      rfl
    | succ n =>
      have e := ih n (k0 + 1) (by simpa using h)
      match q with
      | 0 => exact e
      | 1 => exact e
      | 2 => exact e
      | q + 3 => exact e
section ER
variable {d y pc ix a ci k j p' : Nat} {ty : FieldType} {fn : Bool} {σ : st_S} {ks : List Nat} {lv : vz_L} {r : List Value} {q : vz_O × vz_H}
theorem ev_gi {v : Int32} (hT : vz_Th P0 y pc = none) (hI : vz_I P0 y pc = some (.getfield ix, 3)) (hF : vz_F P0 y ix = some (ci, k, ty, fn)) (hl : vz_lk ly a = some (0, ci, ks)) (hk : ks[k]? = some 0) (hp' : pc + 3 = p') (hv : σ.1 a k = v) (h : vz_ev P0 d y p' lv (.int v :: r) (hp σ) q) : vz_ev P0 d y pc lv (.ref a :: r) (hp σ) q := by
  subst hp' hv
  exact ev_gf hT hI hF (hp_obj σ hl) (beq_self_eq_true ci) ((st_f_0 σ a ks k 0 hk).trans (by rw [Nat.zero_add])) h
theorem ev_gl {v : Int64} (hT : vz_Th P0 y pc = none) (hI : vz_I P0 y pc = some (.getfield ix, 3)) (hF : vz_F P0 y ix = some (ci, k, ty, fn)) (hl : vz_lk ly a = some (0, ci, ks)) (hk : ks[k]? = some 1) (hp' : pc + 3 = p') (hv : σ.2.1 a k = v) (h : vz_ev P0 d y p' lv (.long v :: r) (hp σ) q) : vz_ev P0 d y pc lv (.ref a :: r) (hp σ) q := by
  subst hp' hv
  exact ev_gf hT hI hF (hp_obj σ hl) (beq_self_eq_true ci) ((st_f_1 σ a ks k 0 hk).trans (by rw [Nat.zero_add])) h
theorem ev_gr {v : Nat} (hT : vz_Th P0 y pc = none) (hI : vz_I P0 y pc = some (.getfield ix, 3)) (hF : vz_F P0 y ix = some (ci, k, ty, fn)) (hl : vz_lk ly a = some (0, ci, ks)) (hk : ks[k]? = some 2) (hp' : pc + 3 = p') (hv : σ.2.2.1 a k = v) (h : vz_ev P0 d y p' lv (.ref v :: r) (hp σ) q) : vz_ev P0 d y pc lv (.ref a :: r) (hp σ) q := by
  subst hp' hv
  exact ev_gf hT hI hF (hp_obj σ hl) (beq_self_eq_true ci) ((st_f_2 σ a ks k 0 hk).trans (by rw [Nat.zero_add])) h
theorem ev_gc {v : Nat} (hT : vz_Th P0 y pc = none) (hI : vz_I P0 y pc = some (.getfield ix, 3)) (hF : vz_F P0 y ix = some (ci, k, ty, fn)) (hl : vz_lk ly a = some (0, ci, ks)) (hk : ks[k]? = some (v + 3)) (hp' : pc + 3 = p') (h : vz_ev P0 d y p' lv (.ref v :: r) (hp σ) q) : vz_ev P0 d y pc lv (.ref a :: r) (hp σ) q := by
  subst hp'
  exact ev_gf hT hI hF (hp_obj σ hl) (beq_self_eq_true ci) (st_f_3 σ a v ks k 0 hk) h
theorem ev_put {v : Value} (hT : vz_Th P0 y pc = none) (hI : vz_I P0 y pc = some (.putfield ix, 3)) (hF : vz_F P0 y ix = some (ci, k, ty, fn)) (hl : vz_lk ly a = some (0, ci, ks)) (hk : k < ks.length) (hf : vz_fit ty v = true) (ho : vz_ow (vz_gr P0) a k v = true) (hn : (!fn || (vz_ini P0 y && ci == vz_ci P0 y)) = true) (h : vz_ev P0 d y (pc + 3) lv r (vz_upd (hp σ) a (.inr (ci, (st_f σ a 0 ks).set k v))) q) : vz_ev P0 d y pc lv (v :: .ref a :: r) (hp σ) q := by
  refine ev_h (z := (pc + 3, lv, r, vz_upd (hp σ) a (.inr (ci, (st_f σ a 0 ks).set k v)))) hT hI ?_ h
  show (vz_F P0 y ix).bind _ = _
  rw [hF]
  show (vz_obj (hp σ) a).bind _ = _
  rw [hp_obj σ hl]
  show vz_b (ci == ci) (vz_b (decide (k < (st_f σ a 0 ks).length)) (vz_b (vz_fit ty v) (vz_put P0 y pc lv (hp σ) (ci, k, ty, fn) v a r (ci, st_f σ a 0 ks)))) = _
  rw [beq_self_eq_true, st_f_len, decide_eq_true hk, hf]
  show vz_put P0 y pc lv (hp σ) (ci, k, ty, fn) v a r (ci, st_f σ a 0 ks) = _
  show (bif vz_ow (vz_gr P0) a k v then vz_b (!fn || (vz_ini P0 y && ci == vz_ci P0 y)) (some (pc + 3, lv, r, vz_upd (hp σ) a (.inr (ci, (st_f σ a 0 ks).set k v)))) else _) = _
  rw [ho, cond_true, hn]
  rfl
theorem ev_lt {x : Nat} (hk : ks[k]? = some x) : k < ks.length := (List.getElem?_eq_some_iff.mp hk).elim fun h _ => h
theorem ev_pi {v : Int32} (hT : vz_Th P0 y pc = none) (hI : vz_I P0 y pc = some (.putfield ix, 3)) (hF : vz_F P0 y ix = some (ci, k, ty, fn)) (hl : vz_lk ly a = some (0, ci, ks)) (hk : ks[k]? = some 0) (hp' : pc + 3 = p') (hf : vz_fit ty (.int v) = true) (hn : (!fn || (vz_ini P0 y && ci == vz_ci P0 y)) = true) (h : vz_ev P0 d y p' lv r (hp (st_i σ a k v)) q) : vz_ev P0 d y pc lv (.int v :: .ref a :: r) (hp σ) q := by
  subst hp'
  exact ev_put hT hI hF hl (ev_lt hk) hf rfl hn (ev_hp (st_h_i hl hk v) h)
theorem ev_pl {v : Int64} (hT : vz_Th P0 y pc = none) (hI : vz_I P0 y pc = some (.putfield ix, 3)) (hF : vz_F P0 y ix = some (ci, k, ty, fn)) (hl : vz_lk ly a = some (0, ci, ks)) (hk : ks[k]? = some 1) (hp' : pc + 3 = p') (hf : vz_fit ty (.long v) = true) (hn : (!fn || (vz_ini P0 y && ci == vz_ci P0 y)) = true) (h : vz_ev P0 d y p' lv r (hp (st_l σ a k v)) q) : vz_ev P0 d y pc lv (.long v :: .ref a :: r) (hp σ) q := by
  subst hp'
  exact ev_put hT hI hF hl (ev_lt hk) hf rfl hn (ev_hp (st_h_l hl hk v) h)
theorem ev_pr {v : Nat} (hT : vz_Th P0 y pc = none) (hI : vz_I P0 y pc = some (.putfield ix, 3)) (hF : vz_F P0 y ix = some (ci, k, ty, fn)) (hl : vz_lk ly a = some (0, ci, ks)) (hk : ks[k]? = some 2) (hp' : pc + 3 = p') (hf : vz_fit ty (.ref v) = true) (hn : (!fn || (vz_ini P0 y && ci == vz_ci P0 y)) = true) (ho : vz_ow (vz_gr P0) a k (.ref v) = true) (h : vz_ev P0 d y p' lv r (hp (st_r σ a k v)) q) : vz_ev P0 d y pc lv (.ref v :: .ref a :: r) (hp σ) q := by
  subst hp'
  exact ev_put hT hI hF hl (ev_lt hk) hf ho hn (ev_hp (st_h_r hl hk v) h)
theorem ev_ga {v i : Int32} (hT : vz_Th P0 y pc = none) (hI : vz_I P0 y pc = some (.iaload, 1)) (hl : vz_lk ly a = some (1, 0, ks)) (hp' : pc + 1 = p') (hi : vp_in i (gN σ a)) (hv : (gE σ a) i.toNatClampNeg = v) (h : vz_ev P0 d y p' lv (.int v :: r) (hp σ) q) : vz_ev P0 d y pc lv (.int i :: .ref a :: r) (hp σ) q := by
  subst hp' hv
  exact ev_iald hT hI (hp_arr σ hl (by decide)) hi h
theorem ev_gb {v i : Int32} (hT : vz_Th P0 y pc = none) (hI : vz_I P0 y pc = some (.baload, 1)) (hl : vz_lk ly a = some (1, 2, ks)) (hp' : pc + 1 = p') (hi : vp_in i (gN σ a)) (hv : (gE σ a) i.toNatClampNeg = v) (h : vz_ev P0 d y p' lv (.int v :: r) (hp σ) q) : vz_ev P0 d y pc lv (.int i :: .ref a :: r) (hp σ) q := by
  subst hp' hv
  exact ev_bald hT hI (decide_eq_true (ly_in_rng hl).1) (hp_arr σ hl (by decide)) hi h
theorem ev_gL {v : Int64} {i : Int32} (hT : vz_Th P0 y pc = none) (hI : vz_I P0 y pc = some (.laload, 1)) (hl : vz_lk ly a = some (1, 1, ks)) (hp' : pc + 1 = p') (hi : vp_in i (gN σ a)) (hv : (gL σ a) i.toNatClampNeg = v) (h : vz_ev P0 d y p' lv (.long v :: r) (hp σ) q) : vz_ev P0 d y pc lv (.int i :: .ref a :: r) (hp σ) q := by
  subst hp' hv
  exact ev_lald hT hI (decide_eq_true (ly_in_rng hl).1) (hp_arl σ hl) hi h
theorem ev_pa {v i : Int32} (hT : vz_Th P0 y pc = none) (hI : vz_I P0 y pc = some (.iastore, 1)) (hl : vz_lk ly a = some (1, 0, ks)) (hp' : pc + 1 = p') (hi : vp_in i (gN σ a)) (hj : i.toNatClampNeg = j) (h : vz_ev P0 d y p' lv r (hp (st_e σ a j v)) q) : vz_ev P0 d y pc lv (.int v :: .int i :: .ref a :: r) (hp σ) q := by
  subst hp' hj
  exact ev_iast hT hI (decide_eq_true (ly_in_rng hl).1) (hp_arr σ hl (by decide)) hi (ev_hp (st_h_a hl (by decide) (gN σ a, upd (gE σ a) i.toNatClampNeg v)) (ev_hp (congrArg hp (st_a_e σ a _ v)) h))
theorem ev_pb {v i : Int32} (hT : vz_Th P0 y pc = none) (hI : vz_I P0 y pc = some (.bastore, 1)) (hl : vz_lk ly a = some (1, 2, ks)) (hp' : pc + 1 = p') (hi : vp_in i (gN σ a)) (hj : i.toNatClampNeg = j) (h : vz_ev P0 d y p' lv r (hp (st_e σ a j (vp_nar .boolean v))) q) : vz_ev P0 d y pc lv (.int v :: .int i :: .ref a :: r) (hp σ) q := by
  subst hp' hj
  exact ev_bast hT hI (decide_eq_true (ly_in_rng hl).1) (hp_arr σ hl (by decide)) hi (ev_hp (st_h_a hl (by decide) (gN σ a, upd (gE σ a) i.toNatClampNeg (vp_nar .boolean v))) (ev_hp (congrArg hp (st_a_e σ a _ _)) h))
theorem ev_pL {v : Int64} {i : Int32} (hT : vz_Th P0 y pc = none) (hI : vz_I P0 y pc = some (.lastore, 1)) (hl : vz_lk ly a = some (1, 1, ks)) (hp' : pc + 1 = p') (hi : vp_in i (gN σ a)) (hj : i.toNatClampNeg = j) (h : vz_ev P0 d y p' lv r (hp (st_E σ a j v)) q) : vz_ev P0 d y pc lv (.long v :: .int i :: .ref a :: r) (hp σ) q := by
  subst hp' hj
  exact ev_last hT hI (decide_eq_true (ly_in_rng hl).1) (hp_arl σ hl) hi (ev_hp (st_h_b hl (gN σ a, vp_updL (gL σ a) i.toNatClampNeg v)) (ev_hp (congrArg hp (st_b_E σ a _ v)) h))
theorem ev_al {v : Int32} {t : Nat} (hT : vz_Th P0 y pc = none) (hI : vz_I P0 y pc = some (.arraylength, 1)) (hl : vz_lk ly a = some (1, t, ks)) (ht : t ≠ 1) (h3 : t < 3) (hp' : pc + 1 = p') (hv : Int32.ofNat (gN σ a) = v) (h : vz_ev P0 d y p' lv (.int v :: r) (hp σ) q) : vz_ev P0 d y pc lv (.ref a :: r) (hp σ) q := by
  subst hp' hv
  refine ev_h (z := (pc + 1, lv, .int (Int32.ofNat (gN σ a)) :: r, hp σ)) hT hI ?_ h
  show (vz_arr (hp σ) a).bind _ = _
  rw [hp_arr σ hl ht]
  show vz_b (decide (t < 3)) _ = _
  rw [decide_eq_true h3]
  rfl
/-- the script -/
theorem ev_sl {L : Nat} {xs : Nat → Int32} (hT : vz_Th P0 y pc = none) (hI : vz_I P0 y pc = some (.arraylength, 1)) (hs : gF σ 0 = .inl (0, L, .inl xs)) (hp' : pc + 1 = p') (h : vz_ev P0 d y p' lv (.int (Int32.ofNat L) :: r) (hp σ) q) : vz_ev P0 d y pc lv (.ref 0 :: r) (hp σ) q := by
  subst hp'
  refine ev_h (z := (pc + 1, lv, .int (Int32.ofNat L) :: r, hp σ)) hT hI ?_ h
  show (vz_arr (hp σ) 0).bind _ = _
  rw [hp_out σ (ly_out (Or.inl rfl)) (Nat.zero_le _) hs]
  rfl
theorem ev_sg {L : Nat} {xs : Nat → Int32} {i : Int32} (hT : vz_Th P0 y pc = none) (hI : vz_I P0 y pc = some (.iaload, 1)) (hs : gF σ 0 = .inl (0, L, .inl xs)) (hi : vp_in i L) (hp' : pc + 1 = p') (h : vz_ev P0 d y p' lv (.int (xs i.toNatClampNeg) :: r) (hp σ) q) : vz_ev P0 d y pc lv (.int i :: .ref 0 :: r) (hp σ) q := by
  subst hp'
  exact ev_iald hT hI (hp_out σ (ly_out (Or.inl rfl)) (Nat.zero_le _) hs) hi h
end ER
section EC
variable {d y pc y' ix na a ci p' : Nat} {σ σ1 : st_S} {ks : List Nat} {lv : vz_L} {As rest : List Value} {q : vz_O × vz_H} {v : Option Value}
/-- a call of a method of a lasting object -/
theorem ev_cv (hT : vz_Th P0 y pc = none) (hI : vz_I P0 y pc = some (.invokevirtual ix, 3)) (hC : vz_Cl P0 y ix = some (1, y', na)) (hl : vz_lk ly a = some (0, ci, ks)) (hc : (ci == vz_ci P0 y') = true) (hna : As.length = na) (h8 : decide ((rest.map Value.category).sum ≤ 8) = true) (hml : decide (((Value.ref a :: As).map Value.category).sum ≤ vz_ml P0 y') = true) (hS : vz_nbS (vz_gq (vz_gr P0) y') rest = true) (hL : vz_nbL (vz_gr P0) lv = true) (hp' : pc + 3 = p')
    (h1 : vz_ev P0 d y' 0 (lv_args 0 (.ref a :: As)) [] (hp σ) (.inl v, hp σ1)) (h2 : vz_ev P0 (d + 1) y p' lv (v.toList ++ rest) (hp σ1) q) (hq : (!vz_q y || vz_q y') = true := by rfl) : vz_ev P0 (d + 1) y pc lv (As.reverse ++ .ref a :: rest) (hp σ) q := by
  subst hp'
  exact ev_callV hT hI hC hna (hp_obj σ hl) hc h8 hml hS hL h1 h2 hq
end EC
set_option maxRecDepth 100000 in
theorem ly_1 : vz_lk ly 1 = some (0, 0, [5, 39, 49, 55, 65, 2, 2, 0, 0, 0]) := rfl
set_option maxRecDepth 100000 in
theorem ly_2 : vz_lk ly 2 = some (0, 1, [6, 0, 0, 0, 0, 0, 0]) := rfl
set_option maxRecDepth 100000 in
theorem ly_3 : vz_lk ly 3 = some (1, 0, []) := rfl
set_option maxRecDepth 100000 in
theorem ly_4 : vz_lk ly 4 = some (0, 2, [8, 17, 18, 19, 20, 21, 22, 0, 0, 0, 0, 0]) := rfl
set_option maxRecDepth 100000 in
theorem ly_5 : vz_lk ly 5 = some (0, 3, [9, 10, 11, 12, 13, 14, 15, 16, 0]) := rfl
set_option maxRecDepth 100000 in
theorem ly_6 : vz_lk ly 6 = some (1, 0, []) := rfl
set_option maxRecDepth 100000 in
theorem ly_7 : vz_lk ly 7 = some (1, 0, []) := rfl
set_option maxRecDepth 100000 in
theorem ly_8 : vz_lk ly 8 = some (1, 0, []) := rfl
set_option maxRecDepth 100000 in
theorem ly_9 : vz_lk ly 9 = some (1, 0, []) := rfl
set_option maxRecDepth 100000 in
theorem ly_10 : vz_lk ly 10 = some (1, 0, []) := rfl
set_option maxRecDepth 100000 in
theorem ly_11 : vz_lk ly 11 = some (1, 0, []) := rfl
set_option maxRecDepth 100000 in
theorem ly_12 : vz_lk ly 12 = some (1, 0, []) := rfl
set_option maxRecDepth 100000 in
theorem ly_13 : vz_lk ly 13 = some (1, 0, []) := rfl
set_option maxRecDepth 100000 in
theorem ly_14 : vz_lk ly 14 = some (1, 0, []) := rfl
set_option maxRecDepth 100000 in
theorem ly_15 : vz_lk ly 15 = some (1, 0, []) := rfl
set_option maxRecDepth 100000 in
theorem ly_16 : vz_lk ly 16 = some (1, 0, []) := rfl
set_option maxRecDepth 100000 in
theorem ly_17 : vz_lk ly 17 = some (1, 0, []) := rfl
set_option maxRecDepth 100000 in
theorem ly_18 : vz_lk ly 18 = some (1, 0, []) := rfl
set_option maxRecDepth 100000 in
theorem ly_19 : vz_lk ly 19 = some (1, 0, []) := rfl
set_option maxRecDepth 100000 in
theorem ly_20 : vz_lk ly 20 = some (0, 2, [24, 33, 34, 35, 36, 37, 38, 0, 0, 0, 0, 0]) := rfl
set_option maxRecDepth 100000 in
theorem ly_21 : vz_lk ly 21 = some (0, 3, [25, 26, 27, 28, 29, 30, 31, 32, 0]) := rfl
set_option maxRecDepth 100000 in
theorem ly_22 : vz_lk ly 22 = some (1, 0, []) := rfl
set_option maxRecDepth 100000 in
theorem ly_23 : vz_lk ly 23 = some (1, 0, []) := rfl
set_option maxRecDepth 100000 in
theorem ly_24 : vz_lk ly 24 = some (1, 0, []) := rfl
set_option maxRecDepth 100000 in
theorem ly_25 : vz_lk ly 25 = some (1, 0, []) := rfl
set_option maxRecDepth 100000 in
theorem ly_26 : vz_lk ly 26 = some (1, 0, []) := rfl
set_option maxRecDepth 100000 in
theorem ly_27 : vz_lk ly 27 = some (1, 0, []) := rfl
set_option maxRecDepth 100000 in
theorem ly_28 : vz_lk ly 28 = some (1, 0, []) := rfl
set_option maxRecDepth 100000 in
theorem ly_29 : vz_lk ly 29 = some (1, 0, []) := rfl
set_option maxRecDepth 100000 in
theorem ly_30 : vz_lk ly 30 = some (1, 0, []) := rfl
set_option maxRecDepth 100000 in
theorem ly_31 : vz_lk ly 31 = some (1, 0, []) := rfl
set_option maxRecDepth 100000 in
theorem ly_32 : vz_lk ly 32 = some (1, 0, []) := rfl
set_option maxRecDepth 100000 in
theorem ly_33 : vz_lk ly 33 = some (1, 0, []) := rfl
set_option maxRecDepth 100000 in
theorem ly_34 : vz_lk ly 34 = some (1, 0, []) := rfl
set_option maxRecDepth 100000 in
theorem ly_35 : vz_lk ly 35 = some (1, 0, []) := rfl
set_option maxRecDepth 100000 in
theorem ly_36 : vz_lk ly 36 = some (0, 4, [5, 40, 41, 42, 43, 44, 0, 2, 0, 0, 0, 0, 0, 0, 0, 0, 0]) := rfl
set_option maxRecDepth 100000 in
theorem ly_37 : vz_lk ly 37 = some (1, 0, []) := rfl
set_option maxRecDepth 100000 in
theorem ly_38 : vz_lk ly 38 = some (1, 0, []) := rfl
set_option maxRecDepth 100000 in
theorem ly_39 : vz_lk ly 39 = some (1, 0, []) := rfl
set_option maxRecDepth 100000 in
theorem ly_40 : vz_lk ly 40 = some (1, 0, []) := rfl
set_option maxRecDepth 100000 in
theorem ly_41 : vz_lk ly 41 = some (1, 0, []) := rfl
set_option maxRecDepth 100000 in
theorem ly_42 : vz_lk ly 42 = some (0, 5, [46, 47, 48, 2, 2, 0, 0, 1, 1]) := rfl
set_option maxRecDepth 100000 in
theorem ly_43 : vz_lk ly 43 = some (1, 0, []) := rfl
set_option maxRecDepth 100000 in
theorem ly_44 : vz_lk ly 44 = some (1, 0, []) := rfl
set_option maxRecDepth 100000 in
theorem ly_45 : vz_lk ly 45 = some (1, 0, []) := rfl
set_option maxRecDepth 100000 in
theorem ly_46 : vz_lk ly 46 = some (0, 6, [50, 45, 2, 2, 0, 0, 0, 0, 0, 0, 0, 0, 0]) := rfl
set_option maxRecDepth 100000 in
theorem ly_47 : vz_lk ly 47 = some (0, 7, [5, 51, 52, 53, 54, 0]) := rfl
set_option maxRecDepth 100000 in
theorem ly_48 : vz_lk ly 48 = some (1, 0, []) := rfl
set_option maxRecDepth 100000 in
theorem ly_49 : vz_lk ly 49 = some (1, 0, []) := rfl
set_option maxRecDepth 100000 in
theorem ly_50 : vz_lk ly 50 = some (1, 0, []) := rfl
set_option maxRecDepth 100000 in
theorem ly_51 : vz_lk ly 51 = some (1, 0, []) := rfl
set_option maxRecDepth 100000 in
theorem ly_52 : vz_lk ly 52 = some (0, 8, [56, 57, 58, 59, 60, 61, 62, 63, 64, 0, 0, 0, 0]) := rfl
set_option maxRecDepth 100000 in
theorem ly_53 : vz_lk ly 53 = some (1, 0, []) := rfl
set_option maxRecDepth 100000 in
theorem ly_54 : vz_lk ly 54 = some (1, 0, []) := rfl
set_option maxRecDepth 100000 in
theorem ly_55 : vz_lk ly 55 = some (1, 0, []) := rfl
set_option maxRecDepth 100000 in
theorem ly_56 : vz_lk ly 56 = some (1, 0, []) := rfl
set_option maxRecDepth 100000 in
theorem ly_57 : vz_lk ly 57 = some (1, 0, []) := rfl
set_option maxRecDepth 100000 in
theorem ly_58 : vz_lk ly 58 = some (1, 0, []) := rfl
set_option maxRecDepth 100000 in
theorem ly_59 : vz_lk ly 59 = some (1, 0, []) := rfl
set_option maxRecDepth 100000 in
theorem ly_60 : vz_lk ly 60 = some (1, 0, []) := rfl
set_option maxRecDepth 100000 in
theorem ly_61 : vz_lk ly 61 = some (1, 0, []) := rfl
set_option maxRecDepth 100000 in
theorem ly_62 : vz_lk ly 62 = some (0, 9, [45, 55, 66, 67, 68, 2, 2, 0, 0, 0]) := rfl
set_option maxRecDepth 100000 in
theorem ly_63 : vz_lk ly 63 = some (1, 0, []) := rfl
set_option maxRecDepth 100000 in
theorem ly_64 : vz_lk ly 64 = some (1, 0, []) := rfl
set_option maxRecDepth 100000 in
theorem ly_65 : vz_lk ly 65 = some (1, 0, []) := rfl
set_option maxRecDepth 100000 in
theorem ly_66 : vz_lk ly 66 = some (0, 10, [0, 2, 2, 74, 76, 78, 80, 0, 0, 2, 2, 0, 0, 154, 156, 158, 0, 0, 160, 162, 164, 166, 167, 0, 168, 170, 171, 172, 173, 0, 0, 174, 175, 176, 177, 178, 180, 182, 0, 184, 185, 186, 187, 188, 189]) := rfl
set_option maxRecDepth 100000 in
theorem ly_67 : vz_lk ly 67 = some (0, 11, [71, 0]) := rfl
set_option maxRecDepth 100000 in
theorem ly_68 : vz_lk ly 68 = some (1, 0, []) := rfl
set_option maxRecDepth 100000 in
theorem ly_69 : vz_lk ly 69 = some (0, 11, [73, 0]) := rfl
set_option maxRecDepth 100000 in
theorem ly_70 : vz_lk ly 70 = some (1, 0, []) := rfl
set_option maxRecDepth 100000 in
theorem ly_71 : vz_lk ly 71 = some (0, 11, [75, 0]) := rfl
set_option maxRecDepth 100000 in
theorem ly_72 : vz_lk ly 72 = some (1, 0, []) := rfl
set_option maxRecDepth 100000 in
theorem ly_73 : vz_lk ly 73 = some (0, 11, [77, 0]) := rfl
set_option maxRecDepth 100000 in
theorem ly_74 : vz_lk ly 74 = some (1, 0, []) := rfl
set_option maxRecDepth 100000 in
theorem ly_75 : vz_lk ly 75 = some (0, 11, [79, 0]) := rfl
set_option maxRecDepth 100000 in
theorem ly_76 : vz_lk ly 76 = some (1, 0, []) := rfl
set_option maxRecDepth 100000 in
theorem ly_77 : vz_lk ly 77 = some (0, 11, [81, 0]) := rfl
set_option maxRecDepth 100000 in
theorem ly_78 : vz_lk ly 78 = some (1, 0, []) := rfl
set_option maxRecDepth 100000 in
theorem ly_79 : vz_lk ly 79 = some (0, 12, [83, 85, 87, 89, 91, 93, 0, 95, 96, 97, 98, 99, 0, 100, 101, 102, 103, 0, 0, 104, 105, 106, 107, 108, 109, 110, 111, 112, 114, 116]) := rfl
set_option maxRecDepth 100000 in
theorem ly_80 : vz_lk ly 80 = some (0, 11, [84, 0]) := rfl
set_option maxRecDepth 100000 in
theorem ly_81 : vz_lk ly 81 = some (1, 0, []) := rfl
set_option maxRecDepth 100000 in
theorem ly_82 : vz_lk ly 82 = some (0, 11, [86, 0]) := rfl
set_option maxRecDepth 100000 in
theorem ly_83 : vz_lk ly 83 = some (1, 0, []) := rfl
set_option maxRecDepth 100000 in
theorem ly_84 : vz_lk ly 84 = some (0, 11, [88, 0]) := rfl
set_option maxRecDepth 100000 in
theorem ly_85 : vz_lk ly 85 = some (1, 0, []) := rfl
set_option maxRecDepth 100000 in
theorem ly_86 : vz_lk ly 86 = some (0, 11, [90, 0]) := rfl
set_option maxRecDepth 100000 in
theorem ly_87 : vz_lk ly 87 = some (1, 0, []) := rfl
set_option maxRecDepth 100000 in
theorem ly_88 : vz_lk ly 88 = some (0, 11, [92, 0]) := rfl
set_option maxRecDepth 100000 in
theorem ly_89 : vz_lk ly 89 = some (1, 0, []) := rfl
set_option maxRecDepth 100000 in
theorem ly_90 : vz_lk ly 90 = some (0, 11, [94, 0]) := rfl
set_option maxRecDepth 100000 in
theorem ly_91 : vz_lk ly 91 = some (1, 0, []) := rfl
set_option maxRecDepth 100000 in
theorem ly_92 : vz_lk ly 92 = some (1, 2, []) := rfl
set_option maxRecDepth 100000 in
theorem ly_93 : vz_lk ly 93 = some (1, 2, []) := rfl
set_option maxRecDepth 100000 in
theorem ly_94 : vz_lk ly 94 = some (1, 0, []) := rfl
set_option maxRecDepth 100000 in
theorem ly_95 : vz_lk ly 95 = some (1, 1, []) := rfl
set_option maxRecDepth 100000 in
theorem ly_96 : vz_lk ly 96 = some (1, 1, []) := rfl
set_option maxRecDepth 100000 in
theorem ly_97 : vz_lk ly 97 = some (1, 2, []) := rfl
set_option maxRecDepth 100000 in
theorem ly_98 : vz_lk ly 98 = some (1, 0, []) := rfl
set_option maxRecDepth 100000 in
theorem ly_99 : vz_lk ly 99 = some (1, 0, []) := rfl
set_option maxRecDepth 100000 in
theorem ly_100 : vz_lk ly 100 = some (1, 0, []) := rfl
set_option maxRecDepth 100000 in
theorem ly_101 : vz_lk ly 101 = some (1, 2, []) := rfl
set_option maxRecDepth 100000 in
theorem ly_102 : vz_lk ly 102 = some (1, 0, []) := rfl
set_option maxRecDepth 100000 in
theorem ly_103 : vz_lk ly 103 = some (1, 0, []) := rfl
set_option maxRecDepth 100000 in
theorem ly_104 : vz_lk ly 104 = some (1, 0, []) := rfl
set_option maxRecDepth 100000 in
theorem ly_105 : vz_lk ly 105 = some (1, 0, []) := rfl
set_option maxRecDepth 100000 in
theorem ly_106 : vz_lk ly 106 = some (1, 0, []) := rfl
set_option maxRecDepth 100000 in
theorem ly_107 : vz_lk ly 107 = some (1, 0, []) := rfl
set_option maxRecDepth 100000 in
theorem ly_108 : vz_lk ly 108 = some (1, 0, []) := rfl
set_option maxRecDepth 100000 in
theorem ly_109 : vz_lk ly 109 = some (0, 11, [113, 0]) := rfl
set_option maxRecDepth 100000 in
theorem ly_110 : vz_lk ly 110 = some (1, 0, []) := rfl
set_option maxRecDepth 100000 in
theorem ly_111 : vz_lk ly 111 = some (0, 11, [115, 0]) := rfl
set_option maxRecDepth 100000 in
theorem ly_112 : vz_lk ly 112 = some (1, 0, []) := rfl
set_option maxRecDepth 100000 in
theorem ly_113 : vz_lk ly 113 = some (0, 11, [117, 0]) := rfl
set_option maxRecDepth 100000 in
theorem ly_114 : vz_lk ly 114 = some (1, 0, []) := rfl
set_option maxRecDepth 100000 in
theorem ly_115 : vz_lk ly 115 = some (0, 12, [119, 121, 123, 125, 127, 129, 0, 131, 132, 133, 134, 135, 0, 136, 137, 138, 139, 0, 0, 140, 141, 142, 143, 144, 145, 146, 147, 148, 150, 152]) := rfl
set_option maxRecDepth 100000 in
theorem ly_116 : vz_lk ly 116 = some (0, 11, [120, 0]) := rfl
set_option maxRecDepth 100000 in
theorem ly_117 : vz_lk ly 117 = some (1, 0, []) := rfl
set_option maxRecDepth 100000 in
theorem ly_118 : vz_lk ly 118 = some (0, 11, [122, 0]) := rfl
set_option maxRecDepth 100000 in
theorem ly_119 : vz_lk ly 119 = some (1, 0, []) := rfl
set_option maxRecDepth 100000 in
theorem ly_120 : vz_lk ly 120 = some (0, 11, [124, 0]) := rfl
set_option maxRecDepth 100000 in
theorem ly_121 : vz_lk ly 121 = some (1, 0, []) := rfl
set_option maxRecDepth 100000 in
theorem ly_122 : vz_lk ly 122 = some (0, 11, [126, 0]) := rfl
set_option maxRecDepth 100000 in
theorem ly_123 : vz_lk ly 123 = some (1, 0, []) := rfl
set_option maxRecDepth 100000 in
theorem ly_124 : vz_lk ly 124 = some (0, 11, [128, 0]) := rfl
set_option maxRecDepth 100000 in
theorem ly_125 : vz_lk ly 125 = some (1, 0, []) := rfl
set_option maxRecDepth 100000 in
theorem ly_126 : vz_lk ly 126 = some (0, 11, [130, 0]) := rfl
set_option maxRecDepth 100000 in
theorem ly_127 : vz_lk ly 127 = some (1, 0, []) := rfl
set_option maxRecDepth 100000 in
theorem ly_128 : vz_lk ly 128 = some (1, 2, []) := rfl
set_option maxRecDepth 100000 in
theorem ly_129 : vz_lk ly 129 = some (1, 2, []) := rfl
set_option maxRecDepth 100000 in
theorem ly_130 : vz_lk ly 130 = some (1, 0, []) := rfl
set_option maxRecDepth 100000 in
theorem ly_131 : vz_lk ly 131 = some (1, 1, []) := rfl
set_option maxRecDepth 100000 in
theorem ly_132 : vz_lk ly 132 = some (1, 1, []) := rfl
set_option maxRecDepth 100000 in
theorem ly_133 : vz_lk ly 133 = some (1, 2, []) := rfl
set_option maxRecDepth 100000 in
theorem ly_134 : vz_lk ly 134 = some (1, 0, []) := rfl
set_option maxRecDepth 100000 in
theorem ly_135 : vz_lk ly 135 = some (1, 0, []) := rfl
set_option maxRecDepth 100000 in
theorem ly_136 : vz_lk ly 136 = some (1, 0, []) := rfl
set_option maxRecDepth 100000 in
theorem ly_137 : vz_lk ly 137 = some (1, 2, []) := rfl
set_option maxRecDepth 100000 in
theorem ly_138 : vz_lk ly 138 = some (1, 0, []) := rfl
set_option maxRecDepth 100000 in
theorem ly_139 : vz_lk ly 139 = some (1, 0, []) := rfl
set_option maxRecDepth 100000 in
theorem ly_140 : vz_lk ly 140 = some (1, 0, []) := rfl
set_option maxRecDepth 100000 in
theorem ly_141 : vz_lk ly 141 = some (1, 0, []) := rfl
set_option maxRecDepth 100000 in
theorem ly_142 : vz_lk ly 142 = some (1, 0, []) := rfl
set_option maxRecDepth 100000 in
theorem ly_143 : vz_lk ly 143 = some (1, 0, []) := rfl
set_option maxRecDepth 100000 in
theorem ly_144 : vz_lk ly 144 = some (1, 0, []) := rfl
set_option maxRecDepth 100000 in
theorem ly_145 : vz_lk ly 145 = some (0, 11, [149, 0]) := rfl
set_option maxRecDepth 100000 in
theorem ly_146 : vz_lk ly 146 = some (1, 0, []) := rfl
set_option maxRecDepth 100000 in
theorem ly_147 : vz_lk ly 147 = some (0, 11, [151, 0]) := rfl
set_option maxRecDepth 100000 in
theorem ly_148 : vz_lk ly 148 = some (1, 0, []) := rfl
set_option maxRecDepth 100000 in
theorem ly_149 : vz_lk ly 149 = some (0, 11, [153, 0]) := rfl
set_option maxRecDepth 100000 in
theorem ly_150 : vz_lk ly 150 = some (1, 0, []) := rfl
set_option maxRecDepth 100000 in
theorem ly_151 : vz_lk ly 151 = some (0, 11, [155, 0]) := rfl
set_option maxRecDepth 100000 in
theorem ly_152 : vz_lk ly 152 = some (1, 0, []) := rfl
set_option maxRecDepth 100000 in
theorem ly_153 : vz_lk ly 153 = some (0, 11, [157, 0]) := rfl
set_option maxRecDepth 100000 in
theorem ly_154 : vz_lk ly 154 = some (1, 0, []) := rfl
set_option maxRecDepth 100000 in
theorem ly_155 : vz_lk ly 155 = some (0, 11, [159, 0]) := rfl
set_option maxRecDepth 100000 in
theorem ly_156 : vz_lk ly 156 = some (1, 0, []) := rfl
set_option maxRecDepth 100000 in
theorem ly_157 : vz_lk ly 157 = some (0, 11, [161, 0]) := rfl
set_option maxRecDepth 100000 in
theorem ly_158 : vz_lk ly 158 = some (1, 0, []) := rfl
set_option maxRecDepth 100000 in
theorem ly_159 : vz_lk ly 159 = some (0, 11, [163, 0]) := rfl
set_option maxRecDepth 100000 in
theorem ly_160 : vz_lk ly 160 = some (1, 0, []) := rfl
set_option maxRecDepth 100000 in
theorem ly_161 : vz_lk ly 161 = some (0, 11, [165, 0]) := rfl
set_option maxRecDepth 100000 in
theorem ly_162 : vz_lk ly 162 = some (1, 0, []) := rfl
set_option maxRecDepth 100000 in
theorem ly_163 : vz_lk ly 163 = some (1, 1, []) := rfl
set_option maxRecDepth 100000 in
theorem ly_164 : vz_lk ly 164 = some (1, 1, []) := rfl
set_option maxRecDepth 100000 in
theorem ly_165 : vz_lk ly 165 = some (0, 11, [169, 0]) := rfl
set_option maxRecDepth 100000 in
theorem ly_166 : vz_lk ly 166 = some (1, 0, []) := rfl
set_option maxRecDepth 100000 in
theorem ly_167 : vz_lk ly 167 = some (1, 0, []) := rfl
set_option maxRecDepth 100000 in
theorem ly_168 : vz_lk ly 168 = some (1, 2, []) := rfl
set_option maxRecDepth 100000 in
theorem ly_169 : vz_lk ly 169 = some (1, 1, []) := rfl
set_option maxRecDepth 100000 in
theorem ly_170 : vz_lk ly 170 = some (1, 1, []) := rfl
set_option maxRecDepth 100000 in
theorem ly_171 : vz_lk ly 171 = some (1, 0, []) := rfl
set_option maxRecDepth 100000 in
theorem ly_172 : vz_lk ly 172 = some (1, 0, []) := rfl
set_option maxRecDepth 100000 in
theorem ly_173 : vz_lk ly 173 = some (1, 0, []) := rfl
set_option maxRecDepth 100000 in
theorem ly_174 : vz_lk ly 174 = some (1, 0, []) := rfl
set_option maxRecDepth 100000 in
theorem ly_175 : vz_lk ly 175 = some (0, 11, [179, 0]) := rfl
set_option maxRecDepth 100000 in
theorem ly_176 : vz_lk ly 176 = some (1, 0, []) := rfl
set_option maxRecDepth 100000 in
theorem ly_177 : vz_lk ly 177 = some (0, 11, [181, 0]) := rfl
set_option maxRecDepth 100000 in
theorem ly_178 : vz_lk ly 178 = some (1, 0, []) := rfl
set_option maxRecDepth 100000 in
theorem ly_179 : vz_lk ly 179 = some (0, 11, [183, 0]) := rfl
set_option maxRecDepth 100000 in
theorem ly_180 : vz_lk ly 180 = some (1, 0, []) := rfl
set_option maxRecDepth 100000 in
theorem ly_181 : vz_lk ly 181 = some (1, 0, []) := rfl
set_option maxRecDepth 100000 in
theorem ly_182 : vz_lk ly 182 = some (1, 1, []) := rfl
set_option maxRecDepth 100000 in
theorem ly_183 : vz_lk ly 183 = some (1, 1, []) := rfl
set_option maxRecDepth 100000 in
theorem ly_184 : vz_lk ly 184 = some (1, 0, []) := rfl
set_option maxRecDepth 100000 in
theorem ly_185 : vz_lk ly 185 = some (1, 1, []) := rfl
set_option maxRecDepth 100000 in
theorem ly_186 : vz_lk ly 186 = some (1, 1, []) := rfl
set_option maxRecDepth 100000 in
theorem ly_187 : vz_lk ly 187 = some (1, 1, []) := rfl
