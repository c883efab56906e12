/-! THE ABSTRACT MACHINE'S RUN: n steps of fuel, d calls deep at most -/
abbrev vz_O : Type := Option Value ⊕ String
section VZE
variable {α : Type}
def vz_e (st : List Value) (k : Option α) : Option α := match st with
  | [] => k
  | _ :: _ => none
theorem vz_e_of {st : List Value} {k : Option α} {z : α} (h : vz_e st k = some z) : st = [] ∧ k = some z := by
  cases st with
  | nil => exact ⟨rfl, h⟩
  | cons a r => exact nomatch (show (none : Option α) = some z from h)
/-- a result of the method's type -/
def vz_rf (P : vz_P) (y : Nat) (v : Value) (k : Option α) : Option α := match vz_rt P y with
  | some ty => vz_b (vz_fit ty v) k
  | none => none
theorem vz_rf_of {P : vz_P} {y : Nat} {v : Value} {k : Option α} {z : α} (h : vz_rf P y v k = some z) : ∃ ty, vz_rt P y = some ty ∧ vz_fit ty v = true ∧ k = some z := by
  unfold vz_rf at h
  split at h
  · next ty e =>
    obtain ⟨h1, h2⟩ := vz_b_of h
    exact ⟨ty, e, h1, h2⟩
  · cases h
def vz_r0 (P : vz_P) (y : Nat) (k : Option α) : Option α := match vz_rt P y with
  | some _ => none
  | none => k
theorem vz_r0_of {P : vz_P} {y : Nat} {k : Option α} {z : α} (h : vz_r0 P y k = some z) : vz_rt P y = none ∧ k = some z := by
  unfold vz_r0 at h
  split at h
  · cases h
  · next e => exact ⟨e, h⟩
def vz_s (d : Nat) (k : Nat → Option α) : Option α := match d with
  | 0 => none
  | d + 1 => k d
theorem vz_s_of {d : Nat} {k : Nat → Option α} {z : α} (h : vz_s d k = some z) : ∃ j, d = j + 1 ∧ k j = some z := by
  cases d with
  | zero => exact nomatch (show (none : Option α) = some z from h)
  | succ j => exact ⟨j, rfl, h⟩
end VZE
abbrev vz_Sf : Type := Nat → Nat → Nat → vz_L → List Value → vz_H → Option (vz_O × vz_H)
/-- behind a call -/
def vz_beh (P : vz_P) (self : vz_Sf) (d y pc : Nat) (lv : vz_L) (rest : List Value) (q : vz_O × vz_H) : Option (vz_O × vz_H) := match q.1 with
  | .inl v => self d y (pc + 3) lv (v.toList ++ rest) q.2
  | .inr E => (vz_Ca P y pc).bind fun h => vz_b (h.1 == E) (self d y h.2.1 (lv.filter (fun q => !(q.1 == h.2.2) && !(q.1 + 1 == h.2.2 && q.2.category == 2))) [] q.2)
def vz_cal (P : vz_P) (self : vz_Sf) (d y pc : Nat) (lv : vz_L) (μ : vz_H) (y' : Nat) (As rest : List Value) : Option (vz_O × vz_H) :=
  vz_b (decide ((rest.map Value.category).sum ≤ 8)) (vz_b (decide ((As.map Value.category).sum ≤ vz_ml P y')) (vz_b (vz_nbS (vz_gq (vz_gr P) y') rest) (vz_b (vz_nbL (vz_gq (vz_gr P) y') lv && (!vz_q y || vz_q y')) (vz_s d fun j => (self j y' 0 (lv_args 0 As) [] μ).bind fun q => vz_beh P self d y pc lv rest q))))
/-- System.arraycopy of ints -/
def vz_acp (st : List Value) (μ : vz_H) : Option (List Value × vz_H) := match st with
  | .int n :: .int dp :: .ref a :: .int sp :: .ref a0 :: r => (vz_arr μ a0).bind fun x0 => vz_xi x0 fun n0 f => (vz_arr μ a).bind fun x1 => vz_xi x1 fun n1 g =>
    if sp < 0 ∨ dp < 0 ∨ n < 0 ∨ n0 < sp.toNatClampNeg + n.toNatClampNeg ∨ n1 < dp.toNatClampNeg + n.toNatClampNeg ∨ a = 0 ∨ a0 = 0 then none else some (r, vz_upd μ a (.inl (0, n1, .inl (va_cpy f g sp.toNatClampNeg dp.toNatClampNeg n.toNatClampNeg))))
  | _ => none
def vz_step (P : vz_P) (self : vz_Sf) (d y pc : Nat) (lv : vz_L) (st : List Value) (μ : vz_H) : Option (vz_O × vz_H) := match vz_Th P y pc with
  | some E => vz_b (decide (8 ≤ d)) (vz_b (decide ((st.map Value.category).sum ≤ 8)) (some (.inr E, (μ.1, μ.2.1, μ.2.2.1 + 1, μ.2.2.2 + 6))))
  | none => (vz_I P y pc).bind fun q => match q.1 with
    | .ireturn => vz_n q.2 1 (vz_i st fun x r => vz_e r (vz_rf P y (.int x) (some (.inl (some (.int x)), μ))))
    | .lreturn => vz_n q.2 1 (vz_l st fun x r => vz_e r (vz_rf P y (.long x) (some (.inl (some (.long x)), μ))))
    | .areturn => vz_n q.2 1 (vz_va1 st fun v r => vz_e r (vz_rf P y v (some (.inl (some v), μ))))
    | .return_ => vz_n q.2 1 (vz_e st (vz_r0 P y (some (.inl none, μ))))
    | .invokestatic ix => vz_n q.2 3 ((vz_Cl P y ix).bind fun t => vz_b (decide (t.2.2 ≤ st.length)) (match t.1 with
      | 0 => vz_cal P self d y pc lv μ t.2.1 (st.take t.2.2).reverse (st.drop t.2.2)
      | 9 => vz_cal P self d y pc lv μ t.2.1 (st.take t.2.2).reverse (st.drop t.2.2)
      | 5 => vz_b (decide (1 ≤ d)) ((vz_acp st μ).bind fun z => vz_b (decide ((z.1.map Value.category).sum ≤ 8)) (self d y (pc + 3) lv z.1 z.2))
      | 7 => vz_b (decide (4 ≤ d)) (vz_b (decide (((st.drop t.2.2).map Value.category).sum ≤ 8)) ((vz_bi P t.2.1 (st.take t.2.2).reverse).bind fun v => vz_vi v fun x => self d y (pc + 3) lv (.int x :: st.drop t.2.2) μ))
      | _ => none))
    | .invokevirtual ix => vz_n q.2 3 ((vz_Cl P y ix).bind fun t => vz_b (decide (t.2.2 ≤ st.length)) (vz_r (st.drop t.2.2) fun a r => match t.1 with
      | 1 => (vz_obj μ a).bind fun o => vz_b (o.1 == vz_ci P t.2.1) (vz_cal P self d y pc lv μ t.2.1 (.ref a :: (st.take t.2.2).reverse) r)
      | 6 => vz_b (decide (8 ≤ d)) (vz_b (decide ((r.map Value.category).sum ≤ 8)) (vz_b (decide (vz_M0 ≤ a)) ((vz_bi P t.2.1 (.ref a :: (st.take t.2.2).reverse)).bind fun v => vz_vi v fun x => self d y (pc + 3) lv (.int x :: r) μ)))
      | _ => none))
    | .invokespecial ix => vz_n q.2 3 ((vz_Cl P y ix).bind fun t => vz_b (decide (t.2.2 ≤ st.length)) (vz_r (st.drop t.2.2) fun a r => match t.1 with
      | 2 => vz_cal P self d y pc lv μ t.2.1 (.ref a :: (st.take t.2.2).reverse) r
      | 3 => vz_b (t.2.2 == 0) (vz_b (decide ((r.map Value.category).sum ≤ 8)) (vz_s d fun _ => self d y (pc + 3) lv r μ))
      | _ => none))
    | i => (vz_h P y i q.2 pc lv st μ).bind fun z => self d y z.1 z.2.1 z.2.2.1 z.2.2.2
def vz_run (P : vz_P) : Nat → vz_Sf
  | 0 => fun _ _ _ _ _ _ => none
  | n + 1 => vz_step P (vz_run P n)
/-! what has been made only grows -/
def vz_le (μ ν : vz_H) : Prop := μ.1 ≤ ν.1 ∧ μ.2.2.1 ≤ ν.2.2.1 ∧ μ.2.2.2 ≤ ν.2.2.2
theorem vz_le.rf (μ : vz_H) : vz_le μ μ := ⟨Nat.le_refl _, Nat.le_refl _, Nat.le_refl _⟩
theorem vz_le.tr {μ ν κ : vz_H} (h1 : vz_le μ ν) (h2 : vz_le ν κ) : vz_le μ κ := ⟨Nat.le_trans h1.1 h2.1, Nat.le_trans h1.2.1 h2.2.1, Nat.le_trans h1.2.2 h2.2.2⟩
theorem vz_le_upd (μ : vz_H) (a : Nat) (x : va_E) : vz_le μ (vz_upd μ a x) := ⟨Nat.le_refl _, Nat.le_refl _, Nat.le_refl _⟩
theorem vz_le_new (μ : vz_H) (x : va_E) (k : Nat) : vz_le μ (vz_new μ x k) := ⟨Nat.le_succ _, Nat.le_succ _, Nat.le_add_right _ _⟩
set_option maxHeartbeats 4000000 in
theorem vz_h_le {P : vz_P} {y len pc : Nat} {i : Instr} {lv : vz_L} {st : List Value} {μ : vz_H} {z : Nat × vz_L × List Value × vz_H} (h : vz_h P y i len pc lv st μ = some z) : vz_le μ z.2.2.2 := by
  have simple : ∀ i9, i9 = i → (vz_a (vz_ml P y) i9 len pc lv st).bind (fun z => some (z.1, z.2.1, z.2.2, μ)) = some z → vz_le μ z.2.2.2 := by
    intro i9 e9 h9
    obtain ⟨z1, h1, h2⟩ := Option.bind_eq_some_iff.mp h9
    cases h2
    exact vz_le.rf μ
  cases i with
  | getfield ix =>
    obtain ⟨rfl, h⟩ := vz_n_of h
    obtain ⟨t, hF, h⟩ := Option.bind_eq_some_iff.mp h
    obtain ⟨a, r, rfl, h⟩ := vz_r_of h
    obtain ⟨o, ho, h⟩ := Option.bind_eq_some_iff.mp h
    obtain ⟨hci, h⟩ := vz_b_of h
    obtain ⟨v, hv, h⟩ := Option.bind_eq_some_iff.mp h
    cases h
    exact vz_le.rf μ
  | putfield ix =>
    obtain ⟨rfl, h⟩ := vz_n_of h
    obtain ⟨t, hF, h⟩ := Option.bind_eq_some_iff.mp h
    obtain ⟨v, r, rfl, h⟩ := vz_1_of h
    obtain ⟨a, r, rfl, h⟩ := vz_r_of h
    obtain ⟨o, ho, h⟩ := Option.bind_eq_some_iff.mp h
    obtain ⟨hci, h⟩ := vz_b_of h
    obtain ⟨hlt, h⟩ := vz_b_of h
    obtain ⟨hfit, h⟩ := vz_b_of h
    unfold vz_put at h
    cases how : vz_ow (vz_gr P) a t.2.1 v with
    | true =>
      rw [how] at h
      obtain ⟨hfi, h⟩ := vz_b_of (show vz_b _ _ = some z from h)
      cases h
      exact vz_le_upd _ _ _
    | false =>
      rw [how] at h
      obtain ⟨u, r9, e9, h⟩ := vz_r_of (show vz_r _ _ = some z from h)
      obtain ⟨hb9, h⟩ := vz_b_of h
      obtain ⟨k9, hk9, h⟩ := Option.bind_eq_some_iff.mp h
      obtain ⟨x, hx, h⟩ := Option.bind_eq_some_iff.mp h
      obtain ⟨x', hx', h⟩ := Option.bind_eq_some_iff.mp h
      obtain ⟨hng, h⟩ := vz_b_of h
      cases h
      exact ⟨Nat.le_refl _, Nat.le_refl _, Nat.le_refl _⟩
  | iaload =>
    obtain ⟨rfl, h⟩ := vz_n_of h
    obtain ⟨a, i, r, rfl, h⟩ := vz_ri_of h
    obtain ⟨x, ho, h⟩ := Option.bind_eq_some_iff.mp h
    obtain ⟨n, f, rfl, h⟩ := vz_xi_of h
    obtain ⟨hi, h⟩ := vz_in_of h
    cases h
    exact vz_le.rf μ
  | laload =>
    obtain ⟨rfl, h⟩ := vz_n_of h
    obtain ⟨a, i, r, rfl, h⟩ := vz_ri_of h
    obtain ⟨h0, h⟩ := vz_b_of h
    obtain ⟨x, ho, h⟩ := Option.bind_eq_some_iff.mp h
    obtain ⟨n, f, rfl, h⟩ := vz_xl_of h
    obtain ⟨hi, h⟩ := vz_in_of h
    cases h
    exact vz_le.rf μ
  | baload =>
    obtain ⟨rfl, h⟩ := vz_n_of h
    obtain ⟨a, i, r, rfl, h⟩ := vz_ri_of h
    obtain ⟨h0, h⟩ := vz_b_of h
    obtain ⟨x, ho, h⟩ := Option.bind_eq_some_iff.mp h
    obtain ⟨n, f, rfl, h⟩ := vz_xz_of h
    obtain ⟨hi, h⟩ := vz_in_of h
    cases h
    exact vz_le.rf μ
  | bastore =>
    obtain ⟨rfl, h⟩ := vz_n_of h
    obtain ⟨v, r, rfl, h⟩ := vz_i_of h
    obtain ⟨a, i, r, rfl, h⟩ := vz_ri_of h
    obtain ⟨h0, h⟩ := vz_b_of h
    obtain ⟨x, ho, h⟩ := Option.bind_eq_some_iff.mp h
    obtain ⟨n, f, rfl, h⟩ := vz_xz_of h
    obtain ⟨hi, h⟩ := vz_in_of h
    cases h
    exact vz_le_upd _ _ _
  | iastore =>
    obtain ⟨rfl, h⟩ := vz_n_of h
    obtain ⟨v, r, rfl, h⟩ := vz_i_of h
    obtain ⟨a, i, r, rfl, h⟩ := vz_ri_of h
    obtain ⟨h0, h⟩ := vz_b_of h
    obtain ⟨x, ho, h⟩ := Option.bind_eq_some_iff.mp h
    obtain ⟨n, f, rfl, h⟩ := vz_xi_of h
    obtain ⟨hi, h⟩ := vz_in_of h
    cases h
    exact vz_le_upd _ _ _
  | lastore =>
    obtain ⟨rfl, h⟩ := vz_n_of h
    obtain ⟨v, r, rfl, h⟩ := vz_l_of h
    obtain ⟨a, i, r, rfl, h⟩ := vz_ri_of h
    obtain ⟨h0, h⟩ := vz_b_of h
    obtain ⟨x, ho, h⟩ := Option.bind_eq_some_iff.mp h
    obtain ⟨n, f, rfl, h⟩ := vz_xl_of h
    obtain ⟨hi, h⟩ := vz_in_of h
    cases h
    exact vz_le_upd _ _ _
  | arraylength =>
    obtain ⟨rfl, h⟩ := vz_n_of h
    obtain ⟨a, r, rfl, h⟩ := vz_r_of h
    obtain ⟨x, ho, h⟩ := Option.bind_eq_some_iff.mp h
    obtain ⟨h2, h⟩ := vz_b_of h
    cases h
    exact vz_le.rf μ
  | newarray t =>
    obtain ⟨rfl, h⟩ := vz_n_of h
    obtain ⟨n, r, rfl, h⟩ := vz_i_of h
    have h9 : ∃ x, (if n < 0 ∨ 536870912 < n.toNatClampNeg * componentBytes (newarray.typeOf t) then none else vz_b (decide (μ.1 + 1 < vz_M0)) (some (pc + 2, lv, Value.ref (μ.1 + 1) :: r, vz_new μ x n.toNatClampNeg))) = some z := by
      cases t <;> first | exact ⟨_, h⟩ | exact nomatch (show (none : Option (Nat × vz_L × List Value × vz_H)) = some z from h)
    obtain ⟨x, h⟩ := h9
    split at h
    · cases h
    · obtain ⟨-, h⟩ := vz_b_of h
      cases h
      exact vz_le_new _ _ _
  | new ix =>
    obtain ⟨rfl, h⟩ := vz_n_of h
    obtain ⟨t, hN, h⟩ := Option.bind_eq_some_iff.mp h
    obtain ⟨-, h⟩ := vz_b_of h
    cases h
    exact vz_le_new _ _ _
  | ldc ix =>
    obtain ⟨rfl, h⟩ := vz_n_of h
    obtain ⟨v, hK, h⟩ := Option.bind_eq_some_iff.mp h
    obtain ⟨-, h⟩ := vz_vk_of h
    cases h
    exact vz_le.rf μ
  | ldc_w ix =>
    obtain ⟨rfl, h⟩ := vz_n_of h
    obtain ⟨v, hK, h⟩ := Option.bind_eq_some_iff.mp h
    obtain ⟨x, rfl, h⟩ := vz_vi_of h
    cases h
    exact vz_le.rf μ
  | ldc2_w ix =>
    obtain ⟨rfl, h⟩ := vz_n_of h
    obtain ⟨v, hK, h⟩ := Option.bind_eq_some_iff.mp h
    obtain ⟨x, rfl, h⟩ := vz_vl_of h
    cases h
    exact vz_le.rf μ
  | _ => exact simple _ rfl h
/-! a step, taken apart -/
def vz_ret (P : vz_P) (y : Nat) (i : Instr) (v : Option Value) : Prop := match v with
  | none => i = .return_ ∧ vz_rt P y = none
  | some (.int x) => i = .ireturn ∧ ∃ ty, vz_rt P y = some ty ∧ vz_fit ty (.int x) = true
  | some (.long x) => i = .lreturn ∧ ∃ ty, vz_rt P y = some ty ∧ vz_fit ty (.long x) = true
  | some w => i = .areturn ∧ (w = .null ∨ ∃ a, w = .ref a) ∧ ∃ ty, vz_rt P y = some ty ∧ vz_fit ty w = true
def vz_ck (P : vz_P) (y : Nat) (i : Instr) (st : List Value) (μ : vz_H) (y' : Nat) (As rest : List Value) : Prop :=
  (∃ ix k n, i = .invokestatic ix ∧ (k = 0 ∨ k = 9) ∧ vz_Cl P y ix = some (k, y', n) ∧ As.length = n ∧ st = As.reverse ++ rest) ∨
  (∃ ix n a As0 o, i = .invokevirtual ix ∧ vz_Cl P y ix = some (1, y', n) ∧ As0.length = n ∧ As = .ref a :: As0 ∧ st = As0.reverse ++ .ref a :: rest ∧ vz_obj μ a = some o ∧ o.1 = vz_ci P y') ∨
  (∃ ix n a As0, i = .invokespecial ix ∧ vz_Cl P y ix = some (2, y', n) ∧ As0.length = n ∧ As = .ref a :: As0 ∧ st = As0.reverse ++ .ref a :: rest)
theorem vz_take {st : List Value} {n : Nat} (h : n ≤ st.length) : ((st.take n).reverse).length = n ∧ st = ((st.take n).reverse).reverse ++ st.drop n := by
  refine ⟨by rw [List.length_reverse, List.length_take]; omega, ?_⟩
  rw [List.reverse_reverse, List.take_append_drop]
theorem vz_cal_of {P : vz_P} {self : vz_Sf} {d y pc : Nat} {lv : vz_L} {μ : vz_H} {y' : Nat} {As rest : List Value} {q : vz_O × vz_H} (h : vz_cal P self d y pc lv μ y' As rest = some q) :
    (rest.map Value.category).sum ≤ 8 ∧ (As.map Value.category).sum ≤ vz_ml P y' ∧ vz_ngS (vz_gq (vz_gr P) y') rest ∧ vz_ngL (vz_gq (vz_gr P) y') lv ∧ (!vz_q y || vz_q y') = true ∧ ∃ j q1, d = j + 1 ∧ self j y' 0 (lv_args 0 As) [] μ = some q1 ∧ vz_beh P self d y pc lv rest q1 = some q := by
  obtain ⟨h1, h⟩ := vz_b_of h
  obtain ⟨h2, h⟩ := vz_b_of h
  obtain ⟨h5, h⟩ := vz_b_of h
  obtain ⟨h6, h⟩ := vz_b_of h
  obtain ⟨j, hj, h⟩ := vz_s_of h
  obtain ⟨q1, h3, h4⟩ := Option.bind_eq_some_iff.mp h
  obtain ⟨h6, h7⟩ := Bool.and_eq_true_iff.mp h6
  exact ⟨of_decide_eq_true h1, of_decide_eq_true h2, vz_nbS_of h5, vz_nbL_of h6, h7, j, q1, hj, h3, h4⟩
set_option maxHeartbeats 4000000 in
theorem vz_inv {P : vz_P} {self : vz_Sf} {d y pc : Nat} {lv : vz_L} {st : List Value} {μ : vz_H} {q : vz_O × vz_H} (h : vz_step P self d y pc lv st μ = some q) :
    (∃ E, vz_Th P y pc = some E ∧ 8 ≤ d ∧ (st.map Value.category).sum ≤ 8 ∧ q = (.inr E, (μ.1, μ.2.1, μ.2.2.1 + 1, μ.2.2.2 + 6))) ∨
    ∃ i len, vz_I P y pc = some (i, len) ∧
      ((∃ v, len = 1 ∧ vz_ret P y i v ∧ st = v.toList ∧ q = (.inl v, μ)) ∨
      (∃ y' As rest, len = 3 ∧ vz_ck P y i st μ y' As rest ∧ vz_cal P self d y pc lv μ y' As rest = some q) ∨
      (∃ ix y' a rest, len = 3 ∧ i = .invokespecial ix ∧ vz_Cl P y ix = some (3, y', 0) ∧ st = .ref a :: rest ∧ (rest.map Value.category).sum ≤ 8 ∧ 0 < d ∧ self d y (pc + 3) lv rest μ = some q) ∨
      (∃ ix k n As rest x, len = 3 ∧ i = .invokestatic ix ∧ vz_Cl P y ix = some (7, k, n) ∧ 4 ≤ d ∧ As.length = n ∧ st = As.reverse ++ rest ∧ (rest.map Value.category).sum ≤ 8 ∧ vz_bi P k As = some (.int x) ∧ self d y (pc + 3) lv (.int x :: rest) μ = some q) ∨
      (∃ ix y' n z, len = 3 ∧ i = .invokestatic ix ∧ vz_Cl P y ix = some (5, y', n) ∧ 1 ≤ d ∧ vz_acp st μ = some z ∧ (z.1.map Value.category).sum ≤ 8 ∧ self d y (pc + 3) lv z.1 z.2 = some q) ∨
      (∃ ix k n a As rest x, len = 3 ∧ i = .invokevirtual ix ∧ vz_Cl P y ix = some (6, k, n) ∧ 8 ≤ d ∧ As.length = n ∧ st = As.reverse ++ .ref a :: rest ∧ (rest.map Value.category).sum ≤ 8 ∧ vz_M0 ≤ a ∧ vz_bi P k (.ref a :: As) = some (.int x) ∧ self d y (pc + 3) lv (.int x :: rest) μ = some q) ∨
      ∃ z, vz_h P y i len pc lv st μ = some z ∧ self d y z.1 z.2.1 z.2.2.1 z.2.2.2 = some q) := by
  unfold vz_step at h
  split at h
  · next E e =>
    obtain ⟨h1, h⟩ := vz_b_of h
    obtain ⟨h2, h⟩ := vz_b_of h
    cases h
    exact Or.inl ⟨E, e, of_decide_eq_true h1, of_decide_eq_true h2, rfl⟩
  · next e =>
    obtain ⟨⟨i, len⟩, hI, h⟩ := Option.bind_eq_some_iff.mp h
    refine Or.inr ⟨i, len, hI, ?_⟩
    dsimp only at h
    split at h
    · obtain ⟨rfl, h⟩ := vz_n_of h
      obtain ⟨x, r, rfl, h⟩ := vz_i_of h
      obtain ⟨rfl, h⟩ := vz_e_of h
      obtain ⟨ty, e1, e2, h⟩ := vz_rf_of h
      cases h
      exact Or.inl ⟨some (.int x), rfl, ⟨rfl, ty, e1, e2⟩, rfl, rfl⟩
    · obtain ⟨rfl, h⟩ := vz_n_of h
      obtain ⟨x, r, rfl, h⟩ := vz_l_of h
      obtain ⟨rfl, h⟩ := vz_e_of h
      obtain ⟨ty, e1, e2, h⟩ := vz_rf_of h
      cases h
      exact Or.inl ⟨some (.long x), rfl, ⟨rfl, ty, e1, e2⟩, rfl, rfl⟩
    · obtain ⟨rfl, h⟩ := vz_n_of h
      obtain ⟨v, r, rfl, hv, h⟩ := vz_va1_of h
      obtain ⟨rfl, h⟩ := vz_e_of h
      obtain ⟨ty, e1, e2, h⟩ := vz_rf_of h
      cases h
      rcases hv with rfl | ⟨a, rfl⟩
      · exact Or.inl ⟨some .null, rfl, ⟨rfl, Or.inl rfl, ty, e1, e2⟩, rfl, rfl⟩
      · exact Or.inl ⟨some (.ref a), rfl, ⟨rfl, Or.inr ⟨a, rfl⟩, ty, e1, e2⟩, rfl, rfl⟩
    · obtain ⟨rfl, h⟩ := vz_n_of h
      obtain ⟨rfl, h⟩ := vz_e_of h
      obtain ⟨e1, h⟩ := vz_r0_of h
      cases h
      exact Or.inl ⟨none, rfl, ⟨rfl, e1⟩, rfl, rfl⟩
    · next ix =>
      obtain ⟨rfl, h⟩ := vz_n_of h
      obtain ⟨⟨k, y', n⟩, hc, h⟩ := Option.bind_eq_some_iff.mp h
      obtain ⟨hn, h⟩ := vz_b_of h
      obtain ⟨t1, t2⟩ := vz_take (of_decide_eq_true hn)
      dsimp only at h
      split at h
      · exact Or.inr (Or.inl ⟨y', _, _, rfl, Or.inl ⟨ix, 0, n, rfl, Or.inl rfl, hc, t1, t2⟩, h⟩)
      · exact Or.inr (Or.inl ⟨y', _, _, rfl, Or.inl ⟨ix, 9, n, rfl, Or.inr rfl, hc, t1, t2⟩, h⟩)
      · obtain ⟨h4, h⟩ := vz_b_of h
        obtain ⟨z, h1, h2⟩ := Option.bind_eq_some_iff.mp h
        obtain ⟨h5, h2⟩ := vz_b_of h2
        exact Or.inr (Or.inr (Or.inr (Or.inr (Or.inl ⟨ix, y', n, z, rfl, rfl, hc, of_decide_eq_true h4, h1, of_decide_eq_true h5, h2⟩))))
      · obtain ⟨h4, h⟩ := vz_b_of h
        obtain ⟨h5, h⟩ := vz_b_of h
        obtain ⟨v, h1, h⟩ := Option.bind_eq_some_iff.mp h
        obtain ⟨x, rfl, h⟩ := vz_vi_of h
        exact Or.inr (Or.inr (Or.inr (Or.inl ⟨ix, y', n, _, _, x, rfl, rfl, hc, of_decide_eq_true h4, t1, t2, of_decide_eq_true h5, h1, h⟩)))
      · cases h
    · next ix =>
      obtain ⟨rfl, h⟩ := vz_n_of h
      obtain ⟨⟨k, y', n⟩, hc, h⟩ := Option.bind_eq_some_iff.mp h
      obtain ⟨hn, h⟩ := vz_b_of h
      obtain ⟨t1, t2⟩ := vz_take (of_decide_eq_true hn)
      obtain ⟨a, r, er, h⟩ := vz_r_of h
      rw [er] at t2
      dsimp only at h
      split at h
      · obtain ⟨o, ho, h⟩ := Option.bind_eq_some_iff.mp h
        obtain ⟨hci, h⟩ := vz_b_of h
        exact Or.inr (Or.inl ⟨y', _, _, rfl, Or.inr (Or.inl ⟨ix, n, a, _, o, rfl, hc, t1, rfl, t2, ho, by simpa using hci⟩), h⟩)
      · obtain ⟨h4, h⟩ := vz_b_of h
        obtain ⟨h5, h⟩ := vz_b_of h
        obtain ⟨h6, h⟩ := vz_b_of h
        obtain ⟨v, h1, h⟩ := Option.bind_eq_some_iff.mp h
        obtain ⟨x, rfl, h⟩ := vz_vi_of h
        exact Or.inr (Or.inr (Or.inr (Or.inr (Or.inr (Or.inl ⟨ix, y', n, a, _, r, x, rfl, rfl, hc, of_decide_eq_true h4, t1, t2, of_decide_eq_true h5, of_decide_eq_true h6, h1, h⟩)))))
      · cases h
    · next ix =>
      obtain ⟨rfl, h⟩ := vz_n_of h
      obtain ⟨⟨k, y', n⟩, hc, h⟩ := Option.bind_eq_some_iff.mp h
      obtain ⟨hn, h⟩ := vz_b_of h
      obtain ⟨t1, t2⟩ := vz_take (of_decide_eq_true hn)
      obtain ⟨a, r, er, h⟩ := vz_r_of h
      rw [er] at t2
      dsimp only at h
      split at h
      · exact Or.inr (Or.inl ⟨y', _, _, rfl, Or.inr (Or.inr ⟨ix, n, a, _, rfl, hc, t1, rfl, t2⟩), h⟩)
      · obtain ⟨h0, h⟩ := vz_b_of h
        obtain ⟨h1, h⟩ := vz_b_of h
        obtain ⟨j, hj, h9⟩ := vz_s_of h
        have h0 : n = 0 := by simpa using h0
        subst h0
        exact Or.inr (Or.inr (Or.inl ⟨ix, y', a, r, rfl, rfl, hc, er, of_decide_eq_true h1, by omega, h9⟩))
      · cases h
    · obtain ⟨z, h1, h2⟩ := Option.bind_eq_some_iff.mp h
      exact Or.inr (Or.inr (Or.inr (Or.inr (Or.inr (Or.inr ⟨z, h1, h2⟩)))))
theorem vz_acp_le {st : List Value} {μ : vz_H} {z : List Value × vz_H} (h : vz_acp st μ = some z) : vz_le μ z.2 := by
  unfold vz_acp at h
  split at h
  · obtain ⟨x0, -, h⟩ := Option.bind_eq_some_iff.mp h
    obtain ⟨n0, f, -, h⟩ := vz_xi_of h
    obtain ⟨x1, -, h⟩ := Option.bind_eq_some_iff.mp h
    obtain ⟨n1, g, -, h⟩ := vz_xi_of h
    split at h
    · cases h
    · cases h
      exact vz_le_upd _ _ _
  · cases h
theorem vz_run_le {P : vz_P} : ∀ (n d y pc : Nat) (lv : vz_L) (st : List Value) (μ : vz_H) (q : vz_O × vz_H), vz_run P n d y pc lv st μ = some q → vz_le μ q.2 := by
  intro n
  induction n with
  | zero => intro d y pc lv st μ q h; cases h
  | succ n ih =>
    intro d y pc lv st μ q h
    rcases vz_inv h with ⟨E, -, -, -, rfl⟩ | ⟨i, len, -, ⟨v, -, -, -, rfl⟩ | ⟨y', As, rest, -, -, h⟩ | ⟨ix, y', a, rest, -, -, -, -, -, -, h⟩ | ⟨ix, k, na, As, rest, x, -, -, -, -, -, -, -, -, h⟩ | ⟨ix, y', na, z, -, -, -, -, h1, -, h2⟩ | ⟨ix, k, na, a, As, rest, x, -, -, -, -, -, -, -, -, -, h⟩ | ⟨z, h1, h2⟩⟩
    · exact ⟨Nat.le_refl _, Nat.le_succ _, Nat.le_add_right _ _⟩
    · exact vz_le.rf μ
    · obtain ⟨-, -, -, -, -, j, q1, -, h1, h2⟩ := vz_cal_of h
      refine vz_le.tr (ih _ _ _ _ _ _ _ h1) ?_
      unfold vz_beh at h2
      split at h2
      · exact ih _ _ _ _ _ _ _ h2
      · obtain ⟨t, -, h2⟩ := Option.bind_eq_some_iff.mp h2
        obtain ⟨-, h2⟩ := vz_b_of h2
        exact ih _ _ _ _ _ _ _ h2
    · exact ih _ _ _ _ _ _ _ h
    · exact ih _ _ _ _ _ _ _ h
    · exact vz_le.tr (vz_acp_le h1) (ih _ _ _ _ _ _ _ h2)
    · exact ih _ _ _ _ _ _ _ h
    · exact vz_le.tr (vz_h_le h1) (ih _ _ _ _ _ _ _ h2)
