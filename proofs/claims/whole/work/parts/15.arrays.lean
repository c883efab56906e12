section VZI
variable {p : Program} {l : Launch} {e : Env} {R : Room} {s : State} {m : MethodId} {args : Array Value} {below : List Frame} {meth : Method} {c : Code} {H : Heap} {locs : List Loc} {cells slots : Nat} {Q : State → Prop}
variable {P : vz_P} {D : va_G} {cl : List vw_C} {cc : Nat → ClassId} {Ts Ns : List Cond} {τ : Nat → Nat} {A : Nat → Prop} {b L : Nat} {xs : Nat → Int32} {ρ : Nat → Nat} {μ : vz_H} {y pc len : Nat} {ls : Array Slot} {rest : List Value}
theorem vz_iald (hC : vz_C P D cl cc Ts Ns y p s m args meth c) (hR : vz_R D cl cc (vz_gr P) τ A b L xs ρ μ H) (hZ : vz_Z A b L xs s) (hS : va_S A s.heap H locs) {a n : Nat} {f : Nat → Int32} {i : Int32} (ho : vz_arr μ a = some (0, n, .inl f)) (hi : vp_in i n) (hd : decode (vz_bc P y) pc = .ok (.iaload, 1))
    (kk : W p l e R s m args below meth c H locs cells slots Q (F0 m (pc + 1) ls (.int (f i.toNatClampNeg) :: rest))) : W p l e R s m args below meth c H locs cells slots Q (F0 m pc ls (.int i :: .ref (ρ a) :: rest)) := by
  obtain ⟨hx, hb, hml, hown, hts, hns, hK, hin, hrt, hlk⟩ := hC
  by_cases h0 : 0 < a
  · exact va_iald hx hb hK hR.1 (a - 1) 0 (vz_R_arr h0 ho) rfl hi hd kk
  · have e0 : a = 0 := by omega
    subst e0
    obtain ⟨-, e1⟩ := vz_arr_of ho
    have e2 := e1.symm.trans hR.2.2.2.2.1
    simp only [Sum.inl.injEq, Prod.mk.injEq, true_and] at e2
    obtain ⟨rfl, rfl⟩ := e2
    rw [hR.2.2.2.1]
    exact va_sld hx hb hZ.1 hZ.2.1 hZ.2.2 hS hi hd kk
theorem vz_lald (hC : vz_C P D cl cc Ts Ns y p s m args meth c) (hR : vz_R D cl cc (vz_gr P) τ A b L xs ρ μ H) {a n : Nat} {f : Nat → Int64} {i : Int32} (h0 : 0 < a) (ho : vz_arr μ a = some (1, n, .inr (.inl f))) (hi : vp_in i n) (hd : decode (vz_bc P y) pc = .ok (.laload, 1))
    (kk : W p l e R s m args below meth c H locs cells slots Q (F0 m (pc + 1) ls (.long (f i.toNatClampNeg) :: rest))) : W p l e R s m args below meth c H locs cells slots Q (F0 m pc ls (.int i :: .ref (ρ a) :: rest)) := by
  obtain ⟨hx, hb, hml, hown, hts, hns, hK, hin, hrt, hlk⟩ := hC
  exact va_lald hx hb hK hR.1 (a - 1) 1 (vz_R_arr h0 ho) rfl hi hd kk
theorem vz_iast (hC : vz_C P D cl cc Ts Ns y p s m args meth c) (hR : vz_R D cl cc (vz_gr P) τ A b L xs ρ μ H) (hS : va_S A s.heap H locs) {a n : Nat} {f : Nat → Int32} {i x : Int32} (h0 : 0 < a) (ho : vz_arr μ a = some (0, n, .inl f)) (hi : vp_in i n) (hd : decode (vz_bc P y) pc = .ok (.iastore, 1))
    (kk : ∀ (H1 : Heap) (locs1 : List Loc), vz_R D cl cc (vz_gr P) τ A b L xs ρ (vz_upd μ a (.inl (0, n, .inl (upd f i.toNatClampNeg x)))) H1 → va_S A s.heap H1 locs1 → W p l e R s m args below meth c H1 locs1 cells slots Q (F0 m (pc + 1) ls rest)) : W p l e R s m args below meth c H locs cells slots Q (F0 m pc ls (.int x :: .int i :: .ref (ρ a) :: rest)) := by
  obtain ⟨hx, hb, hml, hown, hts, hns, hK, hin, hrt, hlk⟩ := hC
  exact va_iast hx hb hK hR.1 hR.2.1 hS (a - 1) 0 (vz_R_arr h0 ho) rfl hi hd (fun H1 locs1 hP1 hD1 hS1 => kk H1 locs1 (vz_R_upd hR h0 (vz_arr_of ho).1 rfl hP1 hD1 trivial) hS1)
theorem vz_last (hC : vz_C P D cl cc Ts Ns y p s m args meth c) (hR : vz_R D cl cc (vz_gr P) τ A b L xs ρ μ H) (hS : va_S A s.heap H locs) {a n : Nat} {f : Nat → Int64} {i : Int32} {x : Int64} (h0 : 0 < a) (ho : vz_arr μ a = some (1, n, .inr (.inl f))) (hi : vp_in i n) (hd : decode (vz_bc P y) pc = .ok (.lastore, 1))
    (kk : ∀ (H1 : Heap) (locs1 : List Loc), vz_R D cl cc (vz_gr P) τ A b L xs ρ (vz_upd μ a (.inl (1, n, .inr (.inl (vp_updL f i.toNatClampNeg x))))) H1 → va_S A s.heap H1 locs1 → W p l e R s m args below meth c H1 locs1 cells slots Q (F0 m (pc + 1) ls rest)) : W p l e R s m args below meth c H locs cells slots Q (F0 m pc ls (.long x :: .int i :: .ref (ρ a) :: rest)) := by
  obtain ⟨hx, hb, hml, hown, hts, hns, hK, hin, hrt, hlk⟩ := hC
  exact va_last hx hb hK hR.1 hR.2.1 hS (a - 1) 1 (vz_R_arr h0 ho) rfl hi hd (fun H1 locs1 hP1 hD1 hS1 => kk H1 locs1 (vz_R_upd hR h0 (vz_arr_of ho).1 rfl hP1 hD1 trivial) hS1)
theorem vz_zald (hC : vz_C P D cl cc Ts Ns y p s m args meth c) (hR : vz_R D cl cc (vz_gr P) τ A b L xs ρ μ H) {a n : Nat} {f : Nat → Int32} {i : Int32} (h0 : 0 < a) (ho : vz_arr μ a = some (2, n, .inl f)) (hi : vp_in i n) (hd : decode (vz_bc P y) pc = .ok (.baload, 1))
    (kk : W p l e R s m args below meth c H locs cells slots Q (F0 m (pc + 1) ls (.int (f i.toNatClampNeg) :: rest))) : W p l e R s m args below meth c H locs cells slots Q (F0 m pc ls (.int i :: .ref (ρ a) :: rest)) := by
  obtain ⟨hx, hb, hml, hown, hts, hns, hK, hin, hrt, hlk⟩ := hC
  exact va_zald hx hb hK hR.1 (a - 1) 2 (vz_R_arr h0 ho) rfl hi hd kk
theorem vz_zast (hC : vz_C P D cl cc Ts Ns y p s m args meth c) (hR : vz_R D cl cc (vz_gr P) τ A b L xs ρ μ H) (hS : va_S A s.heap H locs) {a n : Nat} {f : Nat → Int32} {i x : Int32} (h0 : 0 < a) (ho : vz_arr μ a = some (2, n, .inl f)) (hi : vp_in i n) (hd : decode (vz_bc P y) pc = .ok (.bastore, 1))
    (kk : ∀ (H1 : Heap) (locs1 : List Loc), vz_R D cl cc (vz_gr P) τ A b L xs ρ (vz_upd μ a (.inl (2, n, .inl (upd f i.toNatClampNeg (vp_nar .boolean x))))) H1 → va_S A s.heap H1 locs1 → W p l e R s m args below meth c H1 locs1 cells slots Q (F0 m (pc + 1) ls rest)) : W p l e R s m args below meth c H locs cells slots Q (F0 m pc ls (.int x :: .int i :: .ref (ρ a) :: rest)) := by
  obtain ⟨hx, hb, hml, hown, hts, hns, hK, hin, hrt, hlk⟩ := hC
  exact va_zast hx hb hK hR.1 hR.2.1 hS (a - 1) 2 (vz_R_arr h0 ho) rfl hi hd (fun H1 locs1 hP1 hD1 hS1 => kk H1 locs1 (vz_R_upd hR h0 (vz_arr_of ho).1 rfl hP1 hD1 trivial) hS1)
theorem vz_alen (hC : vz_C P D cl cc Ts Ns y p s m args meth c) (hR : vz_R D cl cc (vz_gr P) τ A b L xs ρ μ H) (hZ : vz_Z A b L xs s) (hS : va_S A s.heap H locs) {a : Nat} {x : Nat × vp_A} (ho : vz_arr μ a = some x) (h2 : x.1 < 3) (hd : decode (vz_bc P y) pc = .ok (.arraylength, 1))
    (kk : W p l e R s m args below meth c H locs cells slots Q (F0 m (pc + 1) ls (.int (Int32.ofNat x.2.1) :: rest))) : W p l e R s m args below meth c H locs cells slots Q (F0 m pc ls (.ref (ρ a) :: rest)) := by
  obtain ⟨hx, hb, hml, hown, hts, hns, hK, hin, hrt, hlk⟩ := hC
  by_cases h0 : 0 < a
  · obtain ⟨t, x⟩ := x
    have h2 : t < 3 := h2
    rcases (show t = 0 ∨ t = 1 ∨ t = 2 by omega) with rfl | rfl | rfl
    · exact va_alen hx hb hK hR.1 (a - 1) 0 (vz_R_arr h0 ho) rfl rfl hd kk
    · exact va_alen hx hb hK hR.1 (a - 1) 1 (vz_R_arr h0 ho) rfl rfl hd kk
    · exact va_alen hx hb hK hR.1 (a - 1) 2 (vz_R_arr h0 ho) rfl rfl hd kk
  · have e0 : a = 0 := by omega
    subst e0
    obtain ⟨-, e1⟩ := vz_arr_of ho
    have e2 := e1.symm.trans hR.2.2.2.2.1
    simp only [Sum.inl.injEq] at e2
    subst e2
    rw [hR.2.2.2.1]
    exact va_slen hx hb hZ.1 hZ.2.1 hZ.2.2 hS hd kk
theorem vz_newa (gA : vz_gA Ts) (hC : vz_C P D cl cc Ts Ns y p s m args meth c) (hR : vz_R D cl cc (vz_gr P) τ A b L xs ρ μ H) (hS : va_S A s.heap H locs) (hA : ∀ q, s.heap.size ≤ q → A q) {t : ArrayType} {n : Int32} {x : va_E} (hmk : vz_mk t n.toNatClampNeg (fun x => some x) = some x) (hn : ¬ (n < 0 ∨ 536870912 < n.toNatClampNeg * componentBytes (newarray.typeOf t))) (hd : decode (vz_bc P y) pc = .ok (.newarray t, 2)) (hrc : cells + 1 ≤ R.cells) (hrs : slots + n.toNatClampNeg ≤ R.slots) (hM0 : μ.1 + 1 < vz_M0)
    (kk : ∀ (q : Nat) (H1 : Heap), vz_R D cl cc (vz_gr P) τ A b L xs (va_up ρ (μ.1 + 1) q) (vz_new μ x n.toNatClampNeg) H1 → va_S A s.heap H1 locs → W p l e R s m args below meth c H1 locs (cells + 1) (slots + n.toNatClampNeg) Q (F0 m (pc + 2) ls (.ref q :: rest))) : W p l e R s m args below meth c H locs cells slots Q (F0 m pc ls (.int n :: rest)) := by
  obtain ⟨hx, hb, hml, hown, hts, hns, hK, hin, hrt, hlk⟩ := hC
  have hn0 : ¬ n < 0 := fun z => hn (Or.inl z)
  have hnb : n.toNatClampNeg * componentBytes (newarray.typeOf t) ≤ 536870912 := Nat.not_lt.mp fun z => hn (Or.inr z)
  cases t with
  | int =>
    cases hmk
    refine va_newa (atype := .int) (a0 := (n.toNatClampNeg, .inl fun _ => 0)) hx hb (hts _ gA.1) rfl hK hR.1 hR.2.1 hS hA (fun _ => rfl) hn0 rfl hnb hrc hrs hd (fun q cA H1 hK1 hP1 hD1 hS1 => ?_)
    have e1 : cA = cc 0 := by
      have h1 := va_nm_int (hK1.2 3 (cA, .int) rfl).2
      have h2 := va_nm_int (hK.2 0 (cc 0, .int) rfl).2
      exact Option.some.inj (h1.symm.trans h2)
    subst e1
    exact kk q H1 (vz_R_new hR rfl hP1 hD1 hM0 trivial) hS1
  | long =>
    cases hmk
    refine va_newa (atype := .long) (a0 := (n.toNatClampNeg, .inr (.inl fun _ => 0))) hx hb (hts _ gA.2.1) rfl hK hR.1 hR.2.1 hS hA (fun _ => rfl) hn0 rfl hnb hrc hrs hd (fun q cA H1 hK1 hP1 hD1 hS1 => ?_)
    have e1 : cA = cc 1 := by
      have h1 := va_nm_long (hK1.2 3 (cA, .long) rfl).2
      have h2 := va_nm_long (hK.2 1 (cc 1, .long) rfl).2
      exact Option.some.inj (h1.symm.trans h2)
    subst e1
    exact kk q H1 (vz_R_new hR rfl hP1 hD1 hM0 trivial) hS1
  | boolean =>
    cases hmk
    refine va_newa (atype := .boolean) (a0 := (n.toNatClampNeg, .inl fun _ => 0)) hx hb (hts _ gA.2.2) rfl hK hR.1 hR.2.1 hS hA (fun _ => rfl) hn0 rfl hnb hrc hrs hd (fun q cA H1 hK1 hP1 hD1 hS1 => ?_)
    have e1 : cA = cc 2 := by
      have h1 := va_nm_boolean (hK1.2 3 (cA, .boolean) rfl).2
      have h2 := va_nm_boolean (hK.2 2 (cc 2, .boolean) rfl).2
      exact Option.some.inj (h1.symm.trans h2)
    subst e1
    exact kk q H1 (vz_R_new hR rfl hP1 hD1 hM0 trivial) hS1
  | _ => exact nomatch (show (none : Option va_E) = some x from hmk)
theorem vz_newo (gN : vz_gN P cl Ts) (hC : vz_C P D cl cc Ts Ns y p s m args meth c) (hR : vz_R D cl cc (vz_gr P) τ A b L xs ρ μ H) (hS : va_S A s.heap H locs) (hA : ∀ q, s.heap.size ≤ q → A q) {ix : Nat} {t : Nat × List Value} (hN : vz_N P y ix = some t) (hd : decode (vz_bc P y) pc = .ok (.new ix, 3)) (hrc : cells + 1 ≤ R.cells) (hrs : slots + t.2.length ≤ R.slots) (hM0 : μ.1 + 1 < vz_M0)
    (kk : ∀ (q : Nat) (H1 : Heap), vz_R D cl cc (vz_gr P) τ A b L xs (va_up ρ (μ.1 + 1) q) (vz_new μ (.inr t) t.2.length) H1 → va_S A s.heap H1 locs → W p l e R s m args below meth c H1 locs (cells + 1) (slots + t.2.length) Q (F0 m (pc + 3) ls (.ref q :: rest))) : W p l e R s m args below meth c H locs cells slots Q (F0 m pc ls rest) := by
  obtain ⟨hx, hb, hml, hown, hts, hns, hK, hin, hrt, hlk⟩ := hC
  obtain ⟨C, T, N, ty0, hc, hw, hty, h1, h2, h3, hlen, hdef, hnr⟩ := gN y ix t hN
  subst hlen
  have hm : ∀ ρ9 : Nat → Nat, t.2.map (vz_t ρ9) = t.2 := fun ρ9 => by
    have h9 : t.2.map (vz_t ρ9) = t.2.map id := List.map_congr_left fun v hv => by
      cases v with
      | ref a => exact absurd rfl (hnr _ hv a)
      | _ => rfl
    rw [h9, List.map_id]
  refine va_new (ci := t.1) (fs := t.2) (T := T) hx hb hts hw ty0 hty hown (hts _ h1) (hts _ h2) (hts _ h3) hK hR.1 hR.2.1 hS hA hc hdef hrc hrs hd (fun q H1 hP1 hD1 hS1 => ?_)
  exact kk q H1 (vz_R_new hR (by show Sum.inr (t.1, t.2.map (vz_t _)) = _; rw [hm]) hP1 hD1 hM0 (fun j v hv c9 e9 => absurd e9 (hnr v (List.mem_of_getElem? hv) c9))) hS1
set_option maxHeartbeats 4000000 in
set_option maxRecDepth 100000 in
/-- what a step of the heap's instructions needs and gives -/
theorem vz_Hs {G : State → Prop} (gI : vz_gI P) (gF : vz_gF P cl Ts Ns) (gN : vz_gN P cl Ts) (gK : vz_gK P Ts) (gA : vz_gA Ts) (gG : vz_gG P) (gL : vz_gL P G τ l) (hGs : G s) (hC : vz_C P D cl cc Ts Ns y p s m args meth c) (hZ : vz_Z A b L xs s) (hA : ∀ q, s.heap.size ≤ q → A q)
    {i : Instr} {lv : vz_L} {st : List Value} {z : Nat × vz_L × List Value × vz_H} (hd : vz_I P y pc = some (i, len)) (h : vz_h P y i len pc lv st μ = some z) (hR : vz_R D cl cc (vz_gr P) τ A b L xs ρ μ H) (hS : va_S A s.heap H locs) (hl : lv_has ls (vz_ml P y) (vz_tl ρ lv)) (hs : vz_okS μ.1 st) (hlo : vz_okL μ.1 lv)
    (hrc : cells + (z.2.2.2.2.2.1 - μ.2.2.1) ≤ R.cells) (hrs : slots + (z.2.2.2.2.2.2 - μ.2.2.2) ≤ R.slots)
    (k : ∀ (H' : Heap) (locs' : List Loc) (ρ' : Nat → Nat) (ls' : Array Slot), vz_ex (vz_gq (vz_gr P) y) μ.1 ρ' ρ → vz_R D cl cc (vz_gr P) τ A b L xs ρ' z.2.2.2 H' → va_S A s.heap H' locs' → lv_has ls' (vz_ml P y) (vz_tl ρ' z.2.1) → vz_okS z.2.2.2.1 z.2.2.1 → vz_okL z.2.2.2.1 z.2.1 →
      W p l e R s m args below meth c H' locs' (cells + (z.2.2.2.2.2.1 - μ.2.2.1)) (slots + (z.2.2.2.2.2.2 - μ.2.2.2)) Q (F0 m z.1 ls' (vz_ts ρ' z.2.2.1))) : W p l e R s m args below meth c H locs cells slots Q (F0 m pc ls (vz_ts ρ st)) := by
  have hdc := gI y pc _ hd
  have hz0 : cells + (μ.2.2.1 - μ.2.2.1) = cells := by omega
  have hz1 : slots + (μ.2.2.2 - μ.2.2.2) = slots := by omega
  have simple : ∀ i9, i9 = i → (vz_a (vz_ml P y) i9 len pc lv st).bind (fun z => some (z.1, z.2.1, z.2.2, μ)) = some z → W p l e R s m args below meth c H locs cells slots Q (F0 m pc ls (vz_ts ρ st)) := by
    intro i9 e9 h9
    subst e9
    obtain ⟨z1, h1, h2⟩ := Option.bind_eq_some_iff.mp h9
    cases h2
    obtain ⟨o1, o2⟩ := vz_a_ok h1 hs hlo
    refine vz_A hC.1 hC.2.1 hdc h1 hl (fun ls' hl' => ?_)
    have k9 := k H locs ρ ls' vz_ex.rf hR hS hl' o1 o2
    simp only [hz0, hz1] at k9
    exact k9
  cases i with
  | getfield ix =>
    obtain ⟨rfl, h⟩ := vz_n_of h
    obtain ⟨t, hF, h⟩ := Option.bind_eq_some_iff.mp h
    obtain ⟨a, r, rfl, h⟩ := vz_r_of h
    obtain ⟨o, ho, h⟩ := Option.bind_eq_some_iff.mp h
    obtain ⟨hci, h⟩ := vz_b_of h
    obtain ⟨v, hv, h⟩ := Option.bind_eq_some_iff.mp h
    cases h
    refine vz_getf gF hC hR hF ho (by simpa using hci) hv hdc ?_
    have k9 := k H locs ρ ls vz_ex.rf hR hS hl (vz_okS_c (vz_obj_ok hR.2.2.1 ho hv) (vz_okS_t hs)) hlo
    simp only [hz0, hz1] at k9
    exact k9
  | putfield ix =>
    obtain ⟨rfl, h⟩ := vz_n_of h
    obtain ⟨t, hF, h⟩ := Option.bind_eq_some_iff.mp h
    obtain ⟨v, r, rfl, h⟩ := vz_1_of h
    obtain ⟨a, r, rfl, h⟩ := vz_r_of h
    obtain ⟨o, ho, h⟩ := Option.bind_eq_some_iff.mp h
    obtain ⟨hci, h⟩ := vz_b_of h
    obtain ⟨hlt, h⟩ := vz_b_of h
    obtain ⟨hfit, h⟩ := vz_b_of h
    unfold vz_put at h
    cases how : vz_ow (vz_gr P) a t.2.1 v with
    | true =>
      rw [how] at h
      obtain ⟨hfi, h⟩ := vz_b_of (show vz_b _ _ = some z from h)
      cases h
      refine vz_putr gF hC hR hS hF ho (by simpa using hci) (of_decide_eq_true hlt) hfit hfi hdc (fun H1 locs1 hP1 hD1 hS1 => ?_)
      have k9 := k H1 locs1 ρ ls vz_ex.rf (vz_R_put hR ho (of_decide_eq_true hlt) how (vz_okS_h hs) hP1 hD1) hS1 hl (vz_okS_t (vz_okS_t hs)) hlo
      simp only [vz_upd, hz0, hz1] at k9
      exact k9
    | false =>
      rw [how] at h
      obtain ⟨u, r9, e9, h⟩ := vz_r_of (show vz_r _ _ = some z from h)
      cases e9
      obtain ⟨hb9, h⟩ := vz_b_of h
      obtain ⟨hb9, hqy⟩ := Bool.and_eq_true_iff.mp hb9
      have hqy : vz_q y = false := by simpa using hqy
      obtain ⟨hu, hfi⟩ := Bool.and_eq_true_iff.mp hb9
      have hu : (vz_gr P).1 < u := Nat.le_of_ble_eq_true hu
      obtain ⟨k9, hk9, h⟩ := Option.bind_eq_some_iff.mp h
      obtain ⟨x, hx, h⟩ := Option.bind_eq_some_iff.mp h
      obtain ⟨x', hx', h⟩ := Option.bind_eq_some_iff.mp h
      obtain ⟨hng, h⟩ := vz_b_of h
      cases h
      have hng := vz_nbS_of hng
      have hu2 : u < vz_M0 := Nat.lt_of_le_of_lt (vz_arr_of hx).1 hR.2.2.1.1
      have hex : vz_ex (vz_gr P) μ.1 (va_up (va_up ρ k9 (ρ u)) u (ρ k9)) ρ := vz_ex_swp gG hu hu2 hk9 _ _
      have hlo9 : vz_okL μ.1 (vz_fl (vz_gr P) lv) := fun q hq => hlo q (List.mem_filter.mp hq).1
      have hnl9 : vz_ngL (vz_gr P) (vz_fl (vz_gr P) lv) := fun q hq => vz_nb_of (List.mem_filter.mp hq).2
      have hso : vz_okS μ.1 r := vz_okS_t (vz_okS_t hs)
      refine vz_putr gF hC hR hS hF ho (by simpa using hci) (of_decide_eq_true hlt) hfit (by rw [Bool.or_eq_true_iff]; exact Or.inl hfi) hdc (fun H1 locs1 hP1 hD1 hS1 => ?_)
      have k8 := k H1 locs1 (va_up (va_up ρ k9 (ρ u)) u (ρ k9)) ls (by rw [vz_gq_f hqy]; exact hex) (vz_R_swp gG hR ho (of_decide_eq_true hlt) hu hk9 hx hx' hP1 hD1) hS1 (by rw [vz_tl_ext hex hlo9 hnl9]; exact ⟨hl.1, hl.2.1, fun q hq => hl.2.2 q (by
        obtain ⟨q1, h1, h2⟩ := List.mem_map.mp hq
        exact List.mem_map.mpr ⟨q1, (List.mem_filter.mp h1).1, h2⟩)⟩) hso hlo9
      simp only [vz_swp, hz0, hz1] at k8
      rw [vz_ts_ext hex hso hng] at k8
      exact k8
  | iaload =>
    obtain ⟨rfl, h⟩ := vz_n_of h
    obtain ⟨a, i, r, rfl, h⟩ := vz_ri_of h
    obtain ⟨x, ho, h⟩ := Option.bind_eq_some_iff.mp h
    obtain ⟨n, f, rfl, h⟩ := vz_xi_of h
    obtain ⟨hi, h⟩ := vz_in_of h
    cases h
    refine vz_iald hC hR hZ hS ho hi hdc ?_
    have k9 := k H locs ρ ls vz_ex.rf hR hS hl (vz_okS_c vz_ok_i (vz_okS_t (vz_okS_t hs))) hlo
    simp only [hz0, hz1] at k9
    exact k9
  | laload =>
    obtain ⟨rfl, h⟩ := vz_n_of h
    obtain ⟨a, i, r, rfl, h⟩ := vz_ri_of h
    obtain ⟨h0, h⟩ := vz_b_of h
    obtain ⟨x, ho, h⟩ := Option.bind_eq_some_iff.mp h
    obtain ⟨n, f, rfl, h⟩ := vz_xl_of h
    obtain ⟨hi, h⟩ := vz_in_of h
    cases h
    refine vz_lald hC hR (of_decide_eq_true h0) ho hi hdc ?_
    have k9 := k H locs ρ ls vz_ex.rf hR hS hl (vz_okS_c vz_ok_l (vz_okS_t (vz_okS_t hs))) hlo
    simp only [hz0, hz1] at k9
    exact k9
  | baload =>
    obtain ⟨rfl, h⟩ := vz_n_of h
    obtain ⟨a, i, r, rfl, h⟩ := vz_ri_of h
    obtain ⟨h0, h⟩ := vz_b_of h
    obtain ⟨x, ho, h⟩ := Option.bind_eq_some_iff.mp h
    obtain ⟨n, f, rfl, h⟩ := vz_xz_of h
    obtain ⟨hi, h⟩ := vz_in_of h
    cases h
    refine vz_zald hC hR (of_decide_eq_true h0) ho hi hdc ?_
    have k9 := k H locs ρ ls vz_ex.rf hR hS hl (vz_okS_c vz_ok_i (vz_okS_t (vz_okS_t hs))) hlo
    simp only [hz0, hz1] at k9
    exact k9
  | bastore =>
    obtain ⟨rfl, h⟩ := vz_n_of h
    obtain ⟨v, r, rfl, h⟩ := vz_i_of h
    obtain ⟨a, i, r, rfl, h⟩ := vz_ri_of h
    obtain ⟨h0, h⟩ := vz_b_of h
    obtain ⟨x, ho, h⟩ := Option.bind_eq_some_iff.mp h
    obtain ⟨n, f, rfl, h⟩ := vz_xz_of h
    obtain ⟨hi, h⟩ := vz_in_of h
    cases h
    refine vz_zast hC hR hS (of_decide_eq_true h0) ho hi hdc (fun H1 locs1 hR1 hS1 => ?_)
    have k9 := k H1 locs1 ρ ls vz_ex.rf hR1 hS1 hl (vz_okS_t (vz_okS_t (vz_okS_t hs))) hlo
    simp only [vz_upd, hz0, hz1] at k9
    exact k9
  | iastore =>
    obtain ⟨rfl, h⟩ := vz_n_of h
    obtain ⟨v, r, rfl, h⟩ := vz_i_of h
    obtain ⟨a, i, r, rfl, h⟩ := vz_ri_of h
    obtain ⟨h0, h⟩ := vz_b_of h
    obtain ⟨x, ho, h⟩ := Option.bind_eq_some_iff.mp h
    obtain ⟨n, f, rfl, h⟩ := vz_xi_of h
    obtain ⟨hi, h⟩ := vz_in_of h
    cases h
    refine vz_iast hC hR hS (of_decide_eq_true h0) ho hi hdc (fun H1 locs1 hR1 hS1 => ?_)
    have k9 := k H1 locs1 ρ ls vz_ex.rf hR1 hS1 hl (vz_okS_t (vz_okS_t (vz_okS_t hs))) hlo
    simp only [vz_upd, hz0, hz1] at k9
    exact k9
  | lastore =>
    obtain ⟨rfl, h⟩ := vz_n_of h
    obtain ⟨v, r, rfl, h⟩ := vz_l_of h
    obtain ⟨a, i, r, rfl, h⟩ := vz_ri_of h
    obtain ⟨h0, h⟩ := vz_b_of h
    obtain ⟨x, ho, h⟩ := Option.bind_eq_some_iff.mp h
    obtain ⟨n, f, rfl, h⟩ := vz_xl_of h
    obtain ⟨hi, h⟩ := vz_in_of h
    cases h
    refine vz_last hC hR hS (of_decide_eq_true h0) ho hi hdc (fun H1 locs1 hR1 hS1 => ?_)
    have k9 := k H1 locs1 ρ ls vz_ex.rf hR1 hS1 hl (vz_okS_t (vz_okS_t (vz_okS_t hs))) hlo
    simp only [vz_upd, hz0, hz1] at k9
    exact k9
  | arraylength =>
    obtain ⟨rfl, h⟩ := vz_n_of h
    obtain ⟨a, r, rfl, h⟩ := vz_r_of h
    obtain ⟨x, ho, h⟩ := Option.bind_eq_some_iff.mp h
    obtain ⟨h2, h⟩ := vz_b_of h
    cases h
    refine vz_alen hC hR hZ hS ho (of_decide_eq_true h2) hdc ?_
    have k9 := k H locs ρ ls vz_ex.rf hR hS hl (vz_okS_c vz_ok_i (vz_okS_t hs)) hlo
    simp only [hz0, hz1] at k9
    exact k9
  | newarray t =>
    obtain ⟨rfl, h⟩ := vz_n_of h
    obtain ⟨n, r, rfl, h⟩ := vz_i_of h
    have h9 : ∃ x, vz_mk t n.toNatClampNeg (fun x => some x) = some x ∧ (if n < 0 ∨ 536870912 < n.toNatClampNeg * componentBytes (newarray.typeOf t) then none else vz_b (decide (μ.1 + 1 < vz_M0)) (some (pc + 2, lv, Value.ref (μ.1 + 1) :: r, vz_new μ x n.toNatClampNeg))) = some z := by
      cases t <;> first | exact ⟨_, rfl, h⟩ | exact nomatch (show (none : Option (Nat × vz_L × List Value × vz_H)) = some z from h)
    obtain ⟨x, hx, h⟩ := h9
    by_cases hc : n < 0 ∨ 536870912 < n.toNatClampNeg * componentBytes (newarray.typeOf t)
    · rw [if_pos hc] at h
      cases h
    · rw [if_neg hc] at h
      obtain ⟨hM, h⟩ := vz_b_of h
      have hM := of_decide_eq_true hM
      cases h
      have q1 : (vz_new μ x n.toNatClampNeg).2.2.1 - μ.2.2.1 = 1 := by show μ.2.2.1 + 1 - μ.2.2.1 = 1; omega
      have q2 : (vz_new μ x n.toNatClampNeg).2.2.2 - μ.2.2.2 = n.toNatClampNeg := by show μ.2.2.2 + n.toNatClampNeg - μ.2.2.2 = _; omega
      simp only [q1, q2] at hrc hrs k
      refine vz_newa gA hC hR hS hA hx hc hdc hrc hrs hM (fun q H1 hR1 hS1 => ?_)
      have hρ : vz_ex0 μ.1 (va_up ρ (μ.1 + 1) q) ρ := vz_ex0_new hM
      have hs1 : vz_okS μ.1 r := vz_okS_t hs
      have k9 := k H1 locs (va_up ρ (μ.1 + 1) q) ls hρ.ex hR1 hS1 (by rw [vz_tl_ex0 hρ hlo]; exact hl) (vz_okS_c (fun a e => by cases e; exact Or.inl (Nat.le_refl _)) (fun v hv => vz_ok_le (Nat.le_succ _) (hs1 v hv))) (fun q9 hq => vz_ok_le (Nat.le_succ _) (hlo q9 hq))
      have e9 : vz_ts (va_up ρ (μ.1 + 1) q) (Value.ref (μ.1 + 1) :: r) = .ref q :: vz_ts ρ r := by
        show Value.ref (va_up ρ (μ.1 + 1) q (μ.1 + 1)) :: vz_ts (va_up ρ (μ.1 + 1) q) r = _
        rw [va_up_self, vz_ts_ex0 hρ hs1]
      simp only [e9] at k9
      exact k9
  | new ix =>
    obtain ⟨rfl, h⟩ := vz_n_of h
    obtain ⟨t, hN, h⟩ := Option.bind_eq_some_iff.mp h
    obtain ⟨hM, h⟩ := vz_b_of h
    have hM := of_decide_eq_true hM
    cases h
    have q1 : (vz_new μ (.inr t) t.2.length).2.2.1 - μ.2.2.1 = 1 := by show μ.2.2.1 + 1 - μ.2.2.1 = 1; omega
    have q2 : (vz_new μ (.inr t) t.2.length).2.2.2 - μ.2.2.2 = t.2.length := by show μ.2.2.2 + t.2.length - μ.2.2.2 = _; omega
    simp only [q1, q2] at hrc hrs k
    refine vz_newo gN hC hR hS hA hN hdc hrc hrs hM (fun q H1 hR1 hS1 => ?_)
    have hρ : vz_ex0 μ.1 (va_up ρ (μ.1 + 1) q) ρ := vz_ex0_new hM
    have k9 := k H1 locs (va_up ρ (μ.1 + 1) q) ls hρ.ex hR1 hS1 (by rw [vz_tl_ex0 hρ hlo]; exact hl) (vz_okS_c (fun a e => by cases e; exact Or.inl (Nat.le_refl _)) (fun v hv => vz_ok_le (Nat.le_succ _) (hs v hv))) (fun q9 hq => vz_ok_le (Nat.le_succ _) (hlo q9 hq))
    have e9 : vz_ts (va_up ρ (μ.1 + 1) q) (Value.ref (μ.1 + 1) :: st) = .ref q :: vz_ts ρ st := by
      show Value.ref (va_up ρ (μ.1 + 1) q (μ.1 + 1)) :: vz_ts (va_up ρ (μ.1 + 1) q) st = _
      rw [va_up_self, vz_ts_ex0 hρ hs]
    simp only [e9] at k9
    exact k9
  | ldc ix =>
    obtain ⟨rfl, h⟩ := vz_n_of h
    obtain ⟨v, hK, h⟩ := Option.bind_eq_some_iff.mp h
    obtain ⟨hv, h⟩ := vz_vk_of h
    cases h
    rcases hv with ⟨x, rfl⟩ | ⟨a, rfl⟩
    case inr =>
      obtain ⟨h1, h2⟩ := gL y ix a hK
      refine h2 hC.1 hC.2.1 hC.2.2.2.1 hGs hdc ?_
      have k9 := k H locs ρ ls vz_ex.rf hR hS hl (vz_okS_c (fun a9 e9 => by cases e9; exact Or.inr h1) hs) hlo
      simp only [hz0, hz1] at k9
      rw [← hR.2.2.2.2.2 a h1]
      exact k9
    refine lv_ldc hC.1 hC.2.1 hC.2.2.2.1 (hC.2.2.2.2.1 _ ((gK y ix _ hK).1 x rfl)) hdc ?_
    have k9 := k H locs ρ ls vz_ex.rf hR hS hl (vz_okS_c vz_ok_i hs) hlo
    simp only [hz0, hz1] at k9
    exact k9
  | ldc_w ix =>
    obtain ⟨rfl, h⟩ := vz_n_of h
    obtain ⟨v, hK, h⟩ := Option.bind_eq_some_iff.mp h
    obtain ⟨x, rfl, h⟩ := vz_vi_of h
    cases h
    refine lv_ldcw hC.1 hC.2.1 hC.2.2.2.1 (hC.2.2.2.2.1 _ ((gK y ix _ hK).1 x rfl)) hdc ?_
    have k9 := k H locs ρ ls vz_ex.rf hR hS hl (vz_okS_c vz_ok_i hs) hlo
    simp only [hz0, hz1] at k9
    exact k9
  | ldc2_w ix =>
    obtain ⟨rfl, h⟩ := vz_n_of h
    obtain ⟨v, hK, h⟩ := Option.bind_eq_some_iff.mp h
    obtain ⟨x, rfl, h⟩ := vz_vl_of h
    cases h
    refine lv_ldc2 hC.1 hC.2.1 hC.2.2.2.1 (hC.2.2.2.2.1 _ ((gK y ix _ hK).2 x rfl)) hdc ?_
    have k9 := k H locs ρ ls vz_ex.rf hR hS hl (vz_okS_c vz_ok_l hs) hlo
    simp only [hz0, hz1] at k9
    exact k9
  | _ => exact simple _ rfl h
end VZI
