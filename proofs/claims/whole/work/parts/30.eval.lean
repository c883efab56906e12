/-! rows that run the abstract machine, an instruction a row -/
set_option maxHeartbeats 4000000 in
theorem ev_h {P : vz_P} {d y pc len : Nat} {i : Instr} {lv : vz_L} {st : List Value} {μ : vz_H} {q : vz_O × vz_H} {z : Nat × vz_L × List Value × vz_H} (hT : vz_Th P y pc = none) (hI : vz_I P y pc = some (i, len)) (hh : vz_h P y i len pc lv st μ = some z) (k : vz_ev P d y z.1 z.2.1 z.2.2.1 z.2.2.2 q) : vz_ev P d y pc lv st μ q := by
  obtain ⟨n, hn⟩ := k
  refine ⟨n + 1, ?_⟩
  show vz_step P (vz_run P n) d y pc lv st μ = some q
  unfold vz_step
  rw [hT]
  dsimp only
  rw [hI]
  cases i <;> first | (show (vz_h P y _ len pc lv st μ).bind (fun z => vz_run P n d y z.1 z.2.1 z.2.2.1 z.2.2.2) = some q; rw [hh]; exact hn) | exact nomatch (show (none : Option (Nat × vz_L × List Value × vz_H)) = some z from hh)
theorem ev_tk {As rest : List Value} {na : Nat} (h : As.length = na) : ((As.reverse ++ rest).take na).reverse = As ∧ (As.reverse ++ rest).drop na = rest ∧ na ≤ (As.reverse ++ rest).length := by
  subst h
  refine ⟨?_, ?_, ?_⟩
  · rw [List.take_left' List.length_reverse, List.reverse_reverse]
  · exact List.drop_left' List.length_reverse
  · rw [List.length_append, List.length_reverse]; omega
theorem ev_cal {P : vz_P} {n d y pc y' : Nat} {lv : vz_L} {μ μ1 : vz_H} {As rest : List Value} {q : vz_O × vz_H} {v : Option Value} (h8 : decide ((rest.map Value.category).sum ≤ 8) = true) (hml : decide ((As.map Value.category).sum ≤ vz_ml P y') = true) (hS : vz_nbS (vz_gq (vz_gr P) y') rest = true) (hL : vz_nbL (vz_gr P) lv = true)
    (h1 : vz_run P n d y' 0 (lv_args 0 As) [] μ = some (.inl v, μ1)) (h2 : vz_run P n (d + 1) y (pc + 3) lv (v.toList ++ rest) μ1 = some q) (hq : (!vz_q y || vz_q y') = true) : vz_cal P (vz_run P n) (d + 1) y pc lv μ y' As rest = some q := by
  unfold vz_cal
  rw [h8, hml, hS, vz_nbL_gq hL, hq]
  show (vz_run P n d y' 0 (lv_args 0 As) [] μ).bind _ = some q
  rw [h1]
  exact h2
theorem ev_2 {P : vz_P} {d y pc d' y' pc' : Nat} {lv lv' : vz_L} {st st' : List Value} {μ μ' : vz_H} {q q' : vz_O × vz_H} (h1 : vz_ev P d y pc lv st μ q) (h2 : vz_ev P d' y' pc' lv' st' μ' q') : ∃ n, vz_run P n d y pc lv st μ = some q ∧ vz_run P n d' y' pc' lv' st' μ' = some q' := by
  obtain ⟨a, ha⟩ := h1
  obtain ⟨b, hb⟩ := h2
  exact ⟨max a b, vz_run_more (Nat.le_max_left a b) ha, vz_run_more (Nat.le_max_right a b) hb⟩
section EV
variable {P : vz_P} {d y pc y' ix na a : Nat} {lv : vz_L} {μ μ1 : vz_H} {As rest : List Value} {q : vz_O × vz_H} {v : Option Value}
theorem ev_callS {k : Nat} (hT : vz_Th P y pc = none) (hI : vz_I P y pc = some (.invokestatic ix, 3)) (hC : vz_Cl P y ix = some (k, y', na)) (hk : k = 0 ∨ k = 9) (hna : As.length = na) (h8 : decide ((rest.map Value.category).sum ≤ 8) = true) (hml : decide ((As.map Value.category).sum ≤ vz_ml P y') = true) (hS : vz_nbS (vz_gq (vz_gr P) y') rest = true) (hL : vz_nbL (vz_gr P) lv = true)
    (h1 : vz_ev P d y' 0 (lv_args 0 As) [] μ (.inl v, μ1)) (h2 : vz_ev P (d + 1) y (pc + 3) lv (v.toList ++ rest) μ1 q) (hq : (!vz_q y || vz_q y') = true := by rfl) : vz_ev P (d + 1) y pc lv (As.reverse ++ rest) μ q := by
  obtain ⟨n, r1, r2⟩ := ev_2 h1 h2
  obtain ⟨t1, t2, t3⟩ := ev_tk (rest := rest) hna
  refine ⟨n + 1, ?_⟩
  show vz_step P (vz_run P n) (d + 1) y pc lv (As.reverse ++ rest) μ = some q
  unfold vz_step
  rw [hT]
  dsimp only
  rw [hI]
  show (vz_Cl P y ix).bind _ = some q
  rw [hC]
  show vz_b (decide (na ≤ (As.reverse ++ rest).length)) _ = some q
  rw [decide_eq_true t3]
  have h3 := ev_cal h8 hml hS hL r1 r2 hq
  rcases hk with rfl | rfl
  · show vz_cal P (vz_run P n) (d + 1) y pc lv μ y' ((As.reverse ++ rest).take na).reverse ((As.reverse ++ rest).drop na) = some q
    rw [t1, t2]; exact h3
  · show vz_cal P (vz_run P n) (d + 1) y pc lv μ y' ((As.reverse ++ rest).take na).reverse ((As.reverse ++ rest).drop na) = some q
    rw [t1, t2]; exact h3
theorem ev_callV {o : Nat × List Value} (hT : vz_Th P y pc = none) (hI : vz_I P y pc = some (.invokevirtual ix, 3)) (hC : vz_Cl P y ix = some (1, y', na)) (hna : As.length = na) (ho : vz_obj μ a = some o) (hc : (o.1 == vz_ci P y') = true) (h8 : decide ((rest.map Value.category).sum ≤ 8) = true) (hml : decide (((Value.ref a :: As).map Value.category).sum ≤ vz_ml P y') = true) (hS : vz_nbS (vz_gq (vz_gr P) y') rest = true) (hL : vz_nbL (vz_gr P) lv = true)
    (h1 : vz_ev P d y' 0 (lv_args 0 (.ref a :: As)) [] μ (.inl v, μ1)) (h2 : vz_ev P (d + 1) y (pc + 3) lv (v.toList ++ rest) μ1 q) (hq : (!vz_q y || vz_q y') = true := by rfl) : vz_ev P (d + 1) y pc lv (As.reverse ++ .ref a :: rest) μ q := by
  obtain ⟨n, r1, r2⟩ := ev_2 h1 h2
  obtain ⟨t1, t2, t3⟩ := ev_tk (rest := .ref a :: rest) hna
  refine ⟨n + 1, ?_⟩
  show vz_step P (vz_run P n) (d + 1) y pc lv (As.reverse ++ .ref a :: rest) μ = some q
  unfold vz_step
  rw [hT]
  dsimp only
  rw [hI]
  show (vz_Cl P y ix).bind _ = some q
  rw [hC]
  show vz_b (decide (na ≤ (As.reverse ++ .ref a :: rest).length)) (vz_r ((As.reverse ++ .ref a :: rest).drop na) _) = some q
  rw [decide_eq_true t3, t2]
  show (vz_obj μ a).bind (fun o => vz_b (o.1 == vz_ci P y') (vz_cal P (vz_run P n) (d + 1) y pc lv μ y' (.ref a :: ((As.reverse ++ .ref a :: rest).take na).reverse) rest)) = some q
  rw [ho, t1]
  show vz_b (o.1 == vz_ci P y') _ = some q
  rw [hc]
  exact ev_cal h8 hml hS hL r1 r2 hq
theorem ev_callI (hT : vz_Th P y pc = none) (hI : vz_I P y pc = some (.invokespecial ix, 3)) (hC : vz_Cl P y ix = some (2, y', na)) (hna : As.length = na) (h8 : decide ((rest.map Value.category).sum ≤ 8) = true) (hml : decide (((Value.ref a :: As).map Value.category).sum ≤ vz_ml P y') = true) (hS : vz_nbS (vz_gq (vz_gr P) y') rest = true) (hL : vz_nbL (vz_gr P) lv = true)
    (h1 : vz_ev P d y' 0 (lv_args 0 (.ref a :: As)) [] μ (.inl v, μ1)) (h2 : vz_ev P (d + 1) y (pc + 3) lv (v.toList ++ rest) μ1 q) (hq : (!vz_q y || vz_q y') = true := by rfl) : vz_ev P (d + 1) y pc lv (As.reverse ++ .ref a :: rest) μ q := by
  obtain ⟨n, r1, r2⟩ := ev_2 h1 h2
  obtain ⟨t1, t2, t3⟩ := ev_tk (rest := .ref a :: rest) hna
  refine ⟨n + 1, ?_⟩
  show vz_step P (vz_run P n) (d + 1) y pc lv (As.reverse ++ .ref a :: rest) μ = some q
  unfold vz_step
  rw [hT]
  dsimp only
  rw [hI]
  show (vz_Cl P y ix).bind _ = some q
  rw [hC]
  show vz_b (decide (na ≤ (As.reverse ++ .ref a :: rest).length)) (vz_r ((As.reverse ++ .ref a :: rest).drop na) _) = some q
  rw [decide_eq_true t3, t2]
  show vz_cal P (vz_run P n) (d + 1) y pc lv μ y' (.ref a :: ((As.reverse ++ .ref a :: rest).take na).reverse) rest = some q
  rw [t1]
  exact ev_cal h8 hml hS hL r1 r2 hq
end EV
