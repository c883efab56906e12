section EW
variable {P : vz_P} {d y pc y' ix na a : Nat} {lv : vz_L} {μ μ1 : vz_H} {As rest : List Value} {q : vz_O × vz_H}
/-- the ends -/
theorem ev_iret {x : Int32} {ty : FieldType} (hT : vz_Th P y pc = none) (hI : vz_I P y pc = some (.ireturn, 1)) (hr : vz_rt P y = some ty) (hf : vz_fit ty (.int x) = true) : vz_ev P d y pc lv [.int x] μ (.inl (some (.int x)), μ) := by
  refine ⟨1, ?_⟩
  show vz_step P (vz_run P 0) d y pc lv [.int x] μ = _
  unfold vz_step
  rw [hT]
  dsimp only
  rw [hI]
  show vz_rf P y (.int x) _ = _
  unfold vz_rf
  rw [hr]
  show vz_b (vz_fit ty (.int x)) _ = _
  rw [hf]
  rfl
theorem ev_lret {x : Int64} {ty : FieldType} (hT : vz_Th P y pc = none) (hI : vz_I P y pc = some (.lreturn, 1)) (hr : vz_rt P y = some ty) (hf : vz_fit ty (.long x) = true) : vz_ev P d y pc lv [.long x] μ (.inl (some (.long x)), μ) := by
  refine ⟨1, ?_⟩
  show vz_step P (vz_run P 0) d y pc lv [.long x] μ = _
  unfold vz_step
  rw [hT]
  dsimp only
  rw [hI]
  show vz_rf P y (.long x) _ = _
  unfold vz_rf
  rw [hr]
  show vz_b (vz_fit ty (.long x)) _ = _
  rw [hf]
  rfl
theorem ev_aret {ty : FieldType} (hT : vz_Th P y pc = none) (hI : vz_I P y pc = some (.areturn, 1)) (hr : vz_rt P y = some ty) (hf : vz_fit ty (.ref a) = true) : vz_ev P d y pc lv [.ref a] μ (.inl (some (.ref a)), μ) := by
  refine ⟨1, ?_⟩
  show vz_step P (vz_run P 0) d y pc lv [.ref a] μ = _
  unfold vz_step
  rw [hT]
  dsimp only
  rw [hI]
  show vz_rf P y (.ref a) _ = _
  unfold vz_rf
  rw [hr]
  show vz_b (vz_fit ty (.ref a)) _ = _
  rw [hf]
  rfl
theorem ev_vret (hT : vz_Th P y pc = none) (hI : vz_I P y pc = some (.return_, 1)) (hr : vz_rt P y = none) : vz_ev P d y pc lv [] μ (.inl none, μ) := by
  refine ⟨1, ?_⟩
  show vz_step P (vz_run P 0) d y pc lv [] μ = _
  unfold vz_step
  rw [hT]
  dsimp only
  rw [hI]
  show vz_r0 P y _ = _
  unfold vz_r0
  rw [hr]
/-- a throw -/
theorem ev_throw {E : String} {st : List Value} (hT : vz_Th P y pc = some E) (hd : decide (8 ≤ d) = true) (h8 : decide ((st.map Value.category).sum ≤ 8) = true) : vz_ev P d y pc lv st μ (.inr E, (μ.1, μ.2.1, μ.2.2.1 + 1, μ.2.2.2 + 6)) := by
  refine ⟨1, ?_⟩
  show vz_step P (vz_run P 0) d y pc lv st μ = _
  unfold vz_step
  rw [hT]
  dsimp only
  rw [hd, h8]
  rfl
/-- a call that throws, and is caught -/
theorem ev_caught {o : Nat × List Value} {E : String} {t : String × Nat × Nat} (hT : vz_Th P y pc = none) (hI : vz_I P y pc = some (.invokevirtual ix, 3)) (hC : vz_Cl P y ix = some (1, y', na)) (hna : As.length = na) (ho : vz_obj μ a = some o) (hc : (o.1 == vz_ci P y') = true) (h8 : decide ((rest.map Value.category).sum ≤ 8) = true) (hml : decide (((Value.ref a :: As).map Value.category).sum ≤ vz_ml P y') = true) (hS : vz_nbS (vz_gq (vz_gr P) y') rest = true) (hL : vz_nbL (vz_gr P) lv = true) (hca : vz_Ca P y pc = some t) (he : (t.1 == E) = true)
    (h1 : vz_ev P d y' 0 (lv_args 0 (.ref a :: As)) [] μ (.inr E, μ1)) (h2 : vz_ev P (d + 1) y t.2.1 (lv.filter (fun q => !(q.1 == t.2.2) && !(q.1 + 1 == t.2.2 && q.2.category == 2))) [] μ1 q) (hq : (!vz_q y || vz_q y') = true := by rfl) : vz_ev P (d + 1) y pc lv (As.reverse ++ .ref a :: rest) μ q := by
  obtain ⟨n, r1, r2⟩ := ev_2 h1 h2
  obtain ⟨t1, t2, t3⟩ := ev_tk (rest := .ref a :: rest) hna
  refine ⟨n + 1, ?_⟩
  show vz_step P (vz_run P n) (d + 1) y pc lv (As.reverse ++ .ref a :: rest) μ = some q
  unfold vz_step
  rw [hT]
  dsimp only
  rw [hI]
  show (vz_Cl P y ix).bind _ = some q
  rw [hC]
  show vz_b (decide (na ≤ (As.reverse ++ .ref a :: rest).length)) (vz_r ((As.reverse ++ .ref a :: rest).drop na) _) = some q
  rw [decide_eq_true t3, t2]
  show (vz_obj μ a).bind (fun o => vz_b (o.1 == vz_ci P y') (vz_cal P (vz_run P n) (d + 1) y pc lv μ y' (.ref a :: ((As.reverse ++ .ref a :: rest).take na).reverse) rest)) = some q
  rw [ho, t1]
  show vz_b (o.1 == vz_ci P y') _ = some q
  rw [hc]
  show vz_cal P (vz_run P n) (d + 1) y pc lv μ y' (.ref a :: As) rest = some q
  unfold vz_cal
  rw [h8, hml, hS, vz_nbL_gq hL, hq]
  show (vz_run P n d y' 0 (lv_args 0 (.ref a :: As)) [] μ).bind _ = some q
  rw [r1]
  show (vz_Ca P y pc).bind _ = some q
  rw [hca]
  show vz_b (t.1 == E) _ = some q
  rw [he]
  exact r2
/-- Object.<init> -/
theorem ev_obj (hT : vz_Th P y pc = none) (hI : vz_I P y pc = some (.invokespecial ix, 3)) (hC : vz_Cl P y ix = some (3, y', 0)) (h8 : decide ((rest.map Value.category).sum ≤ 8) = true) (k : vz_ev P (d + 1) y (pc + 3) lv rest μ q) : vz_ev P (d + 1) y pc lv (.ref a :: rest) μ q := by
  obtain ⟨n, hn⟩ := k
  refine ⟨n + 1, ?_⟩
  show vz_step P (vz_run P n) (d + 1) y pc lv (.ref a :: rest) μ = some q
  unfold vz_step
  rw [hT]
  dsimp only
  rw [hI]
  show (vz_Cl P y ix).bind _ = some q
  rw [hC]
  show vz_b (decide ((rest.map Value.category).sum ≤ 8)) _ = some q
  rw [h8]
  exact hn
end EW
