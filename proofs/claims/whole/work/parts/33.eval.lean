section EX
variable {P : vz_P} {d y pc y' ix na a kk : Nat} {lv : vz_L} {μ : vz_H} {st As rest : List Value} {q : vz_O × vz_H} {x : Int32}
theorem ev_copy {z : List Value × vz_H} (hT : vz_Th P y pc = none) (hI : vz_I P y pc = some (.invokestatic ix, 3)) (hC : vz_Cl P y ix = some (5, y', na)) (hn : decide (na ≤ st.length) = true) (hd : decide (1 ≤ d) = true) (hz : vz_acp st μ = some z) (h8 : decide ((z.1.map Value.category).sum ≤ 8) = true) (k : vz_ev P d y (pc + 3) lv z.1 z.2 q) : vz_ev P d y pc lv st μ q := by
  obtain ⟨n, hr⟩ := k
  refine ⟨n + 1, ?_⟩
  show vz_step P (vz_run P n) d y pc lv st μ = some q
  unfold vz_step
  rw [hT]
  dsimp only
  rw [hI]
  show (vz_Cl P y ix).bind _ = some q
  rw [hC]
  show vz_b (decide (na ≤ st.length)) _ = some q
  rw [hn]
  show vz_b (decide (1 ≤ d)) _ = some q
  rw [hd]
  show (vz_acp st μ).bind _ = some q
  rw [hz]
  show vz_b (decide ((z.1.map Value.category).sum ≤ 8)) _ = some q
  rw [h8]
  exact hr
theorem ev_math (hT : vz_Th P y pc = none) (hI : vz_I P y pc = some (.invokestatic ix, 3)) (hC : vz_Cl P y ix = some (7, kk, na)) (hna : As.length = na) (hd : decide (4 ≤ d) = true) (h8 : decide ((rest.map Value.category).sum ≤ 8) = true) (hb : vz_bi P kk As = some (.int x)) (k : vz_ev P d y (pc + 3) lv (.int x :: rest) μ q) : vz_ev P d y pc lv (As.reverse ++ rest) μ q := by
  obtain ⟨n, hr⟩ := k
  obtain ⟨t1, t2, t3⟩ := ev_tk (rest := rest) hna
  refine ⟨n + 1, ?_⟩
  show vz_step P (vz_run P n) d y pc lv (As.reverse ++ rest) μ = some q
  unfold vz_step
  rw [hT]
  dsimp only
  rw [hI]
  show (vz_Cl P y ix).bind _ = some q
  rw [hC]
  show vz_b (decide (na ≤ (As.reverse ++ rest).length)) (vz_b (decide (4 ≤ d)) (vz_b (decide ((((As.reverse ++ rest).drop na).map Value.category).sum ≤ 8)) ((vz_bi P kk ((As.reverse ++ rest).take na).reverse).bind fun v => vz_vi v fun x => vz_run P n d y (pc + 3) lv (.int x :: (As.reverse ++ rest).drop na) μ))) = some q
  rw [decide_eq_true t3, hd, t1, t2, h8, hb]
  exact hr
theorem ev_text (hT : vz_Th P y pc = none) (hI : vz_I P y pc = some (.invokevirtual ix, 3)) (hC : vz_Cl P y ix = some (6, kk, na)) (hna : As.length = na) (hd : decide (8 ≤ d) = true) (h8 : decide ((rest.map Value.category).sum ≤ 8) = true) (ha : decide (vz_M0 ≤ a) = true) (hb : vz_bi P kk (.ref a :: As) = some (.int x)) (k : vz_ev P d y (pc + 3) lv (.int x :: rest) μ q) : vz_ev P d y pc lv (As.reverse ++ .ref a :: rest) μ q := by
  obtain ⟨n, hr⟩ := k
  obtain ⟨t1, t2, t3⟩ := ev_tk (rest := .ref a :: rest) hna
  refine ⟨n + 1, ?_⟩
  show vz_step P (vz_run P n) d y pc lv (As.reverse ++ .ref a :: rest) μ = some q
  unfold vz_step
  rw [hT]
  dsimp only
  rw [hI]
  show (vz_Cl P y ix).bind _ = some q
  rw [hC]
  show vz_b (decide (na ≤ (As.reverse ++ .ref a :: rest).length)) (vz_r ((As.reverse ++ .ref a :: rest).drop na) _) = some q
  rw [decide_eq_true t3, t2]
  show vz_b (decide (8 ≤ d)) (vz_b (decide ((rest.map Value.category).sum ≤ 8)) (vz_b (decide (vz_M0 ≤ a)) ((vz_bi P kk (.ref a :: ((As.reverse ++ .ref a :: rest).take na).reverse)).bind fun v => vz_vi v fun x => vz_run P n d y (pc + 3) lv (.int x :: rest) μ))) = some q
  rw [hd, h8, ha, t1, hb]
  exact hr
end EX
