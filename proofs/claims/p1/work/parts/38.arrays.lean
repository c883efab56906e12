/-! arrays, read and written, by rows -/
section EY
variable {P : vz_P} {d y pc a n : Nat} {lv : vz_L} {μ : vz_H} {rest : List Value} {q : vz_O × vz_H} {i v : Int32} {w : Int64} {f : Nat → Int32} {g : Nat → Int64}
theorem ev_iald (hT : vz_Th P y pc = none) (hI : vz_I P y pc = some (.iaload, 1)) (ha : vz_arr μ a = some (0, n, .inl f)) (hi : vp_in i n) (k : vz_ev P d y (pc + 1) lv (.int (f i.toNatClampNeg) :: rest) μ q) : vz_ev P d y pc lv (.int i :: .ref a :: rest) μ q := by
  refine ev_h (z := (pc + 1, lv, .int (f i.toNatClampNeg) :: rest, μ)) hT hI ?_ k
  show (vz_arr μ a).bind _ = _
  rw [ha]
  exact if_neg hi
theorem ev_iast (hT : vz_Th P y pc = none) (hI : vz_I P y pc = some (.iastore, 1)) (h0 : decide (0 < a) = true) (ha : vz_arr μ a = some (0, n, .inl f)) (hi : vp_in i n) (k : vz_ev P d y (pc + 1) lv rest (vz_upd μ a (.inl (0, n, .inl (upd f i.toNatClampNeg v)))) q) : vz_ev P d y pc lv (.int v :: .int i :: .ref a :: rest) μ q := by
  refine ev_h (z := (pc + 1, lv, rest, vz_upd μ a (.inl (0, n, .inl (upd f i.toNatClampNeg v))))) hT hI ?_ k
  show vz_b (decide (0 < a)) ((vz_arr μ a).bind _) = _
  rw [h0, ha]
  exact if_neg hi
theorem ev_lald (hT : vz_Th P y pc = none) (hI : vz_I P y pc = some (.laload, 1)) (h0 : decide (0 < a) = true) (ha : vz_arr μ a = some (1, n, .inr (.inl g))) (hi : vp_in i n) (k : vz_ev P d y (pc + 1) lv (.long (g i.toNatClampNeg) :: rest) μ q) : vz_ev P d y pc lv (.int i :: .ref a :: rest) μ q := by
  refine ev_h (z := (pc + 1, lv, .long (g i.toNatClampNeg) :: rest, μ)) hT hI ?_ k
  show vz_b (decide (0 < a)) ((vz_arr μ a).bind _) = _
  rw [h0, ha]
  exact if_neg hi
theorem ev_last (hT : vz_Th P y pc = none) (hI : vz_I P y pc = some (.lastore, 1)) (h0 : decide (0 < a) = true) (ha : vz_arr μ a = some (1, n, .inr (.inl g))) (hi : vp_in i n) (k : vz_ev P d y (pc + 1) lv rest (vz_upd μ a (.inl (1, n, .inr (.inl (vp_updL g i.toNatClampNeg w))))) q) : vz_ev P d y pc lv (.long w :: .int i :: .ref a :: rest) μ q := by
  refine ev_h (z := (pc + 1, lv, rest, vz_upd μ a (.inl (1, n, .inr (.inl (vp_updL g i.toNatClampNeg w)))))) hT hI ?_ k
  show vz_b (decide (0 < a)) ((vz_arr μ a).bind _) = _
  rw [h0, ha]
  exact if_neg hi
theorem ev_bald (hT : vz_Th P y pc = none) (hI : vz_I P y pc = some (.baload, 1)) (h0 : decide (0 < a) = true) (ha : vz_arr μ a = some (2, n, .inl f)) (hi : vp_in i n) (k : vz_ev P d y (pc + 1) lv (.int (f i.toNatClampNeg) :: rest) μ q) : vz_ev P d y pc lv (.int i :: .ref a :: rest) μ q := by
  refine ev_h (z := (pc + 1, lv, .int (f i.toNatClampNeg) :: rest, μ)) hT hI ?_ k
  show vz_b (decide (0 < a)) ((vz_arr μ a).bind _) = _
  rw [h0, ha]
  exact if_neg hi
theorem ev_bast (hT : vz_Th P y pc = none) (hI : vz_I P y pc = some (.bastore, 1)) (h0 : decide (0 < a) = true) (ha : vz_arr μ a = some (2, n, .inl f)) (hi : vp_in i n) (k : vz_ev P d y (pc + 1) lv rest (vz_upd μ a (.inl (2, n, .inl (upd f i.toNatClampNeg (vp_nar .boolean v))))) q) : vz_ev P d y pc lv (.int v :: .int i :: .ref a :: rest) μ q := by
  refine ev_h (z := (pc + 1, lv, rest, vz_upd μ a (.inl (2, n, .inl (upd f i.toNatClampNeg (vp_nar .boolean v)))))) hT hI ?_ k
  show vz_b (decide (0 < a)) ((vz_arr μ a).bind _) = _
  rw [h0, ha]
  exact if_neg hi
end EY
