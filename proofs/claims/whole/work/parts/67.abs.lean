/-! LOCALS AS FACTS: a list of locals of which some are known -/
theorem vg_s (lv : vz_L) (i : Nat) (v : Value) : vz_g (vz_s1 lv i v) i = some v := by
  show (if i = i then some v else _) = some v
  exact if_pos rfl
theorem vg_f {p : Nat × Value → Bool} {lv : vz_L} {k : Nat} {w : Value} (h : vz_g lv k = some w) (hp : p (k, w) = true) : vz_g (lv.filter p) k = some w := by
  induction lv with
  | nil => cases h
  | cons q r ih =>
    unfold vz_g at h
    by_cases e : q.1 = k
    · rw [if_pos e] at h
      cases h
      have hq : p q = true := by
        have e2 : q = (k, q.2) := by rw [← e]
        rw [e2]
        exact hp
      rw [List.filter_cons_of_pos hq]
      show (if q.1 = k then some q.2 else _) = _
      exact if_pos e
    · rw [if_neg e] at h
      by_cases hq : p q = true
      · rw [List.filter_cons_of_pos hq]
        show (if q.1 = k then some q.2 else vz_g (r.filter p) k) = _
        rw [if_neg e]
        exact ih h
      · rw [List.filter_cons_of_neg hq]
        exact ih h
theorem vg_o {lv : vz_L} {i k : Nat} {v w : Value} (h : vz_g lv k = some w) (hk : k ≠ i) (hc : w.category = 1 ∨ k + 1 ≠ i) : vz_g (vz_s1 lv i v) k = some w := by
  show (if i = k then some v else vz_g (lv.filter (fun q => !(q.1 == i) && !(q.1 + 1 == i && q.2.category == 2))) k) = some w
  rw [if_neg (fun e => hk e.symm)]
  refine vg_f h ?_
  show (!(k == i) && !(k + 1 == i && w.category == 2)) = true
  rw [beq_eq_false_iff_ne.mpr hk]
  rcases hc with c | c
  · rw [c]
    cases (k + 1 == i) <;> rfl
  · rw [beq_eq_false_iff_ne.mpr c]
    rfl
theorem nb_s1 {g : vz_Gr} {lv : vz_L} {i : Nat} {v : Value} (h : vz_nbL g lv = true) (hv : vz_nb g v = true) : vz_nbL g (vz_s1 lv i v) = true := by
  refine List.all_eq_true.mpr fun q hq => ?_
  rcases List.mem_cons.mp hq with e | e
  · rw [e]
    exact hv
  · exact List.all_eq_true.mp h q (List.mem_filter.mp e).1
section LD
variable {lv : vz_L} {k p : Nat} {st : List Value} {μ : vz_H}
theorem ld_i {x : Int32} (h : vz_g lv k = some (.int x)) : (((vz_g lv k).bind fun v => vz_vi v fun x => some (p, lv, .int x :: st)).bind fun z => some (z.1, z.2.1, z.2.2, μ)) = some (p, lv, .int x :: st, μ) := by
  rw [h]
  rfl
theorem ld_l {x : Int64} (h : vz_g lv k = some (.long x)) : (((vz_g lv k).bind fun v => vz_vl v fun x => some (p, lv, .long x :: st)).bind fun z => some (z.1, z.2.1, z.2.2, μ)) = some (p, lv, .long x :: st, μ) := by
  rw [h]
  rfl
theorem ld_a {x : Nat} (h : vz_g lv k = some (.ref x)) : (((vz_g lv k).bind fun v => vz_va v (some (p, lv, v :: st))).bind fun z => some (z.1, z.2.1, z.2.2, μ)) = some (p, lv, .ref x :: st, μ) := by
  rw [h]
  rfl
end LD
theorem ld_inc {lv : vz_L} {k p nL : Nat} {st : List Value} {μ : vz_H} {x : Int32} {n : Int} (h : vz_g lv k = some (.int x)) (hb : decide (k < nL) = true) : (((vz_g lv k).bind fun v => vz_vi v fun x => vz_b (decide (k < nL)) (some (p, vz_s1 lv k (.int (x + Int32.ofInt n)), st))).bind fun z => some (z.1, z.2.1, z.2.2, μ)) = some (p, vz_s1 lv k (.int (x + Int32.ofInt n)), st, μ) := by
  rw [h]
  show ((vz_b (decide (k < nL)) (some (p, vz_s1 lv k (.int (x + Int32.ofInt n)), st))).bind fun z => some (z.1, z.2.1, z.2.2, μ)) = _
  rw [hb]
  rfl
theorem st_u_u {α : Type} (f : Nat → Nat → α) (a k : Nat) (v w : α) : st_u (st_u f a k v) a k w = st_u f a k w := by
  funext b j
  by_cases e : b = a
  · by_cases e2 : j = k
    · subst e e2; rw [st_u_s, st_u_s]
    · rw [st_u_k _ _ _ _ e2, st_u_k _ _ _ _ e2, st_u_k _ _ _ _ e2]
  · rw [st_u_a _ _ _ _ e, st_u_a _ _ _ _ e, st_u_a _ _ _ _ e]
theorem st_i_i (σ : st_S) (a k : Nat) (v w : Int32) : st_i (st_i σ a k v) a k w = st_i σ a k w := by
  unfold st_i
  rw [st_u_u]
theorem st_i_id (σ : st_S) (a k : Nat) {v : Int32} (h : gI σ a k = v) : st_i σ a k v = σ := by
  subst h
  unfold st_i
  have e : st_u σ.1 a k (σ.1 a k) = σ.1 := by
    funext b j
    by_cases e : b = a
    · by_cases e2 : j = k
      · subst e e2; rw [st_u_s]
      · rw [st_u_k _ _ _ _ e2]
    · rw [st_u_a _ _ _ _ e]
  rw [e]
