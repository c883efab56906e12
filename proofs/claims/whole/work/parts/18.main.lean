/-- a call that throws, and is caught here: how the machine goes on (its own part) -/
def vz_Xc (P : vz_P) (D : va_G) (cl : List vw_C) (cc : Nat → ClassId) (τ : Nat → Nat) (Ts Ns : List Cond) (A : Nat → Prop) (b0 : Nat) (G : State → Prop) (l : Launch) : Prop :=
  ∀ {n : Nat}, vz_St P D cl cc τ Ts Ns A b0 G l n → ∀ {y y' j pc : Nat} {i : Instr} {st As rest : List Value} {E : String} {t : String × Nat × Nat} {lv : vz_L} {μ μ1 : vz_H} {p : Program} {e : Env} {R : Room} {s : State} {m : MethodId} {args : Array Value} {below : List Frame} {meth : Method} {c : Code} {H : Heap} {locs : List Loc} {cells slots : Nat} {Q : State → Prop} {ls : Array Slot} {b L : Nat} {xs : Nat → Int32} {ρ : Nat → Nat},
  vz_C P D cl cc Ts Ns y p s m args meth c → vz_Z A b L xs s → b0 ≤ s.heap.size → G s → decode (vz_bc P y) pc = .ok (i, 3) → vz_ck P y i st μ y' As rest → (rest.map Value.category).sum ≤ 8 → (As.map Value.category).sum ≤ vz_ml P y' → vz_run P n j y' 0 (lv_args 0 As) [] μ = some (.inr E, μ1) → vz_Ca P y pc = some t → t.1 = E → j + 1 ≤ R.frames → 42 * (j + 1) ≤ R.locals → cells + (μ1.2.2.1 - μ.2.2.1) ≤ R.cells → slots + (μ1.2.2.2 - μ.2.2.2) ≤ R.slots →
  vz_R D cl cc (vz_gr P) τ A b L xs ρ μ H → va_S A s.heap H locs → lv_has ls (vz_ml P y) (vz_tl ρ lv) → vz_okS μ.1 st →
  (∀ (H1 : Heap) (locs1 : List Loc) (ρ' : Nat → Nat) (ls' : Array Slot), vz_ex (vz_gq (vz_gr P) y') μ.1 ρ' ρ → vz_R D cl cc (vz_gr P) τ A b L xs ρ' μ1 H1 → va_S A s.heap H1 locs1 → lv_has ls' (vz_ml P y) (vz_tl ρ (lv.filter (fun q => !(q.1 == t.2.2) && !(q.1 + 1 == t.2.2 && q.2.category == 2)))) → W p l e R s m args below meth c H1 locs1 (cells + (μ1.2.2.1 - μ.2.2.1)) (slots + (μ1.2.2.2 - μ.2.2.2)) Q (F0 m t.2.1 ls' [])) →
  W p l e R s m args below meth c H locs cells slots Q (F0 m pc ls (vz_ts ρ st))
/-- a text's own methods -/
def vz_Bc (P : vz_P) (D : va_G) (cl : List vw_C) (cc : Nat → ClassId) (τ : Nat → Nat) (Ts Ns : List Cond) (A : Nat → Prop) (G : State → Prop) (l : Launch) : Prop :=
  ∀ {y d pc ix k n a : Nat} {As rest : List Value} {x : Int32} {p : Program} {e : Env} {R : Room} {s : State} {m : MethodId} {args : Array Value} {below : List Frame} {meth : Method} {c : Code} {H : Heap} {locs : List Loc} {cells slots : Nat} {Q : State → Prop} {ls : Array Slot} {ρ : Nat → Nat},
  vz_C P D cl cc Ts Ns y p s m args meth c → G s → decode (vz_bc P y) pc = .ok (.invokevirtual ix, 3) → vz_Cl P y ix = some (6, k, n) → As.length = n → (rest.map Value.category).sum ≤ 8 → vz_M0 ≤ a → vz_bi P k (.ref a :: As) = some (.int x) → 8 ≤ d → d ≤ R.frames → 42 * d ≤ R.locals → cells ≤ R.cells → slots ≤ R.slots → va_S A s.heap H locs → ls.size = vz_ml P y → ρ a = τ a →
  W p l e R s m args below meth c H locs cells slots Q (F0 m (pc + 3) ls (.int x :: vz_ts ρ rest)) →
  W p l e R s m args below meth c H locs cells slots Q (F0 m pc ls (vz_ts ρ (As.reverse ++ .ref a :: rest)))
/-- Math's own -/
def vz_Bs (P : vz_P) (D : va_G) (cl : List vw_C) (cc : Nat → ClassId) (Ts Ns : List Cond) (G : State → Prop) (l : Launch) : Prop :=
  ∀ {y d pc ix k n : Nat} {As rest : List Value} {x : Int32} {p : Program} {e : Env} {R : Room} {s : State} {m : MethodId} {args : Array Value} {below : List Frame} {meth : Method} {c : Code} {H : Heap} {locs : List Loc} {cells slots : Nat} {Q : State → Prop} {ls : Array Slot} {A : Nat → Prop} {ρ : Nat → Nat},
  vz_C P D cl cc Ts Ns y p s m args meth c → G s → decode (vz_bc P y) pc = .ok (.invokestatic ix, 3) → vz_Cl P y ix = some (7, k, n) → As.length = n → (rest.map Value.category).sum ≤ 8 → vz_bi P k As = some (.int x) → 4 ≤ d → d ≤ R.frames → 42 * d ≤ R.locals → cells ≤ R.cells → slots ≤ R.slots → va_S A s.heap H locs → ls.size = vz_ml P y →
  W p l e R s m args below meth c H locs cells slots Q (F0 m (pc + 3) ls (.int x :: vz_ts ρ rest)) →
  W p l e R s m args below meth c H locs cells slots Q (F0 m pc ls (vz_ts ρ (As.reverse ++ rest)))
/-- System.arraycopy's words -/
def vz_gY (P : vz_P) (Ts : List Cond) : Prop := ∀ y ix y' n, vz_Cl P y ix = some (5, y', n) → Cond.methodLink (vz_own P y) ix arraycopyName ∈ Ts ∧ Cond.native arraycopyName ∈ Ts ∧ Cond.static arraycopyName ∈ Ts ∧ Cond.initialized "java/lang/System" ∈ Ts
section VZQ
variable {P : vz_P} {D : va_G} {cl : List vw_C} {cc : Nat → ClassId} {τ : Nat → Nat} {Ts Ns : List Cond} {A : Nat → Prop} {b0 : Nat} {G : State → Prop} {l : Launch}
theorem vz_ck_rest {y : Nat} {i : Instr} {st As rest : List Value} {μ : vz_H} {y' n : Nat} (h : vz_ck P y i st μ y' As rest) (hs : vz_okS n st) : vz_okS n rest := by
  rcases h with ⟨ix, k9, na, rfl, hk9, hcl, hlen, rfl⟩ | ⟨ix, na, a, As0, o, rfl, hcl, hlen, rfl, rfl, ho, hci⟩ | ⟨ix, na, a, As0, rfl, hcl, hlen, rfl, rfl⟩
  · exact fun w hw => hs w (List.mem_append_right _ hw)
  · exact fun w hw => hs w (List.mem_append_right _ (List.mem_cons_of_mem _ hw))
  · exact fun w hw => hs w (List.mem_append_right _ (List.mem_cons_of_mem _ hw))
/-- arraycopy of ints, in the abstract heap -/
theorem vz_acps {p : Program} {e : Env} {R : Room} {s : State} {m : MethodId} {args : Array Value} {below : List Frame} {meth : Method} {c : Code} {H : Heap} {locs : List Loc} {cells slots : Nat} {Q : State → Prop} {ls : Array Slot} {b L y d pc ix y' n : Nat} {xs : Nat → Int32} {ρ : Nat → Nat} {st : List Value} {μ : vz_H} {z : List Value × vz_H} (gY : vz_gY P Ts) (hC : vz_C P D cl cc Ts Ns y p s m args meth c) (hdc : decode (vz_bc P y) pc = .ok (.invokestatic ix, 3)) (hcl : vz_Cl P y ix = some (5, y', n)) (h : vz_acp st μ = some z) (h8 : (z.1.map Value.category).sum ≤ 8) (hd : 1 ≤ d) (hf : d ≤ R.frames) (hlo : 42 * d ≤ R.locals) (hR : vz_R D cl cc (vz_gr P) τ A b L xs ρ μ H) (hS : va_S A s.heap H locs) (hsz : ls.size = vz_ml P y)
    (kk : ∀ (H1 : Heap) (locs1 : List Loc), vz_R D cl cc (vz_gr P) τ A b L xs ρ z.2 H1 → va_S A s.heap H1 locs1 → W p l e R s m args below meth c H1 locs1 cells slots Q (F0 m (pc + 3) ls (vz_ts ρ z.1))) : W p l e R s m args below meth c H locs cells slots Q (F0 m pc ls (vz_ts ρ st)) := by
  obtain ⟨hx, hbb, hmL, hown, hts, hns, hK, hin, hrt, hlk⟩ := hC
  obtain ⟨w1, w2, w3, w4⟩ := gY y ix y' n hcl
  unfold vz_acp at h
  split at h
  · next cnt dp a1 sp a0 r =>
    obtain ⟨x0, e0, h⟩ := Option.bind_eq_some_iff.mp h
    obtain ⟨n0, f, rfl, h⟩ := vz_xi_of h
    obtain ⟨x1, e1, h⟩ := Option.bind_eq_some_iff.mp h
    obtain ⟨n1, g, rfl, h9⟩ := vz_xi_of h
    split at h9
    · cases h9
    · next hc =>
      cases h9
      have i1 : ¬ sp < 0 := fun q => hc (Or.inl q)
      have i2 : ¬ dp < 0 := fun q => hc (Or.inr (Or.inl q))
      have i3 : ¬ cnt < 0 := fun q => hc (Or.inr (Or.inr (Or.inl q)))
      have i4 : sp.toNatClampNeg + cnt.toNatClampNeg ≤ n0 := Nat.not_lt.mp fun q => hc (Or.inr (Or.inr (Or.inr (Or.inl q))))
      have i5 : dp.toNatClampNeg + cnt.toNatClampNeg ≤ n1 := Nat.not_lt.mp fun q => hc (Or.inr (Or.inr (Or.inr (Or.inr (Or.inl q)))))
      have i6 : 0 < a1 := Nat.pos_of_ne_zero fun q => hc (Or.inr (Or.inr (Or.inr (Or.inr (Or.inr (Or.inl q))))))
      have i7 : 0 < a0 := Nat.pos_of_ne_zero fun q => hc (Or.inr (Or.inr (Or.inr (Or.inr (Or.inr (Or.inr q))))))
      have h8' : ((vz_ts ρ r).map fun v => v.category).sum ≤ 8 := by
        show ((vz_ts ρ r).map Value.category).sum ≤ 8
        rw [vz_cats]; exact h8
      have hnw : nativeFrameWords "java/lang/System" "arraycopy" 5 = 7 := by decide +kernel
      exact va_copyi hx hbb (hmL.trans hsz.symm) hown (hts _ w1) (hts _ w2) (hts _ w3) (hts _ w4) hK hR.1 hR.2.1 hS (a0 - 1) (a1 - 1) 0 0 (vz_R_arr i7 e0) (vz_R_arr i6 e1) rfl rfl rfl i1 i2 i3 i4 i5 (fun _ _ => rfl) (Nat.le_trans hd hf) (by have h88 : ((List.map (vz_t ρ) r).map fun v => v.category).sum ≤ 8 := h8'; omega) hdc
        (fun H1 locs1 hP1 hD1 hS1 => kk H1 locs1 (vz_R_upd hR i6 (vz_arr_of e1).1 rfl hP1 hD1 trivial) hS1)
  · cases h
theorem vz_acp_ok {st : List Value} {μ : vz_H} {z : List Value × vz_H} (h : vz_acp st μ = some z) {n : Nat} (hs : vz_okS n st) : vz_okS n z.1 := by
  unfold vz_acp at h
  split at h
  · obtain ⟨x0, e0, h⟩ := Option.bind_eq_some_iff.mp h
    obtain ⟨n0, f, rfl, h⟩ := vz_xi_of h
    obtain ⟨x1, e1, h⟩ := Option.bind_eq_some_iff.mp h
    obtain ⟨n1, g, rfl, h9⟩ := vz_xi_of h
    split at h9
    · cases h9
    · cases h9
      exact vz_okS_t (vz_okS_t (vz_okS_t (vz_okS_t (vz_okS_t hs))))
  · cases h
theorem vz_acp_1 {st : List Value} {μ : vz_H} {z : List Value × vz_H} (h : vz_acp st μ = some z) : z.2.1 = μ.1 ∧ z.2.2.2 = μ.2.2 := by
  unfold vz_acp at h
  split at h
  · obtain ⟨x0, e0, h⟩ := Option.bind_eq_some_iff.mp h
    obtain ⟨n0, f, rfl, h⟩ := vz_xi_of h
    obtain ⟨x1, e1, h⟩ := Option.bind_eq_some_iff.mp h
    obtain ⟨n1, g, rfl, h9⟩ := vz_xi_of h
    split at h9
    · cases h9
    · cases h9
      exact ⟨rfl, rfl⟩
  · cases h
set_option maxHeartbeats 4000000 in
set_option maxRecDepth 100000 in
theorem vz_main (g : vz_good P cl Ts Ns) (gL : vz_gL P G τ l) (gY : vz_gY P Ts) (gG : vz_gG P) (hG : vz_Gm A Ns G) (hb0 : ∀ q, b0 ≤ q → A q) (hX : vz_Xc P D cl cc τ Ts Ns A b0 G l) (hBc : vz_Bc P D cl cc τ Ts Ns A G l) (hBs : vz_Bs P D cl cc Ts Ns G l) : ∀ n, vz_St P D cl cc τ Ts Ns A b0 G l n := by
  intro n
  induction n with
  | zero => intro d y pc lv st μ out μ' h; cases h
  | succ n ih =>
    intro d y pc lv st μ out μ' h p e R s m args below meth c H locs cells slots mc ms Q ls b L xs ρ hC hZ hb hGs hdR hlR hcR hsR hcs hss hR hS hl hos hol hret hthr
    have hA : ∀ q, s.heap.size ≤ q → A q := fun q hq => hb0 q (Nat.le_trans hb hq)
    have gI := g.1
    rcases vz_inv h with ⟨E, hE, h8, h88, hq⟩ | ⟨i, len, hI, ⟨v, rfl, hv, rfl, hq⟩ | ⟨y', As, rest, rfl, hck, hcal⟩ | ⟨ix, y', a, rest, rfl, rfl, hcl, rfl, h8, hd0, h2⟩ | ⟨ix, k, na, As, rest, x, rfl, rfl, hcl, h4, hla, rfl, h8, h1, h2⟩ | ⟨ix, y', na, z, rfl, rfl, hcl, h4, h1, h8, h2⟩ | ⟨ix, k, na, a, As, rest, x, rfl, rfl, hcl, h4, hla, rfl, h8, hM, h1, h2⟩ | ⟨z, h1, h2⟩⟩
    · cases hq
      dsimp only at hcs hss
      exact hthr H locs ρ ls pc cells slots (vz_ts ρ st) E rfl hE h8 (by rw [vz_cats]; exact h88) (by omega) (by omega) vz_ex.rf hR hS hl.1
    · cases hq
      have e1 : cells = mc := by omega
      have e2 : slots = ms := by omega
      subst e1; subst e2
      exact hret H locs ρ ls pc i v rfl (gI y pc _ hI) hv vz_ex.rf hR hS (fun w hw => hos w (by rw [hw]; exact List.mem_cons_self))
    · obtain ⟨h8, hml, hng, hngl, hqq, j, ⟨o, μ1⟩, rfl, hr1, hr2⟩ := vz_cal_of hcal
      have l1 := vz_run_le _ _ _ _ _ _ _ _ hr1
      have hrest := vz_ck_rest hck hos
      cases o with
      | inl v =>
        have hr2 : vz_run P n (j + 1) y (pc + 3) lv (v.toList ++ rest) μ1 = some (out, μ') := hr2
        have l2 := vz_run_le _ _ _ _ _ _ _ _ hr2
        have q1 := l1.2.1
        have q2 := l1.2.2
        have q3 := l2.2.1
        have q4 := l2.2.2
        dsimp only at q1 q2 q3 q4
        refine vz_call g hG ih hb0 hC hZ hb hGs (gI y pc _ hI) hck h8 hml hr1 hdR hlR (by omega) (by omega) hR hS hl.1 hos (fun H1 locs1 ρ' hρ hR1 hS1 hok1 => ?_)
        have e9 : (v.map (vz_t ρ')).toList ++ vz_ts ρ rest = vz_ts ρ' (v.toList ++ rest) := by
          rw [← vz_ts_ext hρ hrest hng]
          cases v with
          | none => rfl
          | some w => rfl
        rw [e9]
        refine ih (j + 1) y (pc + 3) lv (v.toList ++ rest) μ1 out μ' hr2 hC hZ hb hGs hdR hlR hcR hsR (by omega) (by omega) hR1 hS1 (by rw [vz_tl_ext hρ hol hngl]; exact hl) ?_ (fun q hq => vz_ok_le l1.1 (hol q hq))
          (fun H' locs' ρ'' ls' pc' i' v' a1 a2 a3 a4 a5 a6 a7 => hret H' locs' ρ'' ls' pc' i' v' a1 a2 a3 ((vz_gq_x hqq hρ).tr l1.1 a4) a5 a6 a7)
          (fun H' locs' ρ'' ls' pc' c' s' st' E a1 a2 a3 a4 a5 a6 a7 a8 a9 a10 => hthr H' locs' ρ'' ls' pc' c' s' st' E a1 a2 a3 a4 a5 a6 ((vz_gq_x hqq hρ).tr l1.1 a7) a8 a9 a10)
        intro w hw
        rcases List.mem_append.mp hw with h9 | h9
        · cases v with
          | none => cases h9
          | some x =>
            have h9 : w = x := by simpa using h9
            rw [h9]
            exact hok1 x rfl
        · exact vz_ok_le l1.1 (hrest w h9)
      | inr E =>
        obtain ⟨t, ht, hr3⟩ := Option.bind_eq_some_iff.mp (show (vz_Ca P y pc).bind _ = some (out, μ') from hr2)
        obtain ⟨hE, hr3⟩ := vz_b_of hr3
        have hE : t.1 = E := by simpa using hE
        have l2 := vz_run_le _ _ _ _ _ _ _ _ hr3
        have q1 := l1.2.1
        have q2 := l1.2.2
        have q3 := l2.2.1
        have q4 := l2.2.2
        dsimp only at q1 q2 q3 q4
        have hol2 : vz_okL μ.1 (lv.filter (fun q => !(q.1 == t.2.2) && !(q.1 + 1 == t.2.2 && q.2.category == 2))) := fun q hq => hol q (List.mem_filter.mp hq).1
        have hng2 : vz_ngL (vz_gq (vz_gr P) y') (lv.filter (fun q => !(q.1 == t.2.2) && !(q.1 + 1 == t.2.2 && q.2.category == 2))) := fun q hq => hngl q (List.mem_filter.mp hq).1
        refine hX ih hC hZ hb hGs (gI y pc _ hI) hck h8 hml hr1 ht hE hdR hlR (by omega) (by omega) hR hS hl hos (fun H1 locs1 ρ' ls' hρ hR1 hS1 hl1 => ?_)
        exact ih (j + 1) y t.2.1 _ [] μ1 out μ' hr3 hC hZ hb hGs hdR hlR hcR hsR (by omega) (by omega) hR1 hS1 (by rw [vz_tl_ext hρ hol2 hng2]; exact hl1) (fun w hw => nomatch hw) (fun q hq => vz_ok_le l1.1 (hol2 q hq))
          (fun H' locs' ρ'' ls' pc' i' v' a1 a2 a3 a4 a5 a6 a7 => hret H' locs' ρ'' ls' pc' i' v' a1 a2 a3 ((vz_gq_x hqq hρ).tr l1.1 a4) a5 a6 a7)
          (fun H' locs' ρ'' ls' pc' c' s' st' E a1 a2 a3 a4 a5 a6 a7 a8 a9 a10 => hthr H' locs' ρ'' ls' pc' c' s' st' E a1 a2 a3 a4 a5 a6 ((vz_gq_x hqq hρ).tr l1.1 a7) a8 a9 a10)
    · obtain ⟨hx, hbb, hmL, hown, hts, hns, hK, hin, hrt, hlk⟩ := id hC
      obtain ⟨w1, w2, w3⟩ := g.2.2.2.2.2.2.2.1 y ix y' 0 hcl
      have h8' : ((vz_ts ρ rest).map fun v => v.category).sum ≤ 8 := by
        show ((vz_ts ρ rest).map Value.category).sum ≤ 8
        rw [vz_cats]; exact h8
      refine W.objInit (a := ρ a) (rest := vz_ts ρ rest) hx hbb hown (hts _ w1) (hts _ w2) (hts _ w3) rfl (hl.1.trans hmL.symm) rfl (gI y pc _ hI) (by omega) (by have := lv_room (m := m) (pc := pc) (ls := ls) (rest := vz_ts ρ (.ref a :: rest)) h8'; omega) ?_
      exact ih d y (pc + 3) lv rest μ out μ' h2 hC hZ hb hGs hdR hlR hcR hsR hcs hss hR hS hl (vz_okS_t hos) hol hret hthr
    · refine hBs hC hGs (gI y pc _ hI) hcl hla h8 h1 h4 hdR hlR (by omega) (by omega) hS hl.1 ?_
      exact ih d y (pc + 3) lv (.int x :: rest) μ out μ' h2 hC hZ hb hGs hdR hlR hcR hsR hcs hss hR hS hl (vz_okS_c vz_ok_i (fun w hw => hos w (List.mem_append_right _ hw))) hol hret hthr
    · obtain ⟨e1, e2⟩ := vz_acp_1 h1
      refine vz_acps gY hC (gI y pc _ hI) hcl h1 h8 h4 hdR hlR hR hS hl.1 (fun H1 locs1 hR1 hS1 => ?_)
      exact ih d y (pc + 3) lv z.1 z.2 out μ' h2 hC hZ hb hGs hdR hlR hcR hsR (by rw [e2]; exact hcs) (by rw [e2]; exact hss) hR1 hS1 hl (by rw [e1]; exact vz_acp_ok h1 hos) (by rw [e1]; exact hol)
          (by rw [e1]; exact hret) (by rw [e1]; exact hthr)
    · refine hBc hC hGs (gI y pc _ hI) hcl hla h8 hM h1 h4 hdR hlR (by omega) (by omega) hS hl.1 (hR.2.2.2.2.2 a hM) ?_
      exact ih d y (pc + 3) lv (.int x :: rest) μ out μ' h2 hC hZ hb hGs hdR hlR hcR hsR hcs hss hR hS hl (vz_okS_c vz_ok_i (fun w hw => hos w (List.mem_append_right _ (List.mem_cons_of_mem _ hw)))) hol hret hthr
    · have l1 := vz_h_le h1
      have l2 := vz_run_le _ _ _ _ _ _ _ _ h2
      have q1 := l1.2.1
      have q2 := l1.2.2
      have q3 := l2.2.1
      have q4 := l2.2.2
      dsimp only at q1 q2 q3 q4
      refine vz_Hs gI g.2.1 g.2.2.1 g.2.2.2.1 g.2.2.2.2.1 gG gL hGs hC hZ hA hI h1 hR hS hl hos hol (by omega) (by omega) (fun H' locs' ρ' ls' hρ hR1 hS1 hl1 ho1 ho2 => ?_)
      have hρ' : vz_ex (vz_gq (vz_gr P) y) μ.1 ρ' ρ := hρ
      exact ih d y z.1 z.2.1 z.2.2.1 z.2.2.2 out μ' h2 hC hZ hb hGs hdR hlR hcR hsR (by omega) (by omega) hR1 hS1 hl1 ho1 ho2
        (fun H' locs' ρ'' ls' pc' i' v' a1 a2 a3 a4 a5 a6 a7 => hret H' locs' ρ'' ls' pc' i' v' a1 a2 a3 (hρ'.tr l1.1 a4) a5 a6 a7)
        (fun H' locs' ρ'' ls' pc' c' s' st' E a1 a2 a3 a4 a5 a6 a7 a8 a9 a10 => hthr H' locs' ρ'' ls' pc' c' s' st' E a1 a2 a3 a4 a5 a6 (hρ'.tr l1.1 a7) a8 a9 a10)
end VZQ
