/-! the reference reads all words: as the class's pure state says -/
theorem rs_len (i j : Nat) : (rs i j).length ≤ 5 := by
  unfold rs
  rw [List.length_drop, List.length_take]
  show min (j + 1) 5 - i ≤ 5
  omega
theorem cc_len {b : List Nat} {ch : Bool} : ∀ (s : List Nat) (i : Nat), (cc b ch s i).length ≤ 10 * s.length + b.length + 6 := by
  intro s
  induction s with
  | nil =>
    intro i
    unfold cc
    by_cases c : i = 6
    · rw [if_pos c]; show b.length ≤ 0 + b.length + 6; omega
    · rw [if_neg c, List.length_append]
      have := rs_len i 4
      cases ch
      · show _ + (b.length + 1) ≤ 0 + b.length + 6; omega
      · show _ + b.length ≤ 0 + b.length + 6; omega
  | cons a s ih =>
    intro i
    have h0 := ih 0
    have h1 := ih 1
    have h2 := ih 2
    have h3 := ih 3
    have h4 := ih 4
    have h5 := ih 5
    have h6 := ih 6
    have r0 := rs_len i 0
    have r1 := rs_len i 1
    have r2 := rs_len i 2
    have r3 := rs_len i 3
    have r4 := rs_len i 4
    have e : (a :: s).length = s.length + 1 := rfl
    rw [e]
    unfold cc
    by_cases c1 : a = 9
    · rw [if_pos c1, List.length_cons]; omega
    rw [if_neg c1]
    by_cases c2 : a = 6 ∨ a = 7 ∨ a = 8
    · rw [if_pos c2, List.length_append]; omega
    rw [if_neg c2]
    by_cases c3 : a = 4 ∨ a = 5
    · rw [if_pos c3, List.length_append]; omega
    rw [if_neg c3]
    by_cases c4 : 10 ≤ a ∧ a ≤ 15
    · rw [if_pos c4, List.length_append]; omega
    rw [if_neg c4]
    by_cases c5 : a = 16
    · rw [if_pos c5, List.length_append, List.length_cons]; omega
    rw [if_neg c5]
    by_cases c6 : a = 17
    · rw [if_pos c6, List.length_append]; omega
    rw [if_neg c6]
    by_cases c7 : a = 18
    · rw [if_pos c7, List.length_append]; omega
    rw [if_neg c7, List.length_append]
    have z1 : (if i = 6 then [] else rs i 4 ++ [62]).length ≤ 6 := by
      split
      · exact Nat.zero_le _
      · rw [List.length_append]; show _ + 1 ≤ 6; omega
    have z2 : (if a = 19 then 75 :: cc b ch s 6 else if a = 36 then 33 :: 61 :: 75 :: cc b ch s 6 else if a = 35 then 37 :: 75 :: cc b ch s 0 else 74 :: 37 :: 75 :: cc b ch s 0).length ≤ 10 * s.length + b.length + 6 + 3 := by
      repeat' split
      all_goals simp only [List.length_cons]
      all_goals omega
    omega
theorem bas_len (r : Nat) : (bas r).length ≤ 6 := by
  unfold bas
  repeat' split
  all_goals decide
theorem okC_s {w r v : Nat} {s : List Nat} {b : Bool} (h : okC (w, r, v, s, b) = true) : s.length ≤ 260 := by
  have h : (if w = 15 ∨ w = 14 then okS s 0 && decide (v = lb s + (if r = 7 then 1 else 0)) && decide (v ≤ 40) && decide (r < 8)
    else if w = 13 then okS s 0 && decide (v + 1 = lb s + (if r = 7 then 1 else 0)) && decide (v ≤ 40) && decide (r < 8) && hdl s
    else decide (w < 13) && decide (r = 0) && decide (v = 0) && decide (s = [])) = true := h
  by_cases c1 : w = 15 ∨ w = 14
  · rw [if_pos c1] at h
    obtain ⟨a1, a2, a3, a4⟩ := and4 h
    have hl := ok_len s 0 a1
    have hv := of_decide_eq_true a2
    have h40 := of_decide_eq_true a3
    split at hv <;> omega
  rw [if_neg c1] at h
  by_cases c3 : w = 13
  · rw [if_pos c3] at h
    obtain ⟨h1, h2⟩ := Bool.and_eq_true_iff.mp h
    obtain ⟨a1, a2, a3, a4⟩ := and4 h1
    have hl := ok_len s 0 a1
    have hv := of_decide_eq_true a2
    have h40 := of_decide_eq_true a3
    split at hv <;> omega
  rw [if_neg c3] at h
  obtain ⟨a1, a2, a3, a4⟩ := and4 h
  rw [of_decide_eq_true a4]
  exact Nat.zero_le _
theorem ite_le {p : Prop} [Decidable p] {a b n : Nat} (h1 : a ≤ n) (h2 : b ≤ n) : (if p then a else b) ≤ n := by split <;> assumption
theorem phi_len {c : Cs} (h : okC c = true) : (phi c).length ≤ 2700 := by
  obtain ⟨w, r, v, s, b⟩ := c
  have hs := okC_s h
  have hb := bas_len r
  have hc := fun i => cc_len (b := bas r) (ch := decide (r = 6)) s i
  have hw : (wnt r s).length ≤ 2690 := by
    cases s with
    | nil =>
      show (if r = 6 then [56, 57, 34, 50] else 61 :: bas r).length ≤ 2690
      split
      · show 4 ≤ 2690; decide
      · show (bas r).length + 1 ≤ 2690; omega
    | cons a t =>
      rw [wnt_c]
      have h0 := hc 0
      have h1 := hc 1
      have h2 := hc 2
      have h3 := hc 3
      have h4 := hc 4
      have h6 := hc 6
      repeat' split
      all_goals simp only [List.length_cons] at *
      all_goals omega
  have h0 := hc 0
  have h6 := hc 6
  unfold phi
  dsimp only
  by_cases c1 : w = 15
  · rw [if_pos c1]; omega
  rw [if_neg c1]
  by_cases c2 : w = 14
  · rw [if_pos c2]; omega
  rw [if_neg c2]
  by_cases c3 : w = 13
  · rw [if_pos c3]; show _ + 1 + 1 ≤ 2700; omega
  rw [if_neg c3]
  simp only [apply_ite List.length, List.length_cons, List.length_nil]
  repeat' (refine ite_le ?_ ?_)
  all_goals omega
theorem sim_0 : ∀ w, w < 13 → ∀ b : Bool, w = 0 ∨ (match rx 0 9 (phi (w, 0, 0, [], b)) (lam (w, 0, 0, [], b)) with
    | some none => true
    | _ => false) = true := by decide +kernel
theorem cst_0 {c : Cs} : cst 0 c = none := by
  obtain ⟨w, r, v, s, b⟩ := c
  have e0 : ∀ r v s b, cOpd 0 r v s b = none := fun _ _ _ _ => rfl
  have e2 : ∀ r b, cClo 0 r b = none := by
    intro r b
    simp [cClo]
  have e1 : ∀ r v s b, cOpr 0 r v s b = none := by
    intro r v s b
    show cEnd 0 r (bl 1 v s).1 b (bl 1 v s).2 = none
    cases (bl 1 v s).2 with
    | nil => exact e2 _ _
    | cons a t => simp [cEnd]
  simp [cst, e0, e1]
theorem cst_39 {c : Cs} : cst 39 c = none := by
  obtain ⟨w, r, v, s, b⟩ := c
  have e0 : ∀ r v s b, cOpd 39 r v s b = none := fun _ _ _ _ => rfl
  have e2 : ∀ r b, cClo 39 r b = none := by
    intro r b
    simp [cClo]
  have e1 : ∀ r v s b, cOpr 39 r v s b = none := by
    intro r v s b
    show cEnd 39 r (bl 1 v s).1 b (bl 1 v s).2 = none
    cases (bl 1 v s).2 with
    | nil => exact e2 _ _
    | cons a t => simp [cEnd]
  simp [cst, e0, e1]
/-- the end of the text where it isn't wanted -/
theorem sim0 {c : Cs} (h0 : c.1 ≠ 0) (h : okC c = true) : Ends 0 1100 (phi c, lam c) none := by
  have key : ∃ o, Ends 0 1100 (phi c, lam c) o ∧ rel (cst 0 c) o = true := by
    obtain ⟨w, r, v, s, b⟩ := c
    have h0 : w ≠ 0 := h0
    have h : (if w = 15 ∨ w = 14 then okS s 0 && decide (v = lb s + (if r = 7 then 1 else 0)) && decide (v ≤ 40) && decide (r < 8)
      else if w = 13 then okS s 0 && decide (v + 1 = lb s + (if r = 7 then 1 else 0)) && decide (v ≤ 40) && decide (r < 8) && hdl s
      else decide (w < 13) && decide (r = 0) && decide (v = 0) && decide (s = [])) = true := h
    by_cases c1 : w = 15
    · subst c1
      rw [if_pos (Or.inl rfl)] at h
      obtain ⟨a1, a2, a3, a4⟩ := and4 h
      obtain ⟨o, z1, z2⟩ := sim_opr (b := b) (k := 0) (by decide) a1 (of_decide_eq_true a2) (of_decide_eq_true a3) (of_decide_eq_true a4)
      have hl := ok_len s 0 a1
      have hv := of_decide_eq_true a2
      have h40 := of_decide_eq_true a3
      have hs : s.length ≤ 260 := by split at hv <;> omega
      exact ⟨o, z1.mo (by omega), z2⟩
    by_cases c2 : w = 14
    · subst c2
      rw [if_pos (Or.inr rfl)] at h
      obtain ⟨a1, a2, a3, a4⟩ := and4 h
      obtain ⟨o, z1, z2⟩ := sim_opd (b := b) (k := 0) a1 (of_decide_eq_true a2) (of_decide_eq_true a3) (of_decide_eq_true a4)
      exact ⟨o, z1.mo (by omega), z2⟩
    rw [if_neg (by omega)] at h
    by_cases c3 : w = 13
    · subst c3
      have e : rst 0 76 (61 :: cc (bas r) (decide (r = 6)) s 6) v = none := by rw [rs_76, if_neg (by omega)]
      exact ⟨none, (Ends.no e).mo (by omega), rfl⟩
    rw [if_neg c3] at h
    obtain ⟨a1, a2, a3, a4⟩ := and4 h
    have a1 := of_decide_eq_true a1
    have a2 := of_decide_eq_true a2
    have a3 := of_decide_eq_true a3
    have a4 := of_decide_eq_true a4
    subst a2 a3 a4
    refine ⟨none, ⟨9, by omega, ?_⟩, by rw [cst_0]; rfl⟩
    rcases sim_0 w a1 b with q | q
    · exact absurd q h0
    · split at q
      · assumption
      · cases q
  obtain ⟨o, z1, z2⟩ := key
  rw [cst_0] at z2
  cases o with
  | none => exact z1
  | some p => cases z2
/-- the words are read: none, or the number of the word that is refused -/
def crd : List Nat → Cs → Nat → Option Nat
  | [], _, _ => none
  | k :: t, c, i => if k = 0 then (if c.1 = 0 then none else some i) else match cst k c with
    | none => some i
    | some c' => crd t c' (i + 1)
/-- words end with 0 or with a fault -/
def wok : List Nat → Bool
  | [] => false
  | k :: t => decide (k < 40) && (k == 0 || k == 39 || wok t)
/-- the reference's stack where the class's state is c -/
def At (c : Cs) (S : List Nat) (v : Nat) : Prop := (S, v) = (phi c, lam c) ∨ (S, v) = (75 :: phi c, lam c + 1)
theorem At.ends {c : Cs} {S : List Nat} {v k : Nat} {o : Option (List Nat × Nat)} (h : At c S v) (e : Ends k 1100 (phi c, lam c) o) : Ends k 1101 (S, v) o := by
  rcases h with q | q
  · rw [q]; exact e.mo (by omega)
  · rw [q]
    exact e.go (Go.st (v' := lam c) rfl) (by omega)
theorem At.len {c : Cs} {S : List Nat} {v : Nat} (h : At c S v) (hc : okC c = true) : S.length ≤ 2701 := by
  have := phi_len hc
  rcases h with q | q
  · rw [show S = phi c from congrArg Prod.fst q]; omega
  · rw [show S = 75 :: phi c from congrArg Prod.fst q]; show (phi c).length + 1 ≤ _; omega
theorem rel_s {o1 : Option Cs} {S : List Nat} {v : Nat} (h : rel o1 (some (S, v)) = true) : ∃ c, o1 = some c ∧ okC c = true ∧ At c S v := by
  cases o1 with
  | none => cases h
  | some c =>
    have h : (okC c && (decide ((S, v) = (phi c, lam c)) || decide ((S, v) = (75 :: phi c, lam c + 1)))) = true := h
    obtain ⟨h1, h2⟩ := Bool.and_eq_true_iff.mp h
    refine ⟨c, rfl, h1, ?_⟩
    rcases Bool.or_eq_true_iff.mp h2 with q | q
    · exact Or.inl (of_decide_eq_true q)
    · exact Or.inr (of_decide_eq_true q)
theorem rel_n {o1 : Option Cs} (h : rel o1 none = true) : o1 = none := by
  cases o1 with
  | none => rfl
  | some c => cases h
theorem L147_no {N K i : Nat} {j : Int32} {σ : st_S} (h : gI σ 66 8 = nI i) (hi : i < 20000) : L_147 N (K + 1) j σ = some (0, σ) := by
  have : (0 : Int32) ≤ nI i := (nI_lei (a := 0) (b := i) (by decide) (by omega)).mpr (Nat.zero_le _)
  unfold L_147
  rw [h, if_pos this]
theorem L147_yes {N K : Nat} {j : Int32} {σ : st_S} {v : Nat} (h : gI σ 66 8 = -1) (h1 : Wt σ [] v) : L_147 N (K + 1) j σ = some (1, σ) := by
  have e : gI σ 77 1 = 0 := h1.1.1
  unfold L_147
  rw [h, if_neg neg1, e, if_pos (by decide)]
/-- what the reading came to -/
def Rdn (x : Option Nat) (r : Int32) (σ' : st_S) : Prop := match x with
  | none => r = 1
  | some e => r = 0 ∧ gI σ' 66 8 = nI e
theorem all_w {N : Nat} {σ0 : st_S} {w : List (Nat × Nat × Nat)} (hq : gC σ0 + 200000 < vz_M0) (hlen : w.length < 20000) : ∀ (t : List (Nat × Nat × Nat)) (i : Nat) (c : Cs) (S : List Nat) (v : Nat) (σ : st_S), w.drop i = t → wok (t.map fun q => q.1) = true → okC c = true → At c S v → W3 σ w → Fx σ0 σ → gI σ 66 8 = -1 → Wt σ S v → IV S v → 50 ∈ S → ∃ σ' r, Fx σ0 σ' ∧ W3 σ' w ∧ Rdn (crd (t.map fun q => q.1) c i) r σ' ∧ ∀ K, 1101 * t.length + 1 ≤ K → L_147 N K (nI i) σ = some (r, σ') := by
  intro t
  induction t with
  | nil => intro i c S v σ ht hok; cases hok
  | cons q t ih =>
    intro i c S v σ ht hok hc hat hw f hb h hv h5
    have hi : w[i]? = some q := by
      have : (w.drop i)[0]? = some q := by rw [ht]; rfl
      rw [List.getElem?_drop] at this
      exact this
    have ht' : w.drop (i + 1) = t := by
      rw [← List.drop_drop, ht]; rfl
    have hi' : i < 20000 := by
      have := (List.getElem?_eq_some_iff.mp hi).1
      omega
    have hok : (decide (q.1 < 40) && (q.1 == 0 || q.1 == 39 || wok (t.map fun q => q.1))) = true := hok
    obtain ⟨k1, k2⟩ := Bool.and_eq_true_iff.mp hok
    have k1 := of_decide_eq_true k1
    have hlS := hat.len hc
    have ec : crd ((q :: t).map fun q => q.1) c i = if q.1 = 0 then (if c.1 = 0 then none else some i) else match cst q.1 c with
      | none => some i
      | some c' => crd (t.map fun q => q.1) c' (i + 1) := rfl
    have el : (q :: t).length = t.length + 1 := rfl
    rw [ec, el]
    by_cases c0 : q.1 = 0
    · rw [if_pos c0]
      by_cases d0 : c.1 = 0
      · rw [if_pos d0]
        have en : Ends q.1 1101 (S, v) (some ([], lam c)) := by
          refine hat.ends ?_
          rw [c0]
          have : phi c = [50] := by
            obtain ⟨w', r', v', s', b'⟩ := c
            have d0 : w' = 0 := d0
            subst d0
            rfl
          rw [this]
          exact (Ends.tk rfl).mo (by omega)
        obtain ⟨n, n1, n2⟩ := en
        obtain ⟨σ1, j, m, g1, g2, g3, g4, g5⟩ := run_w (N := N) hq hi hi' rfl k1 n S v σ _ hw f hb h hv h5 (by omega) n2
        obtain ⟨y1, y2, y3, y4, y5⟩ := g4
        refine ⟨σ1, 1, g2, g3, rfl, fun K hK => ?_⟩
        obtain ⟨K', rfl⟩ : ∃ K', K = K' + 1 + m := ⟨K - 1 - m, by omega⟩
        rw [g5]
        exact L147_yes y1 y2
      · rw [if_neg d0]
        have en : Ends q.1 1101 (S, v) none := by
          refine hat.ends ?_
          rw [c0]
          exact sim0 d0 hc
        obtain ⟨n, n1, n2⟩ := en
        obtain ⟨σ1, j, m, g1, g2, g3, g4, g5⟩ := run_w (N := N) hq hi hi' rfl k1 n S v σ _ hw f hb h hv h5 (by omega) n2
        refine ⟨σ1, 0, g2, g3, ⟨rfl, g4⟩, fun K hK => ?_⟩
        obtain ⟨K', rfl⟩ : ∃ K', K = K' + 1 + m := ⟨K - 1 - m, by omega⟩
        rw [g5]
        exact L147_no g4 hi'
    · rw [if_neg c0]
      obtain ⟨o, z1, z2⟩ := sim k1 c0 hc
      obtain ⟨n, n1, n2⟩ := hat.ends z1
      obtain ⟨σ1, j, m, g1, g2, g3, g4, g5⟩ := run_w (N := N) hq hi hi' rfl k1 n S v σ _ hw f hb h hv h5 (by omega) n2
      cases o with
      | none =>
        rw [rel_n z2]
        refine ⟨σ1, 0, g2, g3, ⟨rfl, g4⟩, fun K hK => ?_⟩
        obtain ⟨K', rfl⟩ : ∃ K', K = K' + 1 + m := ⟨K - 1 - m, by omega⟩
        rw [g5]
        exact L147_no g4 hi'
      | some p =>
        obtain ⟨S', v'⟩ := p
        obtain ⟨c', e1, e2, e3⟩ := rel_s z2
        rw [e1]
        obtain ⟨y1, y2, y3, y4, y5⟩ := g4
        have hok' : wok (t.map fun q => q.1) = true := by
          rcases Bool.or_eq_true_iff.mp k2 with k2 | k2
          · rcases Bool.or_eq_true_iff.mp k2 with k2 | k2
            · exact absurd (eq_of_beq k2) c0
            · rw [eq_of_beq k2, cst_39] at e1; cases e1
          · exact k2
        obtain ⟨σ2, r, x1, x2, x3, x4⟩ := ih (i + 1) c' S' v' σ1 ht' hok' e2 e3 g3 g2 y1 y2 y3 (y5 c0)
        refine ⟨σ2, r, x1, x2, x3, fun K hK => ?_⟩
        obtain ⟨K', rfl⟩ : ∃ K', K = K' + m := ⟨K - m, by omega⟩
        rw [g5, y4]
        exact x4 K' (by omega)
theorem tk_lt (l : List Int32) (s : Nat) : (tk l s).1 < 40 := by
  unfold tk
  repeat' split
  · show 0 < 40; decide
  · have := (wk_lt l s (rn isNm l (l.length - s) s - s)).1
    show wk l s _ < 40
    omega
  · show 39 < 40; decide
  · show 2 < 40; decide
  · show 39 < 40; decide
  · exact sg_lt _ _
theorem ws_ok (l : List Int32) : ∀ (f s : Nat), wok ((ws l f s).map fun q => q.1) = true ∧ (ws l f s).length ≤ f + 1 := by
  intro f
  induction f with
  | zero => intro s; exact ⟨rfl, Nat.le_refl _⟩
  | succ f ih =>
    intro s
    have eu : ws l (f + 1) s = if l.length ≤ s then [(0, s, s)] else ((tk l s).1, s, (tk l s).2) :: (if (tk l s).1 = 39 then [] else ws l f (skp l (tk l s).2)) := rfl
    rw [eu]
    by_cases c : l.length ≤ s
    · rw [if_pos c]; exact ⟨rfl, by show 1 ≤ _; omega⟩
    · rw [if_neg c]
      obtain ⟨i1, i2⟩ := ih (skp l (tk l s).2)
      by_cases d : (tk l s).1 = 39
      · rw [if_pos d]
        refine ⟨?_, by show 1 ≤ _; omega⟩
        rw [d]; rfl
      · rw [if_neg d]
        refine ⟨?_, by show _ + 1 ≤ _; omega⟩
        show (decide ((tk l s).1 < 40) && ((tk l s).1 == 0 || (tk l s).1 == 39 || wok ((ws l f (skp l (tk l s).2)).map fun q => q.1))) = true
        rw [decide_eq_true (tk_lt l s), i1, Bool.or_true]
        rfl
/-- the kinds of a text's words -/
def kds (l : List Int32) : List Nat := (wds l).map fun q => q.1
abbrev c0 : Cs := (0, 0, 0, [], false)
/-- the reference's reading -/
theorem F147 {N : Nat} {l : List Int32} {σ : st_S} (hN : 20000000 < N) (hq : gC σ + 200000 < vz_M0) (hw : W3 σ (wds l)) (hl : l.length ≤ 16384) (h78 : 16 ≤ gN σ 78 ∧ gN σ 78 ≤ 40000) : ∃ σ' r, F_147 N σ = some (r, σ') ∧ Rdn (crd (kds l) c0 0) r σ' ∧ Fx σ σ' ∧ W3 σ' (wds l) := by
  have r0 : Fx σ (st_i (st_i (st_i σ 77 1 0) 66 7 0) 66 8 (-1)) := Fr.t0 (Fr.i _ _ (by decide)) (Fr.t0 (Fr.i _ _ (by decide)) (Fr.i _ _ (by decide)))
  have w0 : Wt (st_i (st_i (st_i σ 77 1 0) 66 7 0) 66 8 (-1)) [] 0 := ⟨⟨rfl, Nat.zero_le _, h78.1, fun j q => absurd q (Nat.not_lt_zero j)⟩, h78.2, rfl⟩
  obtain ⟨σ1, e1, w1, f1⟩ := wadd (N := N) hq w0 r0 (Nat.zero_le _) 50
  have hw1 := hw.fx f1
  have hb : gI σ1 66 8 = -1 := by
    have e2 : N_133 N 77 50 (st_i (st_i (st_i σ 77 1 0) 66 7 0) 66 8 (-1)) = some σ1 := e1
    obtain ⟨σ'', z1, -, z2, -⟩ := N133' (N := N) (o := 77) (b := 78) (v := 50) rfl (by decide) w0.1 (by show gN σ 78 ≤ _; omega) (by show gC σ + 188 < _; omega)
    rw [z1] at e2
    obtain rfl := Option.some.inj e2
    exact z2.1 66 8 (by decide)
  obtain ⟨k1, k2⟩ := ws_ok l l.length (skp l 0)
  obtain ⟨σ2, r, x1, x2, x3, x4⟩ := all_w (N := N) (w := wds l) hq (by show (ws l l.length (skp l 0)).length < 20000; omega) (wds l) 0 c0 [50] 0 σ1 rfl k1 (by decide) (Or.inl rfl) hw1 f1 hb w1 ⟨rfl, rfl, Nat.zero_le _⟩ (List.mem_singleton.mpr rfl)
  refine ⟨σ2, r, ?_, x3, x1, x2⟩
  unfold F_147
  have e1 : N_133 N 77 50 (st_i (st_i (st_i σ 77 1 0) 66 7 0) 66 8 (-1)) = some σ1 := e1
  rw [e1, ob_some]
  refine x4 N ?_
  have : (wds l).length ≤ l.length + 1 := k2
  omega
