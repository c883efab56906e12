/-! the items of a text that is read -/
section QT
variable {l : List Int32} {w : List (Nat × Nat × Nat)} {p : Nat → Int32} {W : List (Nat → Int32)} {n i h op k r v kk : Nat} {M : Nat → Nat → Int32} {R : List (Nat × Tr)} {I : List It} {b : Bool} {s : List Nat} {X' : Xs} {c' : Cs}
/-- a rule is closed -/
theorem px_cl {n1 a0 : Nat} {p' : Nat → Int32} {n' : Nat} {M' : Nat → Nat → Int32} {T : Tr} (hk : kK w i = kk) (hk40 : kk < 40) (hI : IL l w M I h k) (h14 : p 14 = nI h) (ho : opw op (kK w k)) (hc : Ch w op k R) (hb : b = true ↔ op = 29) (hL : Lay l w M op k h R n1) (hB : Bg w op k R r a0) (hM : Mkr w M r n1 a0) (h9 : p 9 = nI r) (h15 : r = 6 → p 15 = nI n1) (hr : r < 8)
    (t1 : Wf w T) (t2 : bw T = a0) (t3 : ew T = i) (t4 : Co l w M' T (n1 + mk r)) (t5 : n' = n1 + mk r + tln T) (t6 : p' 13 = nI (n' - 1)) (t7 : p' 10 = nI (kP w a0)) (t8 : p' 11 = nI (n1 + mk r)) (t9 : ∀ j, j ≠ 12 → j ≠ 13 → p' j = p j) (t10 : ∀ j, j < n1 + mk r → M' j = M j) (e1 : xclose (nI (κ kk)) (nI (kP w i)) (p', [], n', M') = some X') (e2 : cClo kk r b = some c') (hn : n' < 24850) (hlev : lev T ≤ 6) : PZ l w X' c' (i + 1) := by
  have hl := hL.le
  have pT := tln_pos T
  have q9 : p' 9 = nI r := (t9 9 (by decide) (by decide)).trans h9
  have q14 : p' 14 = nI h := (t9 14 (by decide) (by decide)).trans h14
  have q15 : p' 15 = p 15 := t9 15 (by decide) (by decide)
  have hc' : Ch w op k ((r, T) :: R) := ⟨hc, t1, hlev, by rw [t2]; exact hB⟩
  have lay : ∀ M3 : Nat → Nat → Int32, (∀ j, j < n' → (j ≠ n1 ∨ r ≠ 6) → M3 j = M' j) → (r = 6 → ∀ c, c ≠ 1 → M3 n1 c = M' n1 c) → (r = 6 → M3 n1 1 = nI (kP w a0)) → Re w M3 n' a0 r (n1 + mk r) → Lay l w M3 op k h ((r, T) :: R) (n' + 1) ∧ IL l w M3 I h k := by
    intro M3 m1 m2 m3 m4
    refine ⟨⟨n1, hL.fr (fun j _ a => (m1 j (by omega) (Or.inl (by omega))).trans (t10 j (by omega))), ⟨fun z => ?_, fun z => ?_⟩, fun z => by rw [t2]; exact m3 z, t4.fr (fun j a b => m1 j (by omega) ?_), by rw [t2, ← t5]; exact m4, by omega⟩, hI.fr (fun j a => (m1 j (by omega) (Or.inl (by omega))).trans (t10 j (by omega)))⟩
    · have e : M' n1 = M n1 := t10 n1 (by rw [z]; exact Nat.lt_succ_self n1)
      rw [m2 z 0 (by decide), m2 z 3 (by decide), m2 z 4 (by decide), e]
      exact hM.1 z
    · have e : M3 n1 = M n1 := (m1 n1 (by omega) (Or.inr (by omega))).trans (t10 n1 (by rw [z]; exact Nat.lt_succ_self n1))
      rw [e, t2]
      exact hM.2 z
    · by_cases c : r = 6
      · have : mk r = 1 := by rw [c]; rfl
        exact Or.inl (by omega)
      · exact Or.inr c
  have re : ∀ M3 : Nat → Nat → Int32, M3 n' = nv8 26 (p' 10) (p' 13) (p' 9) (p' 11) → Re w M3 n' a0 r (n1 + mk r) := fun M3 z => by
    unfold Re
    rw [z]
    exact ⟨rfl, t7, t6, q9, t8⟩
  have L2 : r ≠ 6 → Lay l w (ndd M' n' (nv8 26 (p' 10) (p' 13) (p' 9) (p' 11))) op k h ((r, T) :: R) (n' + 1) ∧ IL l w (ndd M' n' (nv8 26 (p' 10) (p' 13) (p' 9) (p' 11))) I h k := fun z =>
    lay _ (fun j a _ => ndd_o M' _ (n := n') (by omega)) (fun y => absurd y z) (fun y => absurd y z) (re _ (ndd_s _ _ _))
  have r9 : ∀ m, m < 8 → (p' 9 = nI m ↔ r = m) := fun m hm => by rw [q9]; exact nI_eq (by omega) (by omega)
  have k256 : nI (κ kk) = 256 ↔ kk = 16 := kqq kk hk40 (m := 16) (by decide)
  have k306 : nI (κ kk) = 306 ↔ kk = 9 := kqq kk hk40 (m := 9) (by decide)
  have k59 : nI (κ kk) = 59 ↔ kk = 34 := kqq kk hk40 (m := 34) (by decide)
  have k257 : nI (κ kk) = 257 ↔ kk = 17 := kqq kk hk40 (m := 17) (by decide)
  have k58 : nI (κ kk) = 58 ↔ kk = 33 := kqq kk hk40 (m := 33) (by decide)
  have k41 : nI (κ kk) = 41 ↔ kk = 37 := kqq kk hk40 (m := 37) (by decide)
  have kw : ∀ m, kk = m → kK w (ew T) = m := fun m z => by rw [t3, hk]; exact z
  unfold xclose at e1
  dsimp only at e1
  unfold cClo at e2
  have fin : (r = 0 ∨ r = 2 ∨ r = 3 ∨ r = 4) → kk = 34 → PZ l w (xfin (nI (kP w i)) (xem 26 (p' 10) (p' 13) (p' 9) (p' 11) (p', [], n', M'))) (0, 0, 0, [], false) (i + 1) := by
    intro z1 z2
    obtain ⟨y1, y2⟩ := L2 (by omega)
    exact PX.fi (p := p') (W := []) (n := n' + 1) y2 ho hc' y1 ⟨by rw [hk]; exact z2, Or.inr ⟨r, T, R, rfl, Or.inl ⟨z1, t3.symm⟩⟩⟩
  have opn : ∀ r', r ≠ 6 → r' ≠ 6 → r' ≠ 7 → Bg w op k ((r, T) :: R) r' (i + 1) → PZ l w (xopen (nI r') (xem 26 (p' 10) (p' 13) (p' 9) (p' 11) (p', [], n', M'))) (opens r' b) (i + 1) := by
    intro r' z1 z2 z3 z4
    obtain ⟨y1, y2⟩ := L2 z1
    have m0 : mk r' = 0 := if_neg (by omega)
    exact PX.ru (p := p') (W := []) (n := n' + 1) (n1 := n' + 1) y2 q14 ho hc' hb y1 z4 ⟨fun z => absurd z z2, fun z => absurd z z3⟩ (fun z => absurd z z2) (by rw [m0]) (by omega)
  by_cases c1 : r = 1
  · rw [if_pos (show p' 9 = 1 from (r9 1 (by decide)).mpr c1)] at e1
    rw [if_pos c1] at e2
    obtain ⟨d, rfl⟩ := ite_s e2
    rw [if_pos (k256.mpr d)] at e1
    obtain rfl := Option.some.inj e1
    exact opn 2 (by omega) (by decide) (by decide) (Or.inr (Or.inr (Or.inr (Or.inr (Or.inr (Or.inl ⟨T, R, by rw [c1], rfl, kw 16 d, by omega⟩))))))
  rw [if_neg (show ¬ p' 9 = 1 from fun z => c1 ((r9 1 (by decide)).mp z))] at e1
  rw [if_neg c1] at e2
  by_cases c2 : r = 2
  · rw [if_pos (show p' 9 = 2 from (r9 2 (by decide)).mpr c2)] at e1
    rw [if_pos c2] at e2
    by_cases d : kk = 9
    · rw [if_pos d] at e2
      rw [if_pos (k306.mpr d)] at e1
      obtain rfl := Option.some.inj e1
      obtain rfl := Option.some.inj e2
      exact opn 3 (by omega) (by decide) (by decide) (Or.inr (Or.inr (Or.inr (Or.inr (Or.inr (Or.inr (Or.inl ⟨T, R, by rw [c2], rfl, kw 9 d, by omega⟩)))))))
    · rw [if_neg d] at e2
      rw [if_neg (fun z => d (k306.mp z))] at e1
      obtain ⟨d2, rfl⟩ := ite_s e2
      rw [if_pos (k59.mpr d2)] at e1
      obtain rfl := Option.some.inj e1
      exact fin (by omega) d2
  rw [if_neg (show ¬ p' 9 = 2 from fun z => c2 ((r9 2 (by decide)).mp z))] at e1
  rw [if_neg c2] at e2
  by_cases c5 : r = 5
  · rw [if_pos (show p' 9 = 5 from (r9 5 (by decide)).mpr c5)] at e1
    rw [if_pos c5] at e2
    obtain ⟨d, rfl⟩ := ite_s e2
    rw [if_pos (k257.mpr d)] at e1
    obtain rfl := Option.some.inj e1
    obtain ⟨y1, y2⟩ := L2 (by omega)
    exact PX.br (p := p') (W := []) (n := n' + 1) y2 q14 ho hc' hb y1 (Or.inr (Or.inr (Or.inr (Or.inr (Or.inr (Or.inr (Or.inr (Or.inl ⟨T, R, by rw [c5], rfl, kw 17 d, by omega⟩)))))))) (by omega)
  rw [if_neg (show ¬ p' 9 = 5 from fun z => c5 ((r9 5 (by decide)).mp z))] at e1
  rw [if_neg c5] at e2
  by_cases c6 : r = 6
  · rw [if_pos (show p' 9 = 6 from (r9 6 (by decide)).mpr c6)] at e1
    rw [if_pos c6] at e2
    obtain ⟨d, rfl⟩ := ite_s e2
    rw [if_pos (k58.mpr d)] at e1
    obtain rfl := Option.some.inj e1
    have cl : (p' 15).toNatClampNeg = n1 := by rw [q15, h15 c6]; exact nI_clamp (by omega)
    have m1 : mk r = 1 := by rw [c6]; rfl
    obtain ⟨y1, y2⟩ := lay (pat (ndd M' n' (nv8 26 (p' 10) (p' 13) (p' 9) (p' 11))) n1 1 (p' 10)) (fun j a z => by
      have : j ≠ n1 := by omega
      rw [pat_o _ _ this, ndd_o _ _ (by omega)]) (fun _ c hc => by rw [pat_c _ _ hc, ndd_o _ _ (by omega)]) (fun _ => by rw [pat_s]; exact t7) (re _ (by rw [pat_o _ _ (by omega), ndd_s]))
    show PX l w (up p' 8 6) [] (n' + 1) (pat (ndd M' n' (nv8 26 (p' 10) (p' 13) (p' 9) (p' 11))) (p' 15).toNatClampNeg 1 (p' 10)) 6 0 [] b (i + 1)
    rw [cl]
    unfold PX
    rw [if_neg (by decide)]
    refine ⟨I, h, op, k, (r, T) :: R, y2, (up_o _ _ (by decide)).trans q14, ho, hc', hb, ?_⟩
    unfold PS
    rw [if_neg (by decide), if_neg (by decide), if_neg (by decide), if_neg (by decide), if_neg (by decide), if_neg (by decide), if_pos rfl]
    exact ⟨y1, T, R, by rw [c6], kw 33 d, by omega⟩
  rw [if_neg (show ¬ p' 9 = 6 from fun z => c6 ((r9 6 (by decide)).mp z))] at e1
  rw [if_neg c6] at e2
  by_cases c7 : r = 7
  · rw [if_pos (show p' 9 = 7 from (r9 7 (by decide)).mpr c7)] at e1
    rw [if_pos c7] at e2
    obtain ⟨d, rfl⟩ := ite_s e2
    rw [if_pos (k41.mpr d)] at e1
    obtain rfl := Option.some.inj e1
    obtain ⟨y1, y2⟩ := L2 c6
    show PX l w (up p' 8 12) [] (n' + 1) (ndd M' n' (nv8 26 (p' 10) (p' 13) (p' 9) (p' 11))) 12 0 [] b (i + 1)
    unfold PX
    rw [if_neg (by decide)]
    refine ⟨I, h, op, k, (r, T) :: R, y2, (up_o _ _ (by decide)).trans q14, ho, hc', hb, ?_⟩
    unfold PS
    rw [if_neg (by decide), if_neg (by decide), if_neg (by decide), if_neg (by decide), if_neg (by decide), if_neg (by decide), if_neg (by decide), if_neg (by decide), if_neg (by decide), if_neg (by decide), if_neg (by decide), if_neg (by decide)]
    exact ⟨y1, T, R, by rw [c7], kw 37 d, by omega⟩
  rw [if_neg (show ¬ p' 9 = 7 from fun z => c7 ((r9 7 (by decide)).mp z))] at e1
  rw [if_neg c7] at e2
  obtain ⟨d, rfl⟩ := ite_s e2
  rw [if_pos (k59.mpr d)] at e1
  obtain rfl := Option.some.inj e1
  exact fin (by omega) d
/-- a word in a rule -/
theorem px_hi {wt : Nat} (hk : kK w i = kk) (hk40 : kk < 40) (hP : Pl w) (hw : 13 ≤ wt) (hw2 : wt ≤ 15) (h8 : p 8 = nI wt) (hs : sm s = true) (hok : okS s 0 = true) (hr : r < 8) (h12 : p 12 = nI v) (hv : v ≤ 40) (hn : n + W.length < 24850) (hn2 : n < 24800) (hr9 : 13 ≤ c'.1 → X'.1 9 = nI c'.2.1) (hX : PX l w p W n M wt r s b i) (e1 : xtake (nI (κ kk)) (nI (kP w i)) (nI (kE w i - kP w i)) (nv l (l.length - kP w i) (kP w i) 0) (p, W, n, M) = some X') (e2 : cst kk (wt, r, v, s, b) = some c') : PZ l w X' c' (i + 1) := by
  unfold PX at hX
  rw [if_neg (by omega)] at hX
  obtain ⟨I, h, op, k, R, hI, h14, ho, hc, hb, hS⟩ := hX
  unfold PS at hS
  rw [if_pos hw] at hS
  obtain ⟨n1, a0, hL, hB, hM, h9, h15, hG⟩ := hS
  by_cases c15 : wt = 15
  · subst c15
    have d1 : xopr (nI (κ kk)) (nI (kP w i)) (p, W, n, M) = some X' := by rw [← e1]; exact (if_pos h8).symm
    have d2 : cOpr kk r v s b = some c' := e2
    rcases gR_opr hk hk40 hs hok hP hn hG d1 d2 with ⟨g1, g2, g3, g4, g5, g6⟩ | ⟨p', n', M', T, t1, t2, t3, t4, t5, t6, t7, t8, t9, t10, t11, t12, t13, t14⟩
    · obtain ⟨p', W', n', M'⟩ := X'
      obtain ⟨wt', r', v', s', b'⟩ := c'
      have g3 : r' = r := g3
      have g6 : b' = b := g6
      subst g3 g6
      exact PX.go hI h14 ho hc hb hL hB hM h15 g2 (hr9 g2) g5 g4 g1
    · exact px_cl hk hk40 hI h14 ho hc hb hL hB hM h9 h15 hr t1 t2 t3 t4 t5 t6 t7 t8 t9 t10 t11 t12 t13 t14
  by_cases c14 : wt = 14
  · subst c14
    have d1 : xopd (nI (κ kk)) (nI (kP w i)) (nI (kE w i - kP w i)) (nv l (l.length - kP w i) (kP w i) 0) (p, W, n, M) = some X' := by
      rw [← e1]
      show _ = (if p 8 = 15 then _ else if p 8 = 14 then _ else _)
      rw [if_neg (show ¬ p 8 = 15 by rw [h8]; decide), if_pos (show p 8 = 14 from h8)]
    have d2 : cOpd kk r v s b = some c' := e2
    obtain ⟨g1, g2, g3⟩ := gR_opd hk hP hG hn2 d1 d2
    obtain ⟨b1, b2, b3⟩ := cOpd_b d2
    have pk := xopd_p d1
    obtain ⟨p', W', n', M'⟩ := X'
    obtain ⟨wt', r', v', s', b'⟩ := c'
    have b1 : b' = b := b1
    have b3 : r' = r := b3
    subst b1 b3
    exact PX.go hI h14 ho hc hb hL hB hM h15 b2 (hr9 b2) pk g2 g1
  have c13 : wt = 13 := by omega
  subst c13
  have d2 : (if kk = 36 ∧ v < 40 then some ((14, r, v + 1, s, b) : Cs) else none) = some c' := e2
  obtain ⟨⟨d, dv⟩, rfl⟩ := ite_s d2
  have k40 : nI (κ kk) = 40 ↔ kk = 36 := kqq kk hk40 (m := 36) (by decide)
  rw [xt_13 h8, if_pos (k40.mpr d), dp_40 h12 hv, if_pos dv, ob_some] at e1
  obtain rfl := Option.some.inj e1
  refine PX.go (p := p) hI h14 ho hc hb hL hB hM h15 (by show 13 ≤ 14; decide) ?_ (fun j hj => ?_) (fun _ _ => rfl) (gR_lst (v := v) (by rw [hk]; exact d) hG)
  · exact h9
  · show up (up p 12 (nI (v + 1))) 8 14 j = p j
    rw [up_o _ _ (by omega), up_o _ _ (by omega)]
end QT
/-- a word -/
theorem px_step {l : List Int32} {w : List (Nat × Nat × Nat)} {i kk : Nat} {X X' : Xs} {c c' : Cs} (hk : kK w i = kk) (hk40 : kk < 40) (hP : Pl w) (hi : i ≤ 16384) (hR : RX X c i) (ho : okC c = true) (hX : PZ l w X c i) (e1 : xtake (nI (κ kk)) (nI (kP w i)) (nI (kE w i - kP w i)) (nv l (l.length - kP w i) (kP w i) 0) X = some X') (e2 : cst kk c = some c') : PZ l w X' c' (i + 1) := by
  have bo : Bo (xtake (nI (κ kk)) (nI (kP w i)) (nI (kE w i - kP w i)) (nv l (l.length - kP w i) (kP w i) 0) X) (cst kk c) (i + 1) := st_all hk40 hR ho (by omega)
  rw [e1, e2] at bo
  have bo : RX X' c' (i + 1) := bo
  have hr9 : 13 ≤ c'.1 → X'.1 9 = nI c'.2.1 := fun z => (bo.2.1 z).1
  obtain ⟨p, W, n, M⟩ := X
  obtain ⟨wt, r, v, s, b⟩ := c
  obtain ⟨h1, h2, h3, h4⟩ := hR
  have h1 : p 8 = nI wt := h1
  by_cases c13 : 13 ≤ wt
  · obtain ⟨q1, q2, q3, q4, q5⟩ := h2 c13
    have q5 : 2 * n + csts s + (if wt = 15 then 1 else 0) ≤ 3 * i := q5
    have q3 : WS W s n := q3
    obtain ⟨o1, o2, o3, o4, o5, o6, o7⟩ := okC_w ho c13
    have hlen := q3.len
    have n2 : n ≤ 24576 := by
      have : 2 * n ≤ 3 * i := Nat.le_trans (Nat.le_trans (Nat.le_add_right _ _) (Nat.le_add_right _ _)) q5
      clear h2 h3 h4 q4 hX e1 e2 bo hr9
      omega
    have n3 : n + W.length < 24850 := by rw [hlen]; clear h2 h3 h4 q4 hX e1 e2 bo hr9; omega
    exact px_hi hk hk40 hP c13 o7 h1 q3.2.1 o1 o6 q2 o2 n3 (Nat.lt_of_le_of_lt n2 (by decide)) hr9 hX e1 e2
  · have e : okC (wt, r, v, s, b) = (decide (wt < 13) && decide (r = 0) && decide (v = 0) && decide (s = [])) := by
      show (if wt = 15 ∨ wt = 14 then _ else if wt = 13 then _ else _) = _
      rw [if_neg (by omega), if_neg (by omega)]
    rw [e] at ho
    obtain ⟨a1, a2, a3, a4⟩ := and4 ho
    have a2 := of_decide_eq_true a2
    have a3 := of_decide_eq_true a3
    have a4 := of_decide_eq_true a4
    subst a2 a3 a4
    have hw : wt < 13 := by clear h2 h3 h4 hX e1 e2 bo hr9; omega
    have n1 : 2 * n ≤ 3 * i := h3 hw
    have n2 : n < 24800 := by clear h2 h3 h4 hX e1 e2 bo hr9; omega
    by_cases w0 : wt = 0
    · subst w0
      have hX : PX l w p W n M 0 0 [] b i := hX
      unfold PX at hX
      rw [if_pos rfl] at hX
      obtain ⟨I, hI⟩ := hX
      have h0 : p 8 = nI 0 := h1
      have d1 : xitem (nI (κ kk)) (nI (kP w i)) (p, W, n, M) = some X' := by
        rw [← e1]
        show _ = (if p 8 = 15 then _ else if p 8 = 14 then _ else if p 8 = 0 then _ else _)
        rw [if_neg (show ¬ p 8 = 15 by rw [h0]; decide), if_neg (show ¬ p 8 = 14 by rw [h0]; decide), if_pos (show p 8 = 0 from h0)]
      exact px_0 hk hP n2 hI d1 e2
    · refine px_lo hk hk40 hP n2 hw w0 h1 (fun z => ?_) hr9 hX e1 e2
      obtain ⟨j, j1, j2, j3⟩ := h4 w0
      exact ⟨j, j1, j2, j3 z⟩
/-- all words -/
theorem px_all {l : List Int32} {w : List (Nat × Nat × Nat)} (hP : Pl w) (hlen : w.length ≤ 16385) : ∀ (t : List (Nat × Nat × Nat)) (i : Nat) (c : Cs) (X X' : Xs), w.drop i = t → wok (t.map fun q => q.1) = true → RX X c i → okC c = true → PZ l w X c i → crd (t.map fun q => q.1) c i = none → xrun l t X = some X' → ∃ I m, IL l w X'.2.2.2 I X'.2.2.1 m ∧ kK w m = 0 ∧ m < w.length ∧ X'.2.2.1 ≤ 24600 := by
  intro t
  induction t with
  | nil => intro i c X X' ht hok; cases hok
  | cons q t ih =>
    intro i c X X' ht hok hR hc hX hcr hx
    have hi : w[i]? = some q := by
      have : (w.drop i)[0]? = some q := by rw [ht]; rfl
      rw [List.getElem?_drop] at this
      exact this
    have ht' : w.drop (i + 1) = t := by
      rw [← List.drop_drop, ht]; rfl
    have hi' : i < w.length := (List.getElem?_eq_some_iff.mp hi).1
    have hg : w.getD i (0, 0, 0) = q := by rw [List.getD_eq_getElem?_getD, hi]; rfl
    have gK : kK w i = q.1 := by unfold kK; rw [hg]
    have gP : kP w i = q.2.1 := by unfold kP; rw [hg]
    have gE : kE w i = q.2.2 := by unfold kE; rw [hg]
    have hok : (decide (q.1 < 40) && (q.1 == 0 || q.1 == 39 || wok (t.map fun q => q.1))) = true := hok
    obtain ⟨k1, k2⟩ := Bool.and_eq_true_iff.mp hok
    have k1 := of_decide_eq_true k1
    have hcr : (if q.1 = 0 then (if c.1 = 0 then none else some i) else match cst q.1 c with
      | none => some i
      | some c' => crd (t.map fun q => q.1) c' (i + 1)) = none := hcr
    have hx : (if q.1 = 0 then some X else (xw1 l q X).bind (xrun l t)) = some X' := hx
    by_cases c0 : q.1 = 0
    · rw [if_pos c0] at hcr hx
      obtain rfl := Option.some.inj hx
      by_cases d0 : c.1 = 0
      · have hX : PX l w X.1 X.2.1 X.2.2.1 X.2.2.2 c.1 c.2.1 c.2.2.2.1 c.2.2.2.2 i := hX
        unfold PX at hX
        rw [if_pos d0] at hX
        obtain ⟨I, hI⟩ := hX
        have := hR.2.2.1 (by rw [d0]; decide)
        exact ⟨I, i, hI, by rw [gK]; exact c0, hi', by omega⟩
      · rw [if_neg d0] at hcr; cases hcr
    · rw [if_neg c0] at hcr hx
      cases hcs : cst q.1 c with
      | none => rw [hcs] at hcr; cases hcr
      | some c' =>
        rw [hcs] at hcr
        cases hh : xw1 l q X with
        | none => rw [hh] at hx; cases hx
        | some Y =>
          rw [hh, ob_some] at hx
          have e1 : xtake (nI (κ q.1)) (nI (kP w i)) (nI (kE w i - kP w i)) (nv l (l.length - kP w i) (kP w i) 0) X = some Y := by
            rw [gP, gE]; exact hh
          have bo : Bo (xtake (nI (κ q.1)) (nI (kP w i)) (nI (kE w i - kP w i)) (nv l (l.length - kP w i) (kP w i) 0) X) (cst q.1 c) (i + 1) := st_all k1 hR hc (by omega)
          rw [e1, hcs] at bo
          have hok' : wok (t.map fun q => q.1) = true := by
            rcases Bool.or_eq_true_iff.mp k2 with k2 | k2
            · rcases Bool.or_eq_true_iff.mp k2 with k2 | k2
              · exact absurd (eq_of_beq k2) c0
              · rw [eq_of_beq k2, cst_39] at hcs; cases hcs
            · exact k2
          exact ih (i + 1) c' Y X' ht' hok' bo (okC_cst k1 c0 hc hcs) (px_step gK k1 hP (by omega) hR hc hX e1 hcs) hcr hx
