/-! a word, with the items and their trees -/
theorem ite_s {α : Type} {c : Prop} [Decidable c] {a x : α} (h : (if c then some a else none) = some x) : c ∧ a = x := by
  split at h
  · exact ⟨by assumption, Option.some.inj h⟩
  · cases h
section QS
variable {l : List Int32} {w : List (Nat × Nat × Nat)} {p : Nat → Int32} {W : List (Nat → Int32)} {n i h op k r v kk : Nat} {M : Nat → Nat → Int32} {R : List (Nat × Tr)} {I : List It} {b : Bool} {K st sz vl : Int32} {s : List Nat} {X' : Xs} {c' : Cs}
theorem xt_1 (h8 : p 8 = nI 1) : xtake K st sz vl (p, W, n, M) = if K = 261 then some (xw (if M (p 14).toNatClampNeg 0 = 29 then 3 else 2) (p, W, n, pat (pat M (p 14).toNatClampNeg 2 st) (p 14).toNatClampNeg 3 sz)) else none := by
  rw [xt_lo h8 (by decide) (by decide), if_neg (by decide)]
  unfold xdef
  dsimp only
  rw [if_pos (show p 8 = 1 from h8)]
theorem xt_2 (h8 : p 8 = nI 2) : xtake K st sz vl (p, W, n, M) = if K = 61 then some (xopen 0 (p, W, n, M)) else none := by
  rw [xt_lo h8 (by decide) (by decide), if_neg (by decide)]
  unfold xdef
  dsimp only
  rw [if_neg (show ¬ p 8 = 1 by rw [h8]; decide), if_pos (show p 8 = 2 from h8)]
theorem xt_3 (h8 : p 8 = nI 3) : xtake K st sz vl (p, W, n, M) = if K = 58 then some (xw 4 (p, W, n, M)) else none := by
  rw [xt_lo h8 (by decide) (by decide), if_neg (by decide)]
  unfold xdef
  dsimp only
  rw [if_neg (show ¬ p 8 = 1 by rw [h8]; decide), if_neg (show ¬ p 8 = 2 by rw [h8]; decide), if_pos (show p 8 = 3 from h8)]
theorem xt_4 (h8 : p 8 = nI 4) : xtake K st sz vl (p, W, n, M) = if K = 302 then some (xw 5 (p, W, n, pat M (p 14).toNatClampNeg 4 2)) else xopd K st sz vl (xopen 1 (p, W, n, pat M (p 14).toNatClampNeg 4 1)) := by
  rw [xt_lo h8 (by decide) (by decide), if_neg (by decide)]
  unfold xdef
  dsimp only
  rw [if_neg (show ¬ p 8 = 1 by rw [h8]; decide), if_neg (show ¬ p 8 = 2 by rw [h8]; decide), if_neg (show ¬ p 8 = 3 by rw [h8]; decide), if_pos (show p 8 = 4 from h8)]
theorem xt_5 (h8 : p 8 = nI 5) : xtake K st sz vl (p, W, n, M) = if K = 306 then some (xopen 3 (p, W, n, M)) else if K = 59 then some (xfin st (p, W, n, M)) else none := by
  rw [xt_lo h8 (by decide) (by decide), if_neg (by decide)]
  unfold xdef
  dsimp only
  rw [if_neg (show ¬ p 8 = 1 by rw [h8]; decide), if_neg (show ¬ p 8 = 2 by rw [h8]; decide), if_neg (show ¬ p 8 = 3 by rw [h8]; decide), if_neg (show ¬ p 8 = 4 by rw [h8]; decide), if_pos (show p 8 = 5 from h8)]
theorem xt_6 (h8 : p 8 = nI 6) : xtake K st sz vl (p, W, n, M) = if K = 307 then some (xw 7 (p, W, n, M)) else if K = 40 then some (xset st (p, W, n, M)) else none := by
  rw [xt_lo h8 (by decide) (by decide), if_pos (by decide)]
  unfold xbra
  dsimp only
  rw [if_pos (show p 8 = 6 from h8)]
theorem xt_7 (h8 : p 8 = nI 7) : xtake K st sz vl (p, W, n, M) = xbe K st (p, W, n, M) := by
  rw [xt_lo h8 (by decide) (by decide), if_pos (by decide)]
  unfold xbra
  dsimp only
  rw [if_neg (show ¬ p 8 = 6 by rw [h8]; decide), if_pos (show p 8 = 7 from h8)]
theorem xt_8 (h8 : p 8 = nI 8) : xtake K st sz vl (p, W, n, M) = if K = 40 then some (xset st (p, W, n, M)) else none := by
  rw [xt_lo h8 (by decide) (by decide), if_pos (by decide)]
  unfold xbra
  dsimp only
  rw [if_neg (show ¬ p 8 = 6 by rw [h8]; decide), if_neg (show ¬ p 8 = 7 by rw [h8]; decide), if_pos (show p 8 = 8 from h8)]
theorem xt_9 (h8 : p 8 = nI 9) : xtake K st sz vl (p, W, n, M) = if K = 261 then some (xw 10 (xem 33 (p 16) st sz (-1) (p, W, n, M))) else none := by
  rw [xt_lo h8 (by decide) (by decide), if_pos (by decide)]
  unfold xbra
  dsimp only
  rw [if_neg (show ¬ p 8 = 6 by rw [h8]; decide), if_neg (show ¬ p 8 = 7 by rw [h8]; decide), if_neg (show ¬ p 8 = 8 by rw [h8]; decide), if_pos (show p 8 = 9 from h8)]
theorem xt_10 (h8 : p 8 = nI 10) : xtake K st sz vl (p, W, n, M) = if K = 39 then some (xw 11 (p, W, n, M)) else none := by
  rw [xt_lo h8 (by decide) (by decide), if_pos (by decide)]
  unfold xbra
  dsimp only
  rw [if_neg (show ¬ p 8 = 6 by rw [h8]; decide), if_neg (show ¬ p 8 = 7 by rw [h8]; decide), if_neg (show ¬ p 8 = 8 by rw [h8]; decide), if_neg (show ¬ p 8 = 9 by rw [h8]; decide), if_pos (show p 8 = 10 from h8)]
theorem xt_11 (h8 : p 8 = nI 11) : xtake K st sz vl (p, W, n, M) = if K = 61 then some (xopen 7 (p, W, n, M)) else none := by
  rw [xt_lo h8 (by decide) (by decide), if_pos (by decide)]
  unfold xbra
  dsimp only
  rw [if_neg (show ¬ p 8 = 6 by rw [h8]; decide), if_neg (show ¬ p 8 = 7 by rw [h8]; decide), if_neg (show ¬ p 8 = 8 by rw [h8]; decide), if_neg (show ¬ p 8 = 9 by rw [h8]; decide), if_neg (show ¬ p 8 = 10 by rw [h8]; decide), if_pos (show p 8 = 11 from h8)]
theorem xt_12 (h8 : p 8 = nI 12) : xtake K st sz vl (p, W, n, M) = if K = 38 then some (xw 8 (p, W, n, M)) else xbe K st (p, W, n, M) := by
  rw [xt_lo h8 (by decide) (by decide), if_pos (by decide)]
  unfold xbra
  dsimp only
  rw [if_neg (show ¬ p 8 = 6 by rw [h8]; decide), if_neg (show ¬ p 8 = 7 by rw [h8]; decide), if_neg (show ¬ p 8 = 8 by rw [h8]; decide), if_neg (show ¬ p 8 = 9 by rw [h8]; decide), if_neg (show ¬ p 8 = 10 by rw [h8]; decide), if_neg (show ¬ p 8 = 11 by rw [h8]; decide), if_pos (show p 8 = 12 from h8)]
theorem xt_13 (h8 : p 8 = nI 13) : xtake K st sz vl (p, W, n, M) = if K = 40 then (xdeep (p, W, n, M)).bind fun Y => some (xw 14 Y) else none := by
  rw [xt_lo h8 (by decide) (by decide), if_pos (by decide)]
  unfold xbra
  dsimp only
  rw [if_neg (show ¬ p 8 = 6 by rw [h8]; decide), if_neg (show ¬ p 8 = 7 by rw [h8]; decide), if_neg (show ¬ p 8 = 8 by rw [h8]; decide), if_neg (show ¬ p 8 = 9 by rw [h8]; decide), if_neg (show ¬ p 8 = 10 by rw [h8]; decide), if_neg (show ¬ p 8 = 11 by rw [h8]; decide), if_neg (show ¬ p 8 = 12 by rw [h8]; decide), if_pos (show p 8 = 13 from h8)]
theorem xopd_p {X X' : Xs} (h : xopd K st sz vl X = some X') : ∀ j, 14 ≤ j → X'.1 j = X.1 j := by
  have key : ∀ {Y : Xs}, xopd0 K st sz vl Y = some X' → ∀ j, 14 ≤ j → X'.1 j = Y.1 j := by
    intro Y h j hj
    have j8 : j ≠ 8 := by omega
    have j12 : j ≠ 12 := by omega
    have j13 : j ≠ 13 := by omega
    unfold xopd0 xpush xdeep at h
    repeat' split at h
    all_goals (try simp only [ob_some] at h)
    all_goals (try split at h)
    all_goals cases h
    all_goals simp [xw, up, xval, j8, j12, j13]
  intro j hj
  unfold xopd at h
  split at h
  · exact key h j hj
  · have := key h j hj
    rw [this]
    show up X.1 10 st j = X.1 j
    exact up_o _ _ (by omega)
theorem cOpd_b (h : cOpd kk r v s b = some c') : c'.2.2.2.2 = b ∧ 13 ≤ c'.1 ∧ c'.2.1 = r := by
  unfold cOpd at h
  repeat' split at h
  all_goals cases h
  all_goals refine ⟨rfl, ?_, rfl⟩
  all_goals first
    | (show 13 ≤ 15; decide)
    | (show 13 ≤ 14; decide)
    | (show 13 ≤ 13; decide)
theorem xo_p (r : Int32) {j : Nat} (hj : 14 ≤ j) : (xopen r (p, W, n, M)).1 j = p j := by
  have j8 : j ≠ 8 := by omega
  have j9 : j ≠ 9 := by omega
  have j10 : j ≠ 10 := by omega
  have j11 : j ≠ 11 := by omega
  have j12 : j ≠ 12 := by omega
  simp [xopen, up, j8, j9, j10, j11, j12]
/-- a rule goes on -/
theorem PX.go {p' : Nat → Int32} {W' : List (Nat → Int32)} {n' : Nat} {M' : Nat → Nat → Int32} {wt : Nat} {s' : List Nat} {n1 a0 : Nat} (hI : IL l w M I h k) (h14 : p 14 = nI h) (ho : opw op (kK w k)) (hc : Ch w op k R) (hb : b = true ↔ op = 29) (hL : Lay l w M op k h R n1) (hB : Bg w op k R r a0) (hM : Mkr w M r n1 a0) (h15 : r = 6 → p 15 = nI n1) (hwt : 13 ≤ wt) (h9 : p' 9 = nI r) (hpk : ∀ j, 14 ≤ j → p' j = p j) (hMM : ∀ j, j < n1 + mk r → M' j = M j) (hG : GR l w (p', W', n', M') wt s' (n1 + mk r) a0 i) : PX l w p' W' n' M' wt r s' b i := by
  unfold PX
  rw [if_neg (by omega)]
  have hl := hL.le
  refine ⟨I, h, op, k, R, hI.fr (fun j a => hMM j (by omega)), (hpk 14 (by decide)).trans h14, ho, hc, hb, ?_⟩
  unfold PS
  rw [if_pos hwt]
  refine ⟨n1, a0, hL.fr (fun j _ a => hMM j (by omega)), hB, ⟨fun z => ?_, fun z => ?_⟩, h9, fun z => (hpk 15 (by decide)).trans (h15 z), hG⟩
  · rw [hMM n1 (by rw [z]; exact Nat.lt_succ_self n1)]
    exact hM.1 z
  · rw [hMM n1 (by rw [z]; exact Nat.lt_succ_self n1)]
    exact hM.2 z
theorem GR.new (hn : n < 24900) : GR l w (xopen (nI r) (p, W, n, M)) 14 [] n i i :=
  ⟨[], rfl, rfl, fun _ => rfl, fun z => absurd z (Nat.lt_irrefl i), Nat.le_refl i, hn, by rw [if_neg (by decide), if_pos rfl]; exact ⟨rfl, rfl⟩⟩
/-- items begin -/
theorem px_0 (hk : kK w i = kk) (hP : Pl w) (hn : n < 24800) (hI : IL l w M I n i) (e1 : xitem (nI (κ kk)) (nI (kP w i)) (p, W, n, M) = some X') (e2 : cst kk (0, 0, 0, [], b) = some c') : PZ l w X' c' (i + 1) := by
  have hd : ∀ (op : Nat) (pl : Int32) (b' : Bool), (b' = true ↔ op = 29) → op ≤ 29 → opw op (kK w i) → PZ l w (xhead (nI op) pl (nI (kP w i)) (p, W, n, M)) (1, 0, 0, [], b') (i + 1) := by
    intro op pl b' z1 z2 z3
    show PX l w (up (up p 14 (nI n)) 8 1) W (n + 1) (ndd M n (nv8 (nI op) (nI (kP w i)) pl (-1) (-1))) 1 0 [] b' (i + 1)
    unfold PX
    rw [if_neg (by decide)]
    refine ⟨I, n, op, i, [], hI.fr (fun j a => ndd_o M _ (n := n) (by omega)), rfl, z3, trivial, z1, ?_⟩
    unfold PS
    rw [if_neg (by decide), if_pos rfl]
    refine ⟨rfl, z2, ⟨?_, ?_, fun z => by omega⟩, rfl, rfl⟩
    · rw [ndd_s]; rfl
    · rw [ndd_s]; rfl
  have hr : ∀ (op r : Nat) (pl : Int32), (op = 30 ∧ r = 4 ∨ op = 31 ∧ r = 5) → opw op (kK w i) → (op = 31 → pl = nI (kK w i - 6)) → PZ l w (xopen (nI r) (xhead (nI op) pl (nI (kP w i)) (p, W, n, M))) (opens r false) (i + 1) := by
    intro op r pl z1 z2 z3
    refine PX.ru (p := up (up p 14 (nI n)) 8 1) (n := n + 1) (n1 := n + 1) (M := ndd M n (nv8 (nI op) (nI (kP w i)) pl (-1) (-1))) (h := n) (k := i) (R := []) (op := op) (hI.fr (fun j a => ndd_o M _ (n := n) (by omega))) rfl z2 trivial ?_ ⟨⟨⟨⟨?_, ?_, fun z => ?_⟩, fun z => by omega⟩, fun z => by omega⟩, rfl⟩ ?_ ⟨fun z => by omega, fun z => by omega⟩ (fun z => by omega) ?_ (by omega)
    · exact ⟨fun z => (by cases z), fun z => by omega⟩
    · rw [ndd_s]; rfl
    · rw [ndd_s]; rfl
    · rw [ndd_s]; exact z3 z
    · rcases z1 with ⟨y1, y2⟩ | ⟨y1, y2⟩
      · exact Or.inr (Or.inr (Or.inr (Or.inl ⟨rfl, y1, y2, rfl⟩)))
      · exact Or.inr (Or.inr (Or.inr (Or.inr (Or.inl ⟨rfl, y1, y2, rfl⟩))))
    · have : mk r = 0 := if_neg (by omega)
      omega
  by_cases c3 : kk = 3
  · subst c3
    have d1 : some (xhead (nI 27) 0 (nI (kP w i)) (p, W, n, M)) = some X' := e1
    have d2 : some ((1, 0, 0, [], false) : Cs) = some c' := e2
    obtain rfl := Option.some.inj d1
    obtain rfl := Option.some.inj d2
    exact hd 27 0 false (by decide) (by decide) (Or.inl ⟨rfl, hk⟩)
  by_cases c6 : kk = 6
  · subst c6
    have d1 : some (xhead (nI 28) 0 (nI (kP w i)) (p, W, n, M)) = some X' := e1
    have d2 : some ((1, 0, 0, [], false) : Cs) = some c' := e2
    obtain rfl := Option.some.inj d1
    obtain rfl := Option.some.inj d2
    exact hd 28 0 false (by decide) (by decide) (Or.inr (Or.inl ⟨rfl, hk⟩))
  by_cases c4 : kk = 4
  · subst c4
    have d1 : some (xhead (nI 29) 0 (nI (kP w i)) (p, W, n, M)) = some X' := e1
    have d2 : some ((1, 0, 0, [], true) : Cs) = some c' := e2
    obtain rfl := Option.some.inj d1
    obtain rfl := Option.some.inj d2
    exact hd 29 0 true (by decide) (by decide) (Or.inr (Or.inr (Or.inl ⟨rfl, hk⟩)))
  by_cases c11 : kk = 11
  · subst c11
    have d1 : some (xopen (nI 4) (xhead (nI 30) 0 (nI (kP w i)) (p, W, n, M))) = some X' := e1
    have d2 : some (opens 4 false) = some c' := e2
    obtain rfl := Option.some.inj d1
    obtain rfl := Option.some.inj d2
    exact hr 30 4 0 (by decide) (Or.inr (Or.inr (Or.inr (Or.inl ⟨rfl, hk⟩)))) (fun z => absurd z (by decide))
  by_cases c7 : kk = 7
  · subst c7
    have d1 : some (xopen (nI 5) (xhead (nI 31) 1 (nI (kP w i)) (p, W, n, M))) = some X' := e1
    have d2 : some (opens 5 false) = some c' := e2
    obtain rfl := Option.some.inj d1
    obtain rfl := Option.some.inj d2
    exact hr 31 5 1 (by decide) (Or.inr (Or.inr (Or.inr (Or.inr ⟨rfl, Or.inl hk⟩)))) (fun _ => by rw [hk]; rfl)
  by_cases c8 : kk = 8
  · subst c8
    have d1 : some (xopen (nI 5) (xhead (nI 31) 2 (nI (kP w i)) (p, W, n, M))) = some X' := e1
    have d2 : some (opens 5 false) = some c' := e2
    obtain rfl := Option.some.inj d1
    obtain rfl := Option.some.inj d2
    exact hr 31 5 2 (by decide) (Or.inr (Or.inr (Or.inr (Or.inr ⟨rfl, Or.inr hk⟩)))) (fun _ => by rw [hk]; rfl)
  · exfalso
    have d2 : (if kk = 3 ∨ kk = 6 then some ((1, 0, 0, [], false) : Cs) else if kk = 4 then some (1, 0, 0, [], true) else if kk = 11 then some (opens 4 false) else if kk = 7 ∨ kk = 8 then some (opens 5 false) else none) = some c' := e2
    rw [if_neg (by omega), if_neg c4, if_neg c11, if_neg (by omega)] at d2
    cases d2
/-- a branch ends -/
theorem px_be (hk : kK w i = kk) (hk40 : kk < 40) (hn : n < 24800) (hI : IL l w M I h k) (h14 : p 14 = nI h) (ho : opw op (kK w k)) (hc : Ch w op k R) (hb : b = true ↔ op = 29) (hL : Lay l w M op k h R n) (hB : kk = 24 → Bg w op k R 6 (i + 1)) (hF : kk = 34 → Fi w op k R i) (e1 : xbe (nI (κ kk)) (nI (kP w i)) (p, W, n, M) = some X') (e2 : (if kk = 24 then some (opens 6 b) else if kk = 34 then some ((0, 0, 0, [], false) : Cs) else none) = some c') : PZ l w X' c' (i + 1) := by
  have k24 : nI (κ kk) = 43 ↔ kk = 24 := kqq kk hk40 (m := 24) (by decide)
  have k34 : nI (κ kk) = 59 ↔ kk = 34 := kqq kk hk40 (m := 34) (by decide)
  unfold xbe at e1
  by_cases c : kk = 24
  · rw [if_pos c] at e2
    rw [if_pos (k24.mpr c)] at e1
    obtain rfl := Option.some.inj e1
    obtain rfl := Option.some.inj e2
    exact PX.br hI h14 ho hc hb hL (hB c) (by omega)
  · rw [if_neg c] at e2
    rw [if_neg (fun z => c (k24.mp z))] at e1
    obtain ⟨d, rfl⟩ := ite_s e2
    rw [if_pos (k34.mpr d)] at e1
    obtain rfl := Option.some.inj e1
    exact PX.fi hI ho hc hL (hF d)
/-- between the rules -/
theorem px_lo {wt : Nat} (hk : kK w i = kk) (hk40 : kk < 40) (hP : Pl w) (hn : n < 24800) (hw : wt < 13) (w0 : wt ≠ 0) (h8 : p 8 = nI wt) (h29 : wt = 1 → ∃ j, j < n ∧ p 14 = nI j ∧ (M j 0 = 29 ↔ b = true)) (hr9 : 13 ≤ c'.1 → X'.1 9 = nI c'.2.1) (hX : PX l w p W n M wt 0 [] b i) (e1 : xtake (nI (κ kk)) (nI (kP w i)) (nI (kE w i - kP w i)) (nv l (l.length - kP w i) (kP w i) 0) (p, W, n, M) = some X') (e2 : cst kk (wt, 0, 0, [], b) = some c') : PZ l w X' c' (i + 1) := by
  unfold PX at hX
  rw [if_neg w0] at hX
  obtain ⟨I, h, op, k, R, hI, h14, ho, hc, hb, hS⟩ := hX
  unfold PS at hS
  rw [if_neg (by omega)] at hS
  have hlt : h < n → (p 14).toNatClampNeg = h := fun z => by rw [h14]; exact nI_clamp (by omega)
  by_cases w1 : wt = 1
  · subst w1
    rw [if_pos rfl] at hS
    obtain ⟨rfl, q2, q3, q4, q5⟩ := hS
    have cl := hlt (by omega)
    have k1 : nI (κ kk) = 261 ↔ kk = 1 := kqq kk hk40 (m := 1) (by decide)
    have d2 : (if kk = 1 then some ((if b then 3 else 2, 0, 0, [], b) : Cs) else none) = some c' := e2
    obtain ⟨c1, rfl⟩ := ite_s d2
    rw [xt_1 h8, if_pos (k1.mpr c1), cl] at e1
    obtain rfl := Option.some.inj e1
    obtain ⟨j, j1, j2, j3⟩ := h29 rfl
    have jh : j = h := (nI_eq (by omega) (by omega)).mp (j2.symm.trans h14)
    subst jh
    subst q5
    have em : ∀ j', j' ≠ j → pat (pat M j 2 (nI (kP w (k + 1)))) j 3 (nI (kE w (k + 1) - kP w (k + 1))) j' = M j' := fun j' z => by rw [pat_o _ _ z, pat_o _ _ z]
    have hp2 : Hp2 w (pat (pat M j 2 (nI (kP w (k + 1)))) j 3 (nI (kE w (k + 1) - kP w (k + 1)))) j op k := by
      refine ⟨⟨?_, ?_, fun z => by omega⟩, fun _ => ⟨?_, ?_⟩⟩
      · rw [pat_c _ _ (by decide), pat_c _ _ (by decide)]; exact q3.1
      · rw [pat_c _ _ (by decide), pat_c _ _ (by decide)]; exact q3.2.1
      · rw [pat_c _ _ (by decide), pat_s]
      · rw [pat_s]
    show PX l w (up p 8 (if M j 0 = 29 then 3 else 2)) W n (pat (pat M j 2 (nI (kP w (k + 1)))) j 3 (nI (kE w (k + 1) - kP w (k + 1)))) (if b then 3 else 2) 0 [] b (k + 1 + 1)
    cases b with
    | false =>
      unfold PX
      rw [if_neg (by decide)]
      refine ⟨I, j, op, k, [], hI.fr (fun j' a => em j' (by omega)), ?_, ho, trivial, hb, ?_⟩
      · exact (up_o _ _ (by decide)).trans h14
      · have n29 : op ≠ 29 := fun z => by have := hb.mpr z; cases this
        unfold PS
        rw [if_neg (by decide), if_neg (by decide), if_pos (by decide)]
        exact ⟨rfl, by omega, hp2, q4, rfl, by rw [hk]; exact c1⟩
    | true =>
      unfold PX
      rw [if_neg (by decide)]
      refine ⟨I, j, op, k, [], hI.fr (fun j' a => em j' (by omega)), ?_, ho, trivial, hb, ?_⟩
      · exact (up_o _ _ (by decide)).trans h14
      · unfold PS
        rw [if_neg (by decide), if_neg (by decide), if_neg (by decide), if_pos (by decide)]
        exact ⟨rfl, hb.mp rfl, hp2, q4, rfl, by rw [hk]; exact c1⟩
  rw [if_neg w1] at hS
  by_cases w2 : wt = 2
  · subst w2
    rw [if_pos rfl] at hS
    obtain ⟨rfl, q2, q3, q4, q5, q6⟩ := hS
    have kx : nI (κ kk) = 61 ↔ kk = 23 := kqq kk hk40 (m := 23) (by decide)
    have d2 : (if kk = 23 then some (opens 0 b) else none) = some c' := e2
    obtain ⟨c1, rfl⟩ := ite_s d2
    rw [xt_2 h8, if_pos (kx.mpr c1)] at e1
    obtain rfl := Option.some.inj e1
    refine PX.ru (r := 0) (n1 := n) hI h14 ho hc hb ⟨⟨q3, fun z => by omega⟩, q4⟩ ?_ ⟨fun z => by omega, fun z => by omega⟩ (fun z => by omega) rfl (by omega)
    have o2 : op = 27 ∨ op = 28 := by clear h29 hr9; unfold opw at ho; omega
    exact Or.inl ⟨rfl, o2, rfl, by omega, q6, by rw [← q5, hk]; exact c1⟩
  rw [if_neg w2] at hS
  by_cases w3 : wt = 3
  · subst w3
    rw [if_pos rfl] at hS
    obtain ⟨rfl, q2, q3, q4, q5, q6⟩ := hS
    have kx : nI (κ kk) = 58 ↔ kk = 33 := kqq kk hk40 (m := 33) (by decide)
    have d2 : (if kk = 33 then some ((4, 0, 0, [], b) : Cs) else none) = some c' := e2
    obtain ⟨c1, rfl⟩ := ite_s d2
    rw [xt_3 h8, if_pos (kx.mpr c1)] at e1
    obtain rfl := Option.some.inj e1
    show PX l w (up p 8 4) W n M 4 0 [] b (i + 1)
    unfold PX
    rw [if_neg (by decide)]
    refine ⟨I, h, op, k, [], hI, (up_o _ _ (by decide)).trans h14, ho, trivial, hb, ?_⟩
    unfold PS
    rw [if_neg (by decide), if_neg (by decide), if_neg (by decide), if_neg (by decide), if_pos rfl]
    exact ⟨rfl, q2, q3, q4, by omega, q6, by rw [← q5, hk]; exact c1⟩
  rw [if_neg w3] at hS
  by_cases w4 : wt = 4
  · subst w4
    rw [if_pos rfl] at hS
    obtain ⟨rfl, q2, q3, q4, q5, q6, q7⟩ := hS
    have cl := hlt (by omega)
    have kx : nI (κ kk) = 302 ↔ kk = 5 := kqq kk hk40 (m := 5) (by decide)
    have d2 : (if kk = 5 then some ((5, 0, 0, [], b) : Cs) else cOpd kk 1 0 [] b) = some c' := e2
    have hp : ∀ v : Int32, (v = if kK w (k + 3) = 5 then 2 else 1) → Hn w (pat M h 4 v) h op k := by
      intro v hv
      refine ⟨⟨⟨?_, ?_, fun z => by omega⟩, fun z => ⟨?_, ?_⟩⟩, fun _ => ?_⟩
      · rw [pat_c _ _ (by decide)]; exact q3.1.1
      · rw [pat_c _ _ (by decide)]; exact q3.1.2.1
      · rw [pat_c _ _ (by decide)]; exact (q3.2 z).1
      · rw [pat_c _ _ (by decide)]; exact (q3.2 z).2
      · rw [pat_s]; exact hv
    have hI' : ∀ v : Int32, IL l w (pat M h 4 v) I h k := fun v => hI.fr (fun j a => pat_o _ _ (by omega))
    rw [xt_4 h8, cl] at e1
    by_cases c5 : kk = 5
    · rw [if_pos c5] at d2
      rw [if_pos (kx.mpr c5)] at e1
      obtain rfl := Option.some.inj e1
      obtain rfl := Option.some.inj d2
      show PX l w (up p 8 5) W n (pat M h 4 2) 5 0 [] b (i + 1)
      unfold PX
      rw [if_neg (by decide)]
      refine ⟨I, h, op, k, [], hI' 2, (up_o _ _ (by decide)).trans h14, ho, trivial, hb, ?_⟩
      unfold PS
      rw [if_neg (by decide), if_neg (by decide), if_neg (by decide), if_neg (by decide), if_neg (by decide), if_pos rfl]
      have k5 : kK w (k + 3) = 5 := by rw [← q5, hk]; exact c5
      exact ⟨⟨hp 2 (by rw [if_pos k5]), q4⟩, rfl, q2, by omega, q6, q7, k5⟩
    · rw [if_neg c5] at d2
      rw [if_neg (fun z => c5 (kx.mp z))] at e1
      have k5 : kK w (k + 3) ≠ 5 := by rw [← q5, hk]; exact c5
      obtain ⟨g1, g2, g3⟩ := gR_opd (r := 1) (v := 0) (b := b) hk hP (GR.new (r := 1) (by omega)) hn e1 d2
      obtain ⟨b1, b2, b3⟩ := cOpd_b d2
      have pk := xopd_p e1
      obtain ⟨p', W', n', M'⟩ := X'
      obtain ⟨wt', r', v', s', b'⟩ := c'
      have b1 : b' = b := b1
      have b3 : r' = 1 := b3
      subst b1 b3
      refine PX.go (p := p) (M := pat M h 4 1) (n1 := n) (a0 := i) (R := []) (hI' 1) h14 ho trivial hb ⟨hp 1 (by rw [if_neg k5]), q4⟩ (Or.inr (Or.inl ⟨rfl, q2, rfl, q5, q6, q7, k5⟩)) ⟨fun z => by omega, fun z => by omega⟩ (fun z => by omega) b2 ?_ (fun j hj => ?_) g2 g1
      · exact hr9 b2
      · exact (pk j hj).trans (xo_p _ hj)
  rw [if_neg w4] at hS
  by_cases w5 : wt = 5
  · subst w5
    rw [if_pos rfl] at hS
    obtain ⟨qL, rfl, q2, q5, q6, q7, q8⟩ := hS
    have kx : nI (κ kk) = 306 ↔ kk = 9 := kqq kk hk40 (m := 9) (by decide)
    have ky : nI (κ kk) = 59 ↔ kk = 34 := kqq kk hk40 (m := 34) (by decide)
    have d2 : (if kk = 9 then some (opens 3 b) else if kk = 34 then some ((0, 0, 0, [], false) : Cs) else none) = some c' := e2
    rw [xt_5 h8] at e1
    by_cases c9 : kk = 9
    · rw [if_pos c9] at d2
      rw [if_pos (kx.mpr c9)] at e1
      obtain rfl := Option.some.inj e1
      obtain rfl := Option.some.inj d2
      refine PX.ru (r := 3) (n1 := n) hI h14 ho hc hb qL ?_ ⟨fun z => by omega, fun z => by omega⟩ (fun z => by omega) rfl (by omega)
      exact Or.inr (Or.inr (Or.inl ⟨rfl, q2, rfl, by omega, q6, q7, q8, by rw [← q5, hk]; exact c9⟩))
    · rw [if_neg c9] at d2
      rw [if_neg (fun z => c9 (kx.mp z))] at e1
      obtain ⟨d, rfl⟩ := ite_s d2
      rw [if_pos (ky.mpr d)] at e1
      obtain rfl := Option.some.inj e1
      exact PX.fi hI ho hc qL ⟨by rw [hk]; exact d, Or.inl ⟨rfl, q2, q6, q7, q8, q5⟩⟩
  rw [if_neg w5] at hS
  have low : ∀ (wt' : Nat) (q : Nat → Int32) (n' : Nat) (M' : Nat → Nat → Int32) (i' : Nat), wt' ≠ 0 → (∀ j, j < h → M' j = M j) → q 14 = p 14 → PS l w q W n' M' wt' 0 [] h op k R i' → PX l w q W n' M' wt' 0 [] b i' := by
    intro wt' q n' M' i' z1 z2 z3 z4
    unfold PX
    rw [if_neg z1]
    exact ⟨I, h, op, k, R, hI.fr z2, z3.trans h14, ho, hc, hb, z4⟩
  have set : Lay l w M op k h R n → So w R i → kk = 36 → PZ l w (xset (nI (kP w i)) (p, W, n, M)) (9, 0, 0, [], b) (i + 1) := by
    intro qL z1 z2
    show PX l w (up (up p 16 (nI (kP w i))) 8 9) W n M 9 0 [] b (i + 1)
    refine low 9 _ n M (i + 1) (by decide) (fun _ _ => rfl) rfl ?_
    unfold PS
    rw [if_neg (by decide), if_neg (by decide), if_neg (by decide), if_neg (by decide), if_neg (by decide), if_neg (by decide), if_neg (by decide), if_neg (by decide), if_neg (by decide), if_pos rfl]
    exact ⟨qL, i, z1, by rw [hk]; exact z2, rfl, rfl⟩
  by_cases w6 : wt = 6
  · subst w6
    rw [if_pos rfl] at hS
    obtain ⟨qL, T, R1, rfl, q2, q3⟩ := hS
    have kx : nI (κ kk) = 307 ↔ kk = 10 := kqq kk hk40 (m := 10) (by decide)
    have ky : nI (κ kk) = 40 ↔ kk = 36 := kqq kk hk40 (m := 36) (by decide)
    have d2 : (if kk = 10 then some ((7, 0, 0, [], b) : Cs) else if kk = 36 then some ((9, 0, 0, [], b) : Cs) else none) = some c' := e2
    rw [xt_6 h8] at e1
    by_cases c9 : kk = 10
    · rw [if_pos c9] at d2
      rw [if_pos (kx.mpr c9)] at e1
      obtain rfl := Option.some.inj e1
      obtain rfl := Option.some.inj d2
      show PX l w (up p 8 7) W n M 7 0 [] b (i + 1)
      refine low 7 _ n M (i + 1) (by decide) (fun _ _ => rfl) rfl ?_
      unfold PS
      rw [if_neg (by decide), if_neg (by decide), if_neg (by decide), if_neg (by decide), if_neg (by decide), if_neg (by decide), if_neg (by decide), if_pos rfl]
      exact ⟨qL, T, R1, rfl, q2, by rw [← q3, hk]; exact c9, by omega⟩
    · rw [if_neg c9] at d2
      rw [if_neg (fun z => c9 (kx.mp z))] at e1
      obtain ⟨d, rfl⟩ := ite_s d2
      rw [if_pos (ky.mpr d)] at e1
      obtain rfl := Option.some.inj e1
      exact set qL (Or.inl ⟨rfl, q2, q3⟩) d
  rw [if_neg w6] at hS
  by_cases w7 : wt = 7
  · subst w7
    rw [if_pos rfl] at hS
    obtain ⟨qL, T, R1, rfl, q2, q3, q4⟩ := hS
    have d2 : (if kk = 24 then some (opens 6 b) else if kk = 34 then some ((0, 0, 0, [], false) : Cs) else none) = some c' := e2
    rw [xt_7 h8] at e1
    refine px_be hk hk40 hn hI h14 ho hc hb qL (fun z => ?_) (fun z => ?_) e1 d2
    · exact Or.inr (Or.inr (Or.inr (Or.inr (Or.inr (Or.inr (Or.inr (Or.inr (Or.inl ⟨T, R1, rfl, rfl, q2, q3, by rw [← q4, hk]; exact z, by omega⟩))))))))
    · exact ⟨by rw [hk]; exact z, Or.inr ⟨6, T, R1, rfl, Or.inr (Or.inl ⟨rfl, q2, q3, q4⟩)⟩⟩
  rw [if_neg w7] at hS
  by_cases w8 : wt = 8
  · subst w8
    rw [if_pos rfl] at hS
    obtain ⟨qL, q2⟩ := hS
    have ky : nI (κ kk) = 40 ↔ kk = 36 := kqq kk hk40 (m := 36) (by decide)
    have d2 : (if kk = 36 then some ((9, 0, 0, [], b) : Cs) else none) = some c' := e2
    rw [xt_8 h8] at e1
    obtain ⟨d, rfl⟩ := ite_s d2
    rw [if_pos (ky.mpr d)] at e1
    obtain rfl := Option.some.inj e1
    exact set qL q2 d
  rw [if_neg w8] at hS
  by_cases w9 : wt = 9
  · subst w9
    rw [if_pos rfl] at hS
    obtain ⟨qL, j0, q2, q3, q4, q5⟩ := hS
    have hl := qL.le
    have ky : nI (κ kk) = 261 ↔ kk = 1 := kqq kk hk40 (m := 1) (by decide)
    have d2 : (if kk = 1 then some ((10, 0, 0, [], b) : Cs) else none) = some c' := e2
    rw [xt_9 h8] at e1
    obtain ⟨d, rfl⟩ := ite_s d2
    rw [if_pos (ky.mpr d)] at e1
    obtain rfl := Option.some.inj e1
    show PX l w (up p 8 10) W (n + 1) (ndd M n (nv8 33 (p 16) (nI (kP w i)) (nI (kE w i - kP w i)) (-1))) 10 0 [] b (i + 1)
    refine low 10 _ (n + 1) _ (i + 1) (by decide) (fun j a => ndd_o M _ (n := n) (by omega)) rfl ?_
    unfold PS
    rw [if_neg (by decide), if_neg (by decide), if_neg (by decide), if_neg (by decide), if_neg (by decide), if_neg (by decide), if_neg (by decide), if_neg (by decide), if_neg (by decide), if_neg (by decide), if_pos rfl]
    refine ⟨n, j0, qL.fr (fun j _ a => ndd_o M _ (n := n) (by omega)), rfl, q2, q3, by rw [← q5, hk]; exact d, ⟨fun z => absurd z (by decide), fun _ => ?_⟩, by omega⟩
    rw [ndd_s, q4, q5]
    exact ⟨rfl, rfl, rfl, rfl, rfl⟩
  rw [if_neg w9] at hS
  by_cases w10 : wt = 10
  · subst w10
    rw [if_pos rfl] at hS
    obtain ⟨n1, j0, qL, q1, q2, q3, q4, q5, q6⟩ := hS
    have ky : nI (κ kk) = 39 ↔ kk = 38 := kqq kk hk40 (m := 38) (by decide)
    have d2 : (if kk = 38 then some ((11, 0, 0, [], b) : Cs) else none) = some c' := e2
    rw [xt_10 h8] at e1
    obtain ⟨d, rfl⟩ := ite_s d2
    rw [if_pos (ky.mpr d)] at e1
    obtain rfl := Option.some.inj e1
    show PX l w (up p 8 11) W n M 11 0 [] b (i + 1)
    refine low 11 _ n M (i + 1) (by decide) (fun _ _ => rfl) rfl ?_
    unfold PS
    rw [if_neg (by decide), if_neg (by decide), if_neg (by decide), if_neg (by decide), if_neg (by decide), if_neg (by decide), if_neg (by decide), if_neg (by decide), if_neg (by decide), if_neg (by decide), if_neg (by decide), if_pos rfl]
    exact ⟨n1, j0, qL, q1, q2, q3, q4, by rw [← q6, hk]; exact d, q5, by omega⟩
  rw [if_neg w10] at hS
  by_cases w11 : wt = 11
  · subst w11
    rw [if_pos rfl] at hS
    obtain ⟨n1, j0, qL, q1, q2, q3, q4, q7, q5, q6⟩ := hS
    have ky : nI (κ kk) = 61 ↔ kk = 23 := kqq kk hk40 (m := 23) (by decide)
    have d2 : (if kk = 23 then some (opens 7 b) else none) = some c' := e2
    rw [xt_11 h8] at e1
    obtain ⟨d, rfl⟩ := ite_s d2
    rw [if_pos (ky.mpr d)] at e1
    obtain rfl := Option.some.inj e1
    refine PX.ru (r := 7) (n1 := n1) hI h14 ho hc hb qL ?_ ?_ (fun z => absurd z (by decide)) q1 (by omega)
    · exact Or.inr (Or.inr (Or.inr (Or.inr (Or.inr (Or.inr (Or.inr (Or.inr (Or.inr (Or.inr ⟨rfl, j0, q2, q3, q4, q7, by rw [← q6, hk]; exact d, by omega⟩)))))))))
    · rw [q6]; exact q5
  rw [if_neg w11] at hS
  have w12 : wt = 12 := by clear hS h29 hr9; omega
  subst w12
  obtain ⟨qL, T, R1, rfl, q2, q3⟩ := hS
  have ky : nI (κ kk) = 38 ↔ kk = 29 := kqq kk hk40 (m := 29) (by decide)
  have d2 : (if 12 = 12 ∧ kk = 29 then some ((8, 0, 0, [], b) : Cs) else if kk = 24 then some (opens 6 b) else if kk = 34 then some ((0, 0, 0, [], false) : Cs) else none) = some c' := e2
  rw [xt_12 h8] at e1
  by_cases c29 : kk = 29
  · rw [if_pos ⟨rfl, c29⟩] at d2
    rw [if_pos (ky.mpr c29)] at e1
    obtain rfl := Option.some.inj e1
    obtain rfl := Option.some.inj d2
    show PX l w (up p 8 8) W n M 8 0 [] b (i + 1)
    refine low 8 _ n M (i + 1) (by decide) (fun _ _ => rfl) rfl ?_
    unfold PS
    rw [if_neg (by decide), if_neg (by decide), if_neg (by decide), if_neg (by decide), if_neg (by decide), if_neg (by decide), if_neg (by decide), if_neg (by decide), if_pos rfl]
    exact ⟨qL, Or.inr ⟨rfl, q2, by rw [← q3, hk]; exact c29, by omega⟩⟩
  · rw [if_neg (fun z => c29 z.2)] at d2
    rw [if_neg (fun z => c29 (ky.mp z))] at e1
    refine px_be hk hk40 hn hI h14 ho hc hb qL (fun z => ?_) (fun z => ?_) e1 d2
    · exact Or.inr (Or.inr (Or.inr (Or.inr (Or.inr (Or.inr (Or.inr (Or.inr (Or.inr (Or.inl ⟨T, R1, rfl, rfl, q2, by rw [← q3, hk]; exact z, by omega⟩)))))))))
    · exact ⟨by rw [hk]; exact z, Or.inr ⟨7, T, R1, rfl, Or.inr (Or.inr ⟨rfl, q2, q3⟩)⟩⟩
end QS
