/-! a word on both sides of the class: all -/
section SV
variable {p : Nat → Int32} {W : List (Nat → Int32)} {n i r v : Nat} {M : Nat → Nat → Int32} {s : List Nat} {b : Bool} {st sz vl : Int32}
theorem Bo.ite {c d : Prop} [Decidable c] [Decidable d] {x x' : Option Xs} {y y' : Option Cs} (hcd : c ↔ d) (h : Bo x y i) (h' : Bo x' y' i) : Bo (if c then x else x') (if d then y else y') i := by
  by_cases e : d
  · rw [if_pos (hcd.mpr e), if_pos e]; exact h
  · rw [if_neg (fun z => e (hcd.mp z)), if_neg e]; exact h'
theorem Bo.no : Bo none none i := trivial
theorem st_item {k : Nat} (hk : k < 40) (hc : 2 * n ≤ 3 * i) : Bo (xitem (nI (κ k)) st (p, W, n, M)) (cst k (0, 0, 0, [], b)) (i + 1) := by
  have hd : ∀ op pl : Int32, ∀ b' : Bool, (op = 29 ↔ b' = true) → Bo (some (xhead op pl st (p, W, n, M))) (some ((1, 0, 0, [], b') : Cs)) (i + 1) := fun op pl b' hb => by
    refine RX.lo (w := 1) (b := b') rfl (by decide) (by show 2 * (n + 1) ≤ _; omega) fun _ => ⟨n, Nat.lt_succ_self n, rfl, fun _ => ?_⟩
    show ndd M n (nv8 op st pl (-1) (-1)) n 0 = 29 ↔ b' = true
    unfold ndd
    rw [if_pos rfl]
    exact hb
  have ho : ∀ op pl : Int32, ∀ r, r < 8 → r ≠ 6 → Bo (some (xopen (nI r) (xhead op pl st (p, W, n, M)))) (some (opens r false)) (i + 1) := fun op pl r hr h6 =>
    RX.op hr (fun z => absurd z h6) (by show 2 * (n + 1) ≤ _; omega) ⟨n, Nat.lt_succ_self n, rfl⟩
  have k3 : nI (κ k) = 300 ↔ k = 3 := kqq k hk (m := 3) (by decide)
  have k4 : nI (κ k) = 301 ↔ k = 4 := kqq k hk (m := 4) (by decide)
  have k6 : nI (κ k) = 303 ↔ k = 6 := kqq k hk (m := 6) (by decide)
  have k7 : nI (κ k) = 304 ↔ k = 7 := kqq k hk (m := 7) (by decide)
  have k8 : nI (κ k) = 305 ↔ k = 8 := kqq k hk (m := 8) (by decide)
  have k11 : nI (κ k) = 308 ↔ k = 11 := kqq k hk (m := 11) (by decide)
  have ec : cst k (0, 0, 0, [], b) = (if k = 3 ∨ k = 6 then some (1, 0, 0, [], false) else if k = 4 then some (1, 0, 0, [], true) else if k = 11 then some (opens 4 false) else if k = 7 ∨ k = 8 then some (opens 5 false) else none) := rfl
  rw [ec]
  unfold xitem
  by_cases c3 : k = 3
  · rw [if_pos (k3.mpr c3), if_pos (Or.inl c3)]; exact hd 27 0 false (by decide)
  by_cases c4 : k = 4
  · rw [if_neg (fun z => c3 (k3.mp z)), if_pos (k4.mpr c4), if_neg (c := k = 3 ∨ k = 6) (by omega), if_pos c4]; exact hd 29 0 true (by decide)
  by_cases c6 : k = 6
  · rw [if_neg (fun z => c3 (k3.mp z)), if_neg (fun z => c4 (k4.mp z)), if_pos (k6.mpr c6), if_pos (Or.inr c6)]; exact hd 28 0 false (by decide)
  rw [if_neg (fun z => c3 (k3.mp z)), if_neg (fun z => c4 (k4.mp z)), if_neg (fun z => c6 (k6.mp z)), if_neg (c := k = 3 ∨ k = 6) (by omega), if_neg c4]
  by_cases c7 : k = 7
  · rw [if_pos (k7.mpr c7), if_neg (c := k = 11) (by omega), if_pos (Or.inl c7)]; exact ho 31 1 5 (by decide) (by decide)
  by_cases c8 : k = 8
  · rw [if_neg (fun z => c7 (k7.mp z)), if_pos (k8.mpr c8), if_neg (c := k = 11) (by omega), if_pos (Or.inr c8)]; exact ho 31 2 5 (by decide) (by decide)
  rw [if_neg (fun z => c7 (k7.mp z)), if_neg (fun z => c8 (k8.mp z))]
  by_cases c11 : k = 11
  · rw [if_pos (k11.mpr c11), if_pos c11]; exact ho 30 0 4 (by decide) (by decide)
  · rw [if_neg (fun z => c11 (k11.mp z)), if_neg c11, if_neg (c := k = 7 ∨ k = 8) (by omega)]; trivial
theorem st_be {k : Nat} (hk : k < 40) (hc : 2 * n ≤ 3 * i) (hd : Hd p n) : Bo (xbe (nI (κ k)) st (p, W, n, M)) (if k = 24 then some (opens 6 b) else if k = 34 then some (0, 0, 0, [], false) else none) (i + 1) := by
  have k24 : nI (κ k) = 43 ↔ k = 24 := kqq k hk (m := 24) (by decide)
  have k34 : nI (κ k) = 59 ↔ k = 34 := kqq k hk (m := 34) (by decide)
  refine Bo.ite k24 ?_ (Bo.ite k34 ?_ trivial)
  · exact RX.op (r := 6) (n := n + 1) (p := up p 15 (nI n)) (by decide) (fun _ => ⟨n, Nat.lt_succ_self _, rfl⟩) (by omega) (Hd.mo hd)
  · exact RX.lo (b := false) rfl (by decide) (by show 2 * (n + 1) ≤ _; omega) (fun z => absurd rfl z)
theorem xt_lo {w : Nat} {K : Int32} (h8 : p 8 = nI w) (hw : w < 14) (h0 : w ≠ 0) : xtake K st sz vl (p, W, n, M) = if 5 < w then xbra K st sz (p, W, n, M) else xdef K st sz vl (p, W, n, M) := by
  show (if p 8 = 15 then _ else if p 8 = 14 then _ else if p 8 = 0 then _ else if 5 < p 8 then _ else _) = _
  rw [h8, if_neg (c := nI w = 15) (nik (m := 15) (by omega) (by decide) (by omega)), if_neg (c := nI w = 14) (nik (m := 14) (by omega) (by decide) (by omega)), if_neg (c := nI w = 0) (nik (m := 0) (by omega) (by decide) h0)]
  have q : 5 < nI w ↔ 5 < w := nI_lti (a := 5) (by decide) (by omega)
  by_cases c : 5 < w
  · rw [if_pos c, if_pos (q.mpr c)]
  · rw [if_neg c, if_neg (fun z => c (q.mp z))]
theorem st_low {k w : Nat} (hk : k < 40) (hw : w < 13) (h8 : p 8 = nI w) (hc : 2 * n ≤ 3 * i) (hd : w ≠ 0 → ∃ j, j < n ∧ p 14 = nI j ∧ (w = 1 → (M j 0 = 29 ↔ b = true))) (hn : n < 40000) : Bo (xtake (nI (κ k)) st sz vl (p, W, n, M)) (cst k (w, 0, 0, [], b)) (i + 1) := by
  by_cases w0 : w = 0
  · subst w0
    have e : xtake (nI (κ k)) st sz vl (p, W, n, M) = xitem (nI (κ k)) st (p, W, n, M) := by
      show (if p 8 = 15 then _ else if p 8 = 14 then _ else if p 8 = 0 then _ else _) = _
      rw [h8]
      rfl
    rw [e]
    exact st_item hk hc
  obtain ⟨j, j1, j2, j3⟩ := hd w0
  have hD : Hd p n := ⟨j, j1, j2⟩
  have cl : (p 14).toNatClampNeg = j := by rw [j2]; exact nI_clamp (by omega)
  rw [xt_lo h8 (by omega) w0]
  have lo : ∀ (w' : Nat) (q : Nat → Int32) (M' : Nat → Nat → Int32), w' < 13 → w' ≠ 1 → q 8 = nI w' → q 14 = p 14 → Bo (some (q, W, n, M')) (some ((w', 0, 0, [], b) : Cs)) (i + 1) := fun w' q M' h1 h2 h3 h4 => RX.l2 h3 h1 h2 (by show 2 * n ≤ _; omega) ⟨j, j1, h4.trans j2⟩
  have op : ∀ r (q : Nat → Int32) (M' : Nat → Nat → Int32), r < 8 → r ≠ 6 → q 14 = p 14 → Bo (some (xopen (nI r) (q, W, n, M'))) (some (opens r b)) (i + 1) := fun r q M' h1 h2 h3 => RX.op h1 (fun z => absurd z h2) (by omega) ⟨j, j1, h3.trans j2⟩
  have fin : Bo (some (xfin st (p, W, n, M))) (some ((0, 0, 0, [], false) : Cs)) (i + 1) := RX.lo (b := false) rfl (by decide) (by show 2 * (n + 1) ≤ _; omega) (fun z => absurd rfl z)
  have set : Bo (some (xset st (p, W, n, M))) (some ((9, 0, 0, [], b) : Cs)) (i + 1) := lo 9 (up (up p 16 st) 8 9) M (by decide) (by decide) rfl rfl
  by_cases w1 : w = 1
  · subst w1
    have k1 : nI (κ k) = 261 ↔ k = 1 := kqq k hk (m := 1) (by decide)
    have e : xdef (nI (κ k)) st sz vl (p, W, n, M) = if nI (κ k) = 261 then some (xw (if M (p 14).toNatClampNeg 0 = 29 then 3 else 2) (p, W, n, pat (pat M (p 14).toNatClampNeg 2 st) (p 14).toNatClampNeg 3 sz)) else none := by
      unfold xdef
      dsimp only
      rw [if_pos (show p 8 = 1 from h8)]
    rw [if_neg (by decide), e, cl]
    refine Bo.ite (d := k = 1) k1 ?_ trivial
    have j3 := j3 rfl
    cases b with
    | false =>
      rw [if_neg (fun z => by cases j3.mp z)]
      exact RX.l2 (w := 2) rfl (by decide) (by decide) (by show 2 * n ≤ _; omega) hD
    | true =>
      rw [if_pos (j3.mpr rfl)]
      exact RX.l2 (w := 3) rfl (by decide) (by decide) (by show 2 * n ≤ _; omega) hD
  by_cases w2 : w = 2
  · subst w2
    have e : xdef (nI (κ k)) st sz vl (p, W, n, M) = if nI (κ k) = 61 then some (xopen 0 (p, W, n, M)) else none := by
      unfold xdef
      dsimp only
      rw [if_neg (show ¬ p 8 = 1 by rw [h8]; decide), if_pos (show p 8 = 2 from h8)]
    rw [if_neg (by decide), e]
    exact Bo.ite (d := k = 23) (kqq k hk (m := 23) (by decide)) (op 0 p M (by decide) (by decide) rfl) trivial
  by_cases w3 : w = 3
  · subst w3
    have e : xdef (nI (κ k)) st sz vl (p, W, n, M) = if nI (κ k) = 58 then some (xw 4 (p, W, n, M)) else none := by
      unfold xdef
      dsimp only
      rw [if_neg (show ¬ p 8 = 1 by rw [h8]; decide), if_neg (show ¬ p 8 = 2 by rw [h8]; decide), if_pos (show p 8 = 3 from h8)]
    rw [if_neg (by decide), e]
    exact Bo.ite (d := k = 33) (kqq k hk (m := 33) (by decide)) (lo 4 (up p 8 4) M (by decide) (by decide) rfl rfl) trivial
  by_cases w4 : w = 4
  · subst w4
    have e : xdef (nI (κ k)) st sz vl (p, W, n, M) = if nI (κ k) = 302 then some (xw 5 (p, W, n, pat M (p 14).toNatClampNeg 4 2)) else xopd (nI (κ k)) st sz vl (xopen 1 (p, W, n, pat M (p 14).toNatClampNeg 4 1)) := by
      unfold xdef
      dsimp only
      rw [if_neg (show ¬ p 8 = 1 by rw [h8]; decide), if_neg (show ¬ p 8 = 2 by rw [h8]; decide), if_neg (show ¬ p 8 = 3 by rw [h8]; decide), if_pos (show p 8 = 4 from h8)]
    rw [if_neg (by decide), e]
    refine Bo.ite (d := k = 5) (kqq k hk (m := 5) (by decide)) (lo 5 (up p 8 5) _ (by decide) (by decide) rfl rfl) ?_
    exact st_opd (W := []) (s := []) (r := 1) (v := 0) hk rfl rfl ⟨rfl, rfl, fun e he => nomatch he⟩ (fun z => absurd z (by decide)) (by show 2 * n + 0 ≤ _; omega) hD (by decide) (Nat.zero_le _)
  by_cases w5 : w = 5
  · subst w5
    have e : xdef (nI (κ k)) st sz vl (p, W, n, M) = if nI (κ k) = 306 then some (xopen 3 (p, W, n, M)) else if nI (κ k) = 59 then some (xfin st (p, W, n, M)) else none := by
      unfold xdef
      dsimp only
      rw [if_neg (show ¬ p 8 = 1 by rw [h8]; decide), if_neg (show ¬ p 8 = 2 by rw [h8]; decide), if_neg (show ¬ p 8 = 3 by rw [h8]; decide), if_neg (show ¬ p 8 = 4 by rw [h8]; decide), if_pos (show p 8 = 5 from h8)]
    rw [if_neg (by decide), e]
    exact Bo.ite (d := k = 9) (kqq k hk (m := 9) (by decide)) (op 3 p M (by decide) (by decide) rfl) (Bo.ite (d := k = 34) (kqq k hk (m := 34) (by decide)) fin trivial)
  rw [if_pos (by omega)]
  by_cases w6 : w = 6
  · subst w6
    have e : xbra (nI (κ k)) st sz (p, W, n, M) = if nI (κ k) = 307 then some (xw 7 (p, W, n, M)) else if nI (κ k) = 40 then some (xset st (p, W, n, M)) else none := by
      unfold xbra
      dsimp only
      rw [if_pos (show p 8 = 6 from h8)]
    rw [e]
    exact Bo.ite (d := k = 10) (kqq k hk (m := 10) (by decide)) (lo 7 (up p 8 7) M (by decide) (by decide) rfl rfl) (Bo.ite (d := k = 36) (kqq k hk (m := 36) (by decide)) set trivial)
  by_cases w7 : w = 7
  · subst w7
    have e : xbra (nI (κ k)) st sz (p, W, n, M) = xbe (nI (κ k)) st (p, W, n, M) := by
      unfold xbra
      dsimp only
      rw [if_neg (show ¬ p 8 = 6 by rw [h8]; decide), if_pos (show p 8 = 7 from h8)]
    rw [e]
    exact st_be hk hc hD
  by_cases w8 : w = 8
  · subst w8
    have e : xbra (nI (κ k)) st sz (p, W, n, M) = if nI (κ k) = 40 then some (xset st (p, W, n, M)) else none := by
      unfold xbra
      dsimp only
      rw [if_neg (show ¬ p 8 = 6 by rw [h8]; decide), if_neg (show ¬ p 8 = 7 by rw [h8]; decide), if_pos (show p 8 = 8 from h8)]
    rw [e]
    exact Bo.ite (d := k = 36) (kqq k hk (m := 36) (by decide)) set trivial
  by_cases w9 : w = 9
  · subst w9
    have e : xbra (nI (κ k)) st sz (p, W, n, M) = if nI (κ k) = 261 then some (xw 10 (xem 33 (p 16) st sz (-1) (p, W, n, M))) else none := by
      unfold xbra
      dsimp only
      rw [if_neg (show ¬ p 8 = 6 by rw [h8]; decide), if_neg (show ¬ p 8 = 7 by rw [h8]; decide), if_neg (show ¬ p 8 = 8 by rw [h8]; decide), if_pos (show p 8 = 9 from h8)]
    rw [e]
    exact Bo.ite (d := k = 1) (kqq k hk (m := 1) (by decide)) (RX.l2 (w := 10) rfl (by decide) (by decide) (by show 2 * (n + 1) ≤ _; omega) (Hd.mo hD)) trivial
  by_cases w10 : w = 10
  · subst w10
    have e : xbra (nI (κ k)) st sz (p, W, n, M) = if nI (κ k) = 39 then some (xw 11 (p, W, n, M)) else none := by
      unfold xbra
      dsimp only
      rw [if_neg (show ¬ p 8 = 6 by rw [h8]; decide), if_neg (show ¬ p 8 = 7 by rw [h8]; decide), if_neg (show ¬ p 8 = 8 by rw [h8]; decide), if_neg (show ¬ p 8 = 9 by rw [h8]; decide), if_pos (show p 8 = 10 from h8)]
    rw [e]
    exact Bo.ite (d := k = 38) (kqq k hk (m := 38) (by decide)) (lo 11 (up p 8 11) M (by decide) (by decide) rfl rfl) trivial
  by_cases w11 : w = 11
  · subst w11
    have e : xbra (nI (κ k)) st sz (p, W, n, M) = if nI (κ k) = 61 then some (xopen 7 (p, W, n, M)) else none := by
      unfold xbra
      dsimp only
      rw [if_neg (show ¬ p 8 = 6 by rw [h8]; decide), if_neg (show ¬ p 8 = 7 by rw [h8]; decide), if_neg (show ¬ p 8 = 8 by rw [h8]; decide), if_neg (show ¬ p 8 = 9 by rw [h8]; decide), if_neg (show ¬ p 8 = 10 by rw [h8]; decide), if_pos (show p 8 = 11 from h8)]
    rw [e]
    exact Bo.ite (d := k = 23) (kqq k hk (m := 23) (by decide)) (op 7 p M (by decide) (by decide) rfl) trivial
  have w12 : w = 12 := by omega
  subst w12
  have e : xbra (nI (κ k)) st sz (p, W, n, M) = if nI (κ k) = 38 then some (xw 8 (p, W, n, M)) else xbe (nI (κ k)) st (p, W, n, M) := by
    unfold xbra
    dsimp only
    rw [if_neg (show ¬ p 8 = 6 by rw [h8]; decide), if_neg (show ¬ p 8 = 7 by rw [h8]; decide), if_neg (show ¬ p 8 = 8 by rw [h8]; decide), if_neg (show ¬ p 8 = 9 by rw [h8]; decide), if_neg (show ¬ p 8 = 10 by rw [h8]; decide), if_neg (show ¬ p 8 = 11 by rw [h8]; decide), if_pos (show p 8 = 12 from h8)]
  have ec : cst k (12, 0, 0, [], b) = if 12 = 12 ∧ k = 29 then some (8, 0, 0, [], b) else if k = 24 then some (opens 6 b) else if k = 34 then some (0, 0, 0, [], false) else none := rfl
  rw [e, ec]
  exact Bo.ite ((kqq k hk (m := 29) (by decide)).trans ⟨fun z => ⟨rfl, z⟩, fun z => z.2⟩) (lo 8 (up p 8 8) M (by decide) (by decide) rfl rfl) (st_be hk hc hD)
theorem n_40 {n i : Nat} (h : 2 * n ≤ 3 * i) (hi : i < 20000) : n < 40000 := by omega
/-- a word is taken, or refused, as the pure state says -/
theorem st_all {k : Nat} {X : Xs} {c : Cs} (hk : k < 40) (h : RX X c i) (ho : okC c = true) (hi : i < 20000) : Bo (xtake (nI (κ k)) st sz vl X) (cst k c) (i + 1) := by
  obtain ⟨p, W, n, M⟩ := X
  obtain ⟨w, r, v, s, b⟩ := c
  obtain ⟨h1, h2, h3, h4⟩ := h
  have h1 : p 8 = nI w := h1
  have h2 : 13 ≤ w → p 9 = nI r ∧ p 12 = nI v ∧ WS W s n ∧ (r = 6 → ∃ j, j < n ∧ p 15 = nI j) ∧ 2 * n + csts s + (if w = 15 then 1 else 0) ≤ 3 * i := h2
  have h3 : w < 13 → 2 * n ≤ 3 * i := h3
  have h4 : w ≠ 0 → ∃ j, j < n ∧ p 14 = nI j ∧ (w = 1 → (M j 0 = 29 ↔ b = true)) := h4
  by_cases c : 13 ≤ w
  · obtain ⟨q1, q2, q3, q4, q5⟩ := h2 c
    obtain ⟨o1, o2, o3, o4, o5, o6, o7⟩ := okC_w ho c
    have hd : Hd p n := by obtain ⟨j, j1, j2, -⟩ := h4 (by omega); exact ⟨j, j1, j2⟩
    by_cases c15 : w = 15
    · subst c15
      have e : xtake (nI (κ k)) st sz vl (p, W, n, M) = xopr (nI (κ k)) st (p, W, n, M) := if_pos h1
      rw [e]
      rw [if_pos rfl] at q5
      exact st_opr hk ⟨h1, q1, q2, q3, q4, q5, hd, o4 (by decide), o2, o5⟩ o6
    by_cases c14 : w = 14
    · subst c14
      have e : xtake (nI (κ k)) st sz vl (p, W, n, M) = xopd (nI (κ k)) st sz vl (p, W, n, M) := by
        show (if p 8 = 15 then _ else if p 8 = 14 then _ else _) = _
        rw [h1]
        rfl
      rw [e]
      rw [if_neg (by decide)] at q5
      exact st_opd hk q1 q2 q3 q4 q5 hd o2 o5
    have c13 : w = 13 := by omega
    subst c13
    rw [if_neg (by decide)] at q5
    have e : xtake (nI (κ k)) st sz vl (p, W, n, M) = if nI (κ k) = 40 then (xdeep (p, W, n, M)).bind fun Y => some (xw 14 Y) else none := by
      rw [xt_lo h1 (by decide) (by decide), if_pos (by decide)]
      unfold xbra
      dsimp only
      rw [if_neg (show ¬ p 8 = 6 by rw [h1]; decide), if_neg (show ¬ p 8 = 7 by rw [h1]; decide), if_neg (show ¬ p 8 = 8 by rw [h1]; decide), if_neg (show ¬ p 8 = 9 by rw [h1]; decide), if_neg (show ¬ p 8 = 10 by rw [h1]; decide), if_neg (show ¬ p 8 = 11 by rw [h1]; decide), if_neg (show ¬ p 8 = 12 by rw [h1]; decide), if_pos (show p 8 = 13 from h1)]
    have ec : cst k (13, r, v, s, b) = if k = 36 ∧ v < 40 then some (14, r, v + 1, s, b) else none := rfl
    have k36 : nI (κ k) = 40 ↔ k = 36 := kqq k hk (m := 36) (by decide)
    rw [e, ec, dp_40 q2 o2]
    by_cases d : k = 36
    · rw [if_pos (k36.mpr d)]
      by_cases d2 : v < 40
      · rw [if_pos d2, if_pos ⟨d, d2⟩, ob_some]
        exact RX.i13 rfl (by decide) q1 rfl q3 q4 (by rw [if_neg (by decide)]; omega) hd
      · rw [if_neg d2, if_neg (fun z => d2 z.2)]; trivial
    · rw [if_neg (fun z => d (k36.mp z)), if_neg (fun z => d z.1)]; trivial
  · have e : okC (w, r, v, s, b) = (decide (w < 13) && decide (r = 0) && decide (v = 0) && decide (s = [])) := by
      show (if w = 15 ∨ w = 14 then _ else if w = 13 then _ else _) = _
      rw [if_neg (by omega), if_neg (by omega)]
    rw [e] at ho
    obtain ⟨a1, a2, a3, a4⟩ := and4 ho
    have a2 := of_decide_eq_true a2
    have a3 := of_decide_eq_true a3
    have a4 := of_decide_eq_true a4
    subst a2 a3 a4
    have := h3 (by omega)
    exact st_low hk (by omega) h1 this h4 (n_40 this hi)
end SV
