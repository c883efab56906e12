/-! a word on both sides of the class, where an operator is wanted -/
section SU
variable {p : Nat → Int32} {W : List (Nat → Int32)} {n i r v : Nat} {M : Nat → Nat → Int32} {s : List Nat} {b : Bool} {st sz vl : Int32}
theorem bl_len2 {h : Nat} : ∀ (s : List Nat) (v : Nat), (bl h v s).2.length ≤ s.length := by
  intro s
  induction s with
  | nil => intro v; exact Nat.le_refl _
  | cons a s ih =>
    intro v
    by_cases c : h ≤ hol a
    · have e1 : bl h v (a :: s) = bl h (if a = 9 ∨ a = 16 ∨ a = 19 then v - 1 else v) s := if_pos c
      rw [e1]
      have := ih (if a = 9 ∨ a = 16 ∨ a = 19 then v - 1 else v)
      show _ ≤ s.length + 1
      omega
    · have e1 : bl h v (a :: s) = (v, a :: s) := if_neg c
      rw [e1]
      exact Nat.le_refl _
/-- what holds where an operator is wanted -/
def Oq (p : Nat → Int32) (W : List (Nat → Int32)) (n r v : Nat) (s : List Nat) (i : Nat) : Prop := p 8 = nI 15 ∧ p 9 = nI r ∧ p 12 = nI v ∧ WS W s n ∧ Br p n r ∧ 2 * n + csts s + 1 ≤ 3 * i ∧ Hd p n ∧ lb s ≤ v ∧ v ≤ 40 ∧ s.length ≤ 251
theorem Oq.bl {h : Nat} (h1 : 1 ≤ h) (h8 : h < 100) (q : Oq p W n r v s i) : ∃ p' W' n' M', xb (nI h) W p n M = (p', W', n', M') ∧ Oq p' W' n' r (bl h v s).1 (bl h v s).2 i := by
  obtain ⟨a0, a1, a2, a3, a4, a5, a6, a7, a8, a9⟩ := q
  obtain ⟨p', W', n', M', z1, z2, z3, z4, z5, z6, z7⟩ := bld h1 h8 W s p n M v a3 a2 a7 (by omega)
  have l1 := bl_le (h := h) s v
  have l2 := bl_len2 (h := h) s v
  refine ⟨p', W', n', M', z1, (z6 8 (by decide) (by decide)).trans a0, (z6 9 (by decide) (by decide)).trans a1, z3, z2, fun e => ?_, by omega, ?_, by omega, by omega, by omega⟩
  · obtain ⟨j, j1, j2⟩ := a4 e
    exact ⟨j, by omega, (z6 15 (by decide) (by decide)).trans j2⟩
  · obtain ⟨j, j1, j2⟩ := a6
    exact ⟨j, by omega, (z6 14 (by decide) (by decide)).trans j2⟩
theorem cst1_2 {a : Nat} (h : a ≠ 35) : cst1 a = 2 := if_neg h
theorem st_bin {a h : Nat} {op : Int32} (ho : op = nI a) (ha : a < 40) (h36 : a ≠ 36) (h35 : a ≠ 35) (h1 : 1 ≤ h) (h8 : h < 100) (q : Oq p W n r v s i) : Bo (xbin op (nI h) st (p, W, n, M)) (some (14, r, (bl h v s).1, a :: (bl h v s).2, b)) (i + 1) := by
  obtain ⟨p', W', n', M', e, a0, a1, a2, a3, a4, a5, a6, a7, a8, a9⟩ := q.bl (M := M) h1 h8
  have ex : xbin op (nI h) st (p, W, n, M) = xpush op (-1) st (xb (nI h) W p n M) := rfl
  rw [ex, e]
  obtain ⟨z1, z2⟩ := psh (p := p') (M := M') (st := st) ho ha h36 a3 (by omega)
  rw [z1]
  exact RX.i13 rfl (by decide) a1 a2 z2 a4 (by rw [if_neg (by decide)]; show 2 * n' + (cst1 a + csts (bl h v s).2) + 0 ≤ _; rw [cst1_2 h35]; omega) a6
theorem tpo_8 (s : List Nat) : tpo s ≤ 8 := by
  cases s with
  | nil => exact Nat.zero_le _
  | cons a s => exact hol_le a
theorem st_cmp {a : Nat} {op : Int32} (ho : op = nI a) (ha : a < 40) (h36 : a ≠ 36) (h35 : a ≠ 35) (q : Oq p W n r v s i) : Bo (xcmp op st (p, W, n, M)) (if tpo (bl 6 v s).2 = 5 then none else some (14, r, (bl 6 v s).1, a :: (bl 6 v s).2, b)) (i + 1) := by
  obtain ⟨p', W', n', M', e, a0, a1, a2, a3, a4, a5, a6, a7, a8, a9⟩ := q.bl (h := 6) (M := M) (by decide) (by decide)
  have e : xb 6 W p n M = (p', W', n', M') := e
  have ex : xcmp op st (p, W, n, M) = if hW (xb 6 W p n M).2.1 = 5 then none else xpush op (-1) st (xb 6 W p n M) := rfl
  have t8 := tpo_8 (bl 6 v s).2
  have hw : hW W' = 5 ↔ tpo (bl 6 v s).2 = 5 := by
    rw [WS.hW (hs := a3)]
    exact nI_eq (b := 5) (by omega) (by decide)
  rw [ex, e]
  by_cases c : tpo (bl 6 v s).2 = 5
  · rw [if_pos c, if_pos (hw.mpr c)]; trivial
  · rw [if_neg c, if_neg (fun z => c (hw.mp z))]
    obtain ⟨z1, z2⟩ := psh (p := p') (M := M') (st := st) ho ha h36 a3 (by omega)
    rw [z1]
    exact RX.i13 rfl (by decide) a1 a2 z2 a4 (by rw [if_neg (by decide)]; show 2 * n' + (cst1 a + csts (bl 6 v s).2) + 0 ≤ _; rw [cst1_2 h35]; omega) a6
theorem st_log {a h : Nat} {op sk : Int32} (ho : op = nI a) (ha : a < 40) (h35 : a ≠ 35) (h1 : 1 ≤ h) (h8 : h < 100) (q : Oq p W n r v s i) : Bo (xlog op (nI h) sk st (p, W, n, M)) (some (14, r, (bl h v s).1, a :: (bl h v s).2, b)) (i + 1) := by
  obtain ⟨p', W', n', M', e, a0, a1, a2, a3, a4, a5, a6, a7, a8, a9⟩ := q.bl (M := M) h1 h8
  have ex : xlog op (nI h) sk st (p, W, n, M) = xpush op (nI (xb (nI h) W p n M).2.2.1) st (xem sk st ((xb (nI h) W p n M).1 13) (-1) (-1) (xb (nI h) W p n M)) := rfl
  rw [ex, e]
  obtain ⟨z1, z2⟩ := psj (p := p') (M := ndd M' n' (nv8 sk st (p' 13) (-1) (-1))) (n := n' + 1) (j := n') (st := st) ho ha (Nat.lt_succ_self _) (a3.mo (Nat.le_succ n')) (by omega)
  have z1 : xpush op (nI n') st (xem sk st (p' 13) (-1) (-1) (p', W', n', M')) = _ := z1
  rw [z1]
  exact RX.i13 rfl (by decide) a1 a2 z2 (Br.mo a4) (by rw [if_neg (by decide)]; show 2 * (n' + 1) + (cst1 a + csts (bl h v s).2) + 0 ≤ _; rw [cst1_2 h35]; omega) (Hd.mo a6)
theorem st_ask (q : Oq p W n r v s i) (hr : r < 8) : Bo (xask st (p, W, n, M)) (if (bl 2 v s).2 = [] ∧ r = 6 then none else if (bl 2 v s).1 < 40 then some (14, r, (bl 2 v s).1 + 1, 36 :: (bl 2 v s).2, b) else none) (i + 1) := by
  obtain ⟨p', W', n', M', e, a0, a1, a2, a3, a4, a5, a6, a7, a8, a9⟩ := q.bl (h := 2) (M := M) (by decide) (by decide)
  have e : xb 2 W p n M = (p', W', n', M') := e
  have ex : xask st (p, W, n, M) = if nI (xb 2 W p n M).2.1.length = 0 then (if (xb 2 W p n M).1 9 = 6 then none else xq st (xb 2 W p n M)) else xq st (xb 2 W p n M) := rfl
  have hl := a3.len
  have h0 : nI W'.length = 0 ↔ (bl 2 v s).2 = [] := by
    rw [hl]
    constructor
    · intro z
      exact List.length_eq_zero_iff.mp ((nI_eq (b := 0) (by omega) (by decide)).mp z)
    · intro z
      rw [z]
      rfl
  have h6 : p' 9 = 6 ↔ r = 6 := by rw [a1]; exact nI_eq (b := 6) (by omega) (by decide)
  have hq : Bo (xq st (p', W', n', M')) (if (bl 2 v s).1 < 40 then some (14, r, (bl 2 v s).1 + 1, 36 :: (bl 2 v s).2, b) else none) (i + 1) := by
    show Bo ((xdeep (p', W', n', M')).bind fun Z => xpush 36 (nI Z.2.2.1) st (xem 23 st (Z.1 13) (-1) (-1) Z)) _ _
    rw [dp_40 a2 a8]
    by_cases c : (bl 2 v s).1 < 40
    · rw [if_pos c, if_pos c, ob_some]
      obtain ⟨z1, z2⟩ := psj (a := 36) (op := 36) (p := up p' 12 (nI ((bl 2 v s).1 + 1))) (M := ndd M' n' (nv8 23 st (p' 13) (-1) (-1))) (n := n' + 1) (j := n') (st := st) rfl (by decide) (Nat.lt_succ_self _) (a3.mo (Nat.le_succ n')) (by omega)
      show Bo (xpush 36 (nI n') st (up p' 12 (nI ((bl 2 v s).1 + 1)), W', n' + 1, ndd M' n' (nv8 23 st (p' 13) (-1) (-1)))) _ _
      rw [z1]
      exact RX.i13 rfl (by decide) a1 rfl z2 (Br.mo a4) (by rw [if_neg (by decide)]; show 2 * (n' + 1) + (2 + csts (bl 2 v s).2) + 0 ≤ _; omega) (Hd.mo a6)
    · rw [if_neg c, if_neg c]; trivial
  rw [ex, e]
  by_cases c0 : (bl 2 v s).2 = []
  · rw [if_pos (h0.mpr c0)]
    by_cases c6 : r = 6
    · rw [if_pos (h6.mpr c6), if_pos ⟨c0, c6⟩]; trivial
    · rw [if_neg (fun z => c6 (h6.mp z)), if_neg (fun z => c6 z.2)]; exact hq
  · rw [if_neg (fun z => c0 (h0.mp z)), if_neg (fun z => c0 z.1)]; exact hq
/-! a rule begins -/
theorem RX.op {r : Nat} (hr : r < 8) {p : Nat → Int32} {W : List (Nat → Int32)} (hb : Br p n r) (hc : 2 * n ≤ 3 * i) (hd : Hd p n) : RX (xopen (nI r) (p, W, n, M)) (opens r b) i := by
  have h12 : (if nI r = 7 then 1 else 0 : Int32) = nI (if r = 7 then 1 else 0) := by
    by_cases c : r = 7
    · subst c; rfl
    · rw [if_neg c, if_neg (c := nI r = 7) (nik (m := 7) (by omega) (by decide) c)]; rfl
  refine RX.i13 (s := []) (v := if r = 7 then 1 else 0) rfl (by decide) rfl ?_ ⟨rfl, rfl, fun e he => nomatch he⟩ hb (by rw [if_neg (by decide)]; show 2 * n + 0 + 0 ≤ _; omega) hd
  exact h12
theorem RX.lo {w : Nat} {X : Xs} (h8 : X.1 8 = nI w) (hw : w < 13) (hc : 2 * X.2.2.1 ≤ 3 * i) (hd : w ≠ 0 → ∃ j, j < X.2.2.1 ∧ X.1 14 = nI j ∧ (w = 1 → (X.2.2.2 j 0 = 29 ↔ b = true))) : RX X (w, 0, 0, [], b) i :=
  ⟨h8, fun q => absurd q (by show ¬ 13 ≤ w; omega), fun _ => hc, hd⟩
theorem RX.l2 {w : Nat} {X : Xs} (h8 : X.1 8 = nI w) (hw : w < 13) (h1 : w ≠ 1) (hc : 2 * X.2.2.1 ≤ 3 * i) (hd : Hd X.1 X.2.2.1) : RX X (w, 0, 0, [], b) i := by
  refine RX.lo h8 hw hc fun _ => ?_
  obtain ⟨j, j1, j2⟩ := hd
  exact ⟨j, j1, j2, fun q => absurd q h1⟩
theorem κe (k : Nat) (hk : k < 40) {m : Nat} (hm : m < 40) : nI (κ k) = nI (κ m) ↔ κ k = κ m := by
  have : ∀ k, k < 40 → κ k < 1000 := by decide
  exact nI_eq (by have := this k hk; omega) (by have := this m hm; omega)
theorem κ_inj : ∀ k, k < 40 → ∀ m, m < 40 → (κ k = κ m ↔ k = m) := by decide +kernel
theorem kqq (k : Nat) (hk : k < 40) {m : Nat} (hm : m < 40) : nI (κ k) = nI (κ m) ↔ k = m := (κe k hk hm).trans (κ_inj k hk m hm)
theorem st_clo {k : Nat} (hk : k < 40) (q : Oq p W n r v [] i) (hr : r < 8) : Bo (xclose (nI (κ k)) st (p, [], n, M)) (cClo k r b) (i + 1) := by
  obtain ⟨a0, a1, a2, a3, a4, a5, a6, a7, a8, a9⟩ := q
  have a5 : 2 * n + 0 + 1 ≤ 3 * i := a5
  have k256 : nI (κ k) = 256 ↔ k = 16 := kqq k hk (m := 16) (by decide)
  have k306 : nI (κ k) = 306 ↔ k = 9 := kqq k hk (m := 9) (by decide)
  have k59 : nI (κ k) = 59 ↔ k = 34 := kqq k hk (m := 34) (by decide)
  have k257 : nI (κ k) = 257 ↔ k = 17 := kqq k hk (m := 17) (by decide)
  have k58 : nI (κ k) = 58 ↔ k = 33 := kqq k hk (m := 33) (by decide)
  have k41 : nI (κ k) = 41 ↔ k = 37 := kqq k hk (m := 37) (by decide)
  have r9 : ∀ m, m < 8 → (p 9 = nI m ↔ r = m) := fun m hm => by rw [a1]; exact nI_eq (by omega) (by omega)
  have fin : Bo (some (xfin st (xem 26 (p 10) (p 13) (p 9) (p 11) (p, [], n, M)))) (some ((0, 0, 0, [], false) : Cs)) (i + 1) := RX.lo (b := false) rfl (by decide) (by show 2 * (n + 1 + 1) ≤ _; omega) (fun z => absurd rfl z)
  have opn : ∀ m, m < 8 → m ≠ 6 → Bo (some (xopen (nI m) (xem 26 (p 10) (p 13) (p 9) (p 11) (p, [], n, M)))) (some (opens m b)) (i + 1) := fun m hm h6 => RX.op hm (fun z => absurd z h6) (by show 2 * (n + 1) ≤ _; omega) (Hd.mo a6)
  have ite_b : ∀ {c d : Prop} [Decidable c] [Decidable d] {x : Option Xs} {y : Option Cs}, (c ↔ d) → Bo x y (i + 1) → Bo (if c then x else none) (if d then y else none) (i + 1) := by
    intro c d _ _ x y hcd h
    by_cases e : d
    · rw [if_pos (hcd.mpr e), if_pos e]; exact h
    · rw [if_neg (fun z => e (hcd.mp z)), if_neg e]; trivial
  unfold xclose cClo
  dsimp only
  by_cases c1 : r = 1
  · rw [if_pos ((show p 9 = 1 ↔ r = 1 from r9 1 (by decide)).mpr c1), if_pos c1]
    exact ite_b k256 (opn 2 (by decide) (by decide))
  rw [if_neg (fun z => c1 ((show p 9 = 1 ↔ r = 1 from r9 1 (by decide)).mp z)), if_neg c1]
  by_cases c2 : r = 2
  · rw [if_pos ((show p 9 = 2 ↔ r = 2 from r9 2 (by decide)).mpr c2), if_pos c2]
    by_cases d : k = 9
    · rw [if_pos (k306.mpr d), if_pos d]; exact opn 3 (by decide) (by decide)
    · rw [if_neg (fun z => d (k306.mp z)), if_neg d]; exact ite_b k59 fin
  rw [if_neg (fun z => c2 ((show p 9 = 2 ↔ r = 2 from r9 2 (by decide)).mp z)), if_neg c2]
  by_cases c5 : r = 5
  · rw [if_pos ((show p 9 = 5 ↔ r = 5 from r9 5 (by decide)).mpr c5), if_pos c5]
    refine ite_b k257 ?_
    exact RX.op (r := 6) (n := n + 1 + 1) (p := up p 15 (nI (n + 1))) (by decide) (fun _ => ⟨n + 1, Nat.lt_succ_self _, rfl⟩) (by omega) (Hd.mo (Hd.mo a6))
  rw [if_neg (fun z => c5 ((show p 9 = 5 ↔ r = 5 from r9 5 (by decide)).mp z)), if_neg c5]
  by_cases c6 : r = 6
  · rw [if_pos ((show p 9 = 6 ↔ r = 6 from r9 6 (by decide)).mpr c6), if_pos c6]
    refine ite_b k58 ?_
    exact RX.l2 rfl (by decide) (by decide) (by show 2 * (n + 1) ≤ _; omega) (Hd.mo a6)
  rw [if_neg (fun z => c6 ((show p 9 = 6 ↔ r = 6 from r9 6 (by decide)).mp z)), if_neg c6]
  by_cases c7 : r = 7
  · rw [if_pos ((show p 9 = 7 ↔ r = 7 from r9 7 (by decide)).mpr c7), if_pos c7]
    refine ite_b k41 ?_
    exact RX.l2 rfl (by decide) (by decide) (by show 2 * (n + 1) ≤ _; omega) (Hd.mo a6)
  rw [if_neg (fun z => c7 ((show p 9 = 7 ↔ r = 7 from r9 7 (by decide)).mp z)), if_neg c7]
  exact ite_b k59 fin
theorem fN_le (e : Nat → Int32) (n : Nat) : n ≤ fN e n ∧ fN e n ≤ n + 1 := by unfold fN; split <;> omega
theorem fP_o (e p : Nat → Int32) (n : Nat) {k : Nat} (h : k ≠ 13) : fP e p n k = p k := by
  unfold fP
  split
  · rfl
  · exact up_o _ _ h
theorem fE_o (e p : Nat → Int32) (n : Nat) {k : Nat} (h : k ≠ 3) : fE e p n k = e k := by
  unfold fE
  split <;> exact up_o _ _ h
theorem st_end {k : Nat} (hk : k < 40) (q : Oq p W n r v s i) (hr : r < 8) (ht : tpo s = 0) : Bo (xend0 (nI (κ k)) st (p, W, n, M)) (cEnd k r v b s) (i + 1) := by
  cases W with
  | nil =>
    obtain rfl := q.2.2.2.1.nil
    exact st_clo hk q hr
  | cons e W =>
    obtain ⟨a0, a1, a2, a3, a4, a5, a6, a7, a8, a9⟩ := q
    obtain ⟨a, s', rfl, e0, ha, hw', hj, hq⟩ := a3.c
    have k41 : nI (κ k) = 41 ↔ k = 37 := kqq k hk (m := 37) (by decide)
    have k58 : nI (κ k) = 58 ↔ k = 33 := kqq k hk (m := 33) (by decide)
    have k44 : nI (κ k) = 44 ↔ k = 35 := kqq k hk (m := 35) (by decide)
    have em : ∀ m, m < 40 → (e 0 = nI m ↔ a = m) := fun m hm => by rw [e0]; exact nI_eq (by omega) (by omega)
    have ex : xend0 (nI (κ k)) st (p, e :: W, n, M) = if nI (κ k) = 41 then (if e 0 = 35 then some (up p 12 (p 12 - 1), W, n, M) else xe76 (nI (κ k)) st e W p n M) else xe76 (nI (κ k)) st e W p n M := rfl
    have ec : cEnd k r v b (a :: s') = if a = 35 then (if k = 37 then some (15, r, v - 1, s', b) else none)
      else if a = 36 then (if k = 33 then some (14, r, v, 19 :: s', b) else none)
      else if a = 20 ∨ a = 21 then (if k = 35 then some (14, r, v, a :: s', b) else if k = 37 then some (15, r, v - 1, s', b) else none)
      else none := rfl
    have hb : lb (a :: s') = (if a = 9 ∨ a = 16 ∨ a = 19 ∨ a = 36 ∨ a = 35 ∨ a = 20 ∨ a = 21 then 1 else 0) + lb s' := rfl
    have hcs : csts (a :: s') = cst1 a + csts s' := rfl
    have hsl : (a :: s').length = s'.length + 1 := rfl
    rw [ex, ec]
    have v1 : (a = 9 ∨ a = 16 ∨ a = 19 ∨ a = 36 ∨ a = 35 ∨ a = 20 ∨ a = 21) → 1 ≤ v := fun z => by rw [hb, if_pos z] at a7; omega
    have vv : 1 ≤ v → p 12 - 1 = nI (v - 1) := fun z => by rw [a2]; exact nI_sub (a := v) (b := 1) z
    have no105 : a ≠ 20 → a ≠ 21 → xe105 (nI (κ k)) e W p n M = none := fun q1 q2 => by
      unfold xe105
      rw [if_neg (fun z => q1 ((show e 0 = 20 ↔ a = 20 from em 20 (by decide)).mp z)), if_neg (fun z => q2 ((show e 0 = 21 ↔ a = 21 from em 21 (by decide)).mp z))]
    have e76 : xe76 (nI (κ k)) st e W p n M = if nI (κ k) = 58 then (if e 0 = 36 then some (xoth st e W p n M) else xe105 (nI (κ k)) e W p n M) else xe105 (nI (κ k)) e W p n M := rfl
    by_cases c35 : a = 35
    · rw [if_pos c35]
      have vv := vv (v1 (by omega))
      have n36 : ¬ e 0 = 36 := fun z => by have := (show e 0 = 36 ↔ a = 36 from em 36 (by decide)).mp z; omega
      by_cases c : k = 37
      · rw [if_pos (k41.mpr c), if_pos ((show e 0 = 35 ↔ a = 35 from em 35 (by decide)).mpr c35), if_pos c]
        exact RX.i13 a0 (by decide) a1 vv hw' a4 (by rw [if_pos rfl]; rw [hcs] at a5; omega) a6
      · rw [if_neg (fun z => c (k41.mp z)), if_neg c, e76, no105 (by omega) (by omega), if_neg n36]
        split <;> trivial
    rw [if_neg c35]
    have n35 : ¬ e 0 = 35 := fun z => c35 ((show e 0 = 35 ↔ a = 35 from em 35 (by decide)).mp z)
    have x1 : (if nI (κ k) = 41 then (if e 0 = 35 then some (up p 12 (p 12 - 1), W, n, M) else xe76 (nI (κ k)) st e W p n M) else xe76 (nI (κ k)) st e W p n M) = xe76 (nI (κ k)) st e W p n M := by
      rw [if_neg n35]
      split <;> rfl
    rw [x1]
    by_cases c36 : a = 36
    · rw [if_pos c36, e76, no105 (by omega) (by omega), if_pos ((show e 0 = 36 ↔ a = 36 from em 36 (by decide)).mpr c36)]
      by_cases c : k = 33
      · rw [if_pos (k58.mpr c), if_pos c]
        have ws : WS (up (up (up e 0 19) 3 (p 13)) 4 (nI n) :: W) (19 :: s') (n + 1) := (hw'.mo (Nat.le_succ n)).i rfl (by decide) (Or.inr ⟨n, Nat.lt_succ_self n, rfl⟩) (fun _ => ⟨n, Nat.lt_succ_self n, rfl⟩)
        refine RX.i13 (p := up p 8 14) (n := n + 1) rfl (by decide) a1 a2 ws (Br.mo a4) ?_ (Hd.mo a6)
        rw [if_neg (by decide)]
        rw [hcs, cst1_2 c35] at a5
        show 2 * (n + 1) + (2 + csts s') + 0 ≤ _
        omega
      · rw [if_neg (fun z => c (k58.mp z)), if_neg c]; trivial
    rw [if_neg c36]
    have n36 : ¬ e 0 = 36 := fun z => c36 ((show e 0 = 36 ↔ a = 36 from em 36 (by decide)).mp z)
    have x2 : xe76 (nI (κ k)) st e W p n M = xe105 (nI (κ k)) e W p n M := by
      rw [e76, if_neg n36]
      split <;> rfl
    rw [x2]
    by_cases c20 : a = 20 ∨ a = 21
    · rw [if_pos c20]
      have x3 : xe105 (nI (κ k)) e W p n M = xe119 (nI (κ k)) e W p n M := by
        unfold xe105
        rcases c20 with z | z
        · rw [if_pos ((show e 0 = 20 ↔ a = 20 from em 20 (by decide)).mpr z)]
        · rw [if_neg (fun y => by have := (show e 0 = 20 ↔ a = 20 from em 20 (by decide)).mp y; omega), if_pos ((show e 0 = 21 ↔ a = 21 from em 21 (by decide)).mpr z)]
      have e119 : xe119 (nI (κ k)) e W p n M = if nI (κ k) = 44 then some (xw 14 (fP e p n, fE e p n :: W, fN e n, fM e p n M)) else if nI (κ k) = 41 then some (xlist e W p n M) else none := rfl
      have hn := fN_le e n
      have vv := vv (v1 (by omega))
      have br : ∀ m, n ≤ m → Br p m r := fun m hm z => by obtain ⟨j, j1, j2⟩ := a4 z; exact ⟨j, by omega, j2⟩
      have hd : ∀ m, n ≤ m → Hd p m := fun m hm => by obtain ⟨j, j1, j2⟩ := a6; exact ⟨j, by omega, j2⟩
      rw [x3, e119]
      rw [hcs, cst1_2 c35] at a5
      by_cases c : k = 35
      · rw [if_pos (k44.mpr c), if_pos c]
        have f0 : fE e p n 0 = nI a := (fE_o e p n (by decide)).trans e0
        have f4 : fE e p n 4 = e 4 := fE_o e p n (by decide)
        have ws : WS (fE e p n :: W) (a :: s') (fN e n) := (hw'.mo hn.1).i f0 ha (by
          unfold jok
          rw [f4]
          exact hj.mo hn.1) (fun z => absurd ((fE_o e p n (by decide)).symm.trans z) n36)
        refine RX.i13 (p := up (fP e p n) 8 14) (n := fN e n) rfl (by decide) ((fP_o e p n (k := 9) (by decide)).trans a1) ((fP_o e p n (k := 12) (by decide)).trans a2) ws ?_ ?_ ?_
        · intro z
          obtain ⟨j, j1, j2⟩ := br _ hn.1 z
          exact ⟨j, j1, (fP_o e p n (k := 15) (by decide)).trans j2⟩
        · rw [if_neg (by decide)]
          show 2 * fN e n + (cst1 a + csts s') + 0 ≤ _
          rw [cst1_2 c35]
          omega
        · obtain ⟨j, j1, j2⟩ := hd _ hn.1
          exact ⟨j, j1, (fP_o e p n (k := 14) (by decide)).trans j2⟩
      · rw [if_neg (fun z => c (k44.mp z)), if_neg c]
        by_cases d : k = 37
        · rw [if_pos (k41.mpr d), if_pos d]
          refine RX.i13 (p := up (up (fP e p n) 13 (nI (fN e n))) 12 (fP e p n 12 - 1)) (n := fN e n + 1) ((fP_o e p n (k := 8) (by decide)).trans a0) (by decide) ((fP_o e p n (k := 9) (by decide)).trans a1) ?_ (hw'.mo (by omega)) ?_ ?_ ?_
          · show fP e p n 12 - 1 = nI (v - 1)
            rw [fP_o e p n (k := 12) (by decide)]
            exact vv
          · intro z
            obtain ⟨j, j1, j2⟩ := br (fN e n + 1) (by omega) z
            exact ⟨j, j1, (fP_o e p n (k := 15) (by decide)).trans j2⟩
          · rw [if_pos rfl]
            omega
          · obtain ⟨j, j1, j2⟩ := hd (fN e n + 1) (by omega)
            exact ⟨j, j1, (fP_o e p n (k := 14) (by decide)).trans j2⟩
        · rw [if_neg (fun z => d (k41.mp z)), if_neg d]; trivial
    · rw [if_neg c20, no105 (by omega) (by omega)]; trivial
theorem opr_no' : ∀ k, k < 40 → k ∈ [26, 27, 28, 24, 25, 29, 30, 32] ∨ cmpk k = true ∨ (nI (κ k) ≠ 37 ∧ nI (κ k) ≠ 38 ∧ nI (κ k) ≠ 42 ∧ nI (κ k) ≠ 43 ∧ nI (κ k) ≠ 45 ∧ nI (κ k) ≠ 47 ∧ nI (κ k) ≠ 60 ∧ nI (κ k) ≠ 61 ∧ nI (κ k) ≠ 62 ∧ nI (κ k) ≠ 63 ∧ nI (κ k) ≠ 124 ∧ nI (κ k) ≠ 258 ∧ nI (κ k) ≠ 259 ∧ nI (κ k) ≠ 260) := by decide
theorem opr_no (k : Nat) (hk : k < 40) (h1 : k ≠ 26) (h2 : k ≠ 27) (h3 : k ≠ 28) (h4 : k ≠ 24) (h5 : k ≠ 25) (h6 : cmpk k = false) (h7 : k ≠ 29) (h8 : k ≠ 30) (h9 : k ≠ 32) : nI (κ k) ≠ 37 ∧ nI (κ k) ≠ 38 ∧ nI (κ k) ≠ 42 ∧ nI (κ k) ≠ 43 ∧ nI (κ k) ≠ 45 ∧ nI (κ k) ≠ 47 ∧ nI (κ k) ≠ 60 ∧ nI (κ k) ≠ 61 ∧ nI (κ k) ≠ 62 ∧ nI (κ k) ≠ 63 ∧ nI (κ k) ≠ 124 ∧ nI (κ k) ≠ 258 ∧ nI (κ k) ≠ 259 ∧ nI (κ k) ≠ 260 := by
  rcases opr_no' k hk with q | q | q
  · simp only [List.mem_cons, List.not_mem_nil, or_false] at q
    omega
  · rw [h6] at q; cases q
  · exact q
theorem cmpk_e : ∀ k, k < 40 → cmpk k = true → k = 18 ∨ k = 19 ∨ k = 20 ∨ k = 21 ∨ k = 22 ∨ k = 23 := by decide
theorem st_opr {k : Nat} (hk : k < 40) (q : Oq p W n r v s i) (hr : r < 8) : Bo (xopr (nI (κ k)) st (p, W, n, M)) (cOpr k r v s b) (i + 1) := by
  by_cases c26 : k = 26
  · subst c26
    exact st_bin (a := 6) (h := 7) (op := 6) rfl (by decide) (by decide) (by decide) (by decide) (by decide) q
  by_cases c27 : k = 27
  · subst c27
    exact st_bin (a := 7) (h := 7) (op := 7) rfl (by decide) (by decide) (by decide) (by decide) (by decide) q
  by_cases c28 : k = 28
  · subst c28
    exact st_bin (a := 8) (h := 7) (op := 8) rfl (by decide) (by decide) (by decide) (by decide) (by decide) q
  by_cases c24 : k = 24
  · subst c24
    exact st_bin (a := 4) (h := 6) (op := 4) rfl (by decide) (by decide) (by decide) (by decide) (by decide) q
  by_cases c25 : k = 25
  · subst c25
    exact st_bin (a := 5) (h := 6) (op := 5) rfl (by decide) (by decide) (by decide) (by decide) (by decide) q
  by_cases cc : cmpk k = true
  · have e := cmpk_e k hk cc
    rcases e with e | e | e | e | e | e <;> subst e
    · exact st_cmp (a := 11) (op := 11) rfl (by decide) (by decide) (by decide) q
    · exact st_cmp (a := 13) (op := 13) rfl (by decide) (by decide) (by decide) q
    · exact st_cmp (a := 15) (op := 15) rfl (by decide) (by decide) (by decide) q
    · exact st_cmp (a := 12) (op := 12) rfl (by decide) (by decide) (by decide) q
    · exact st_cmp (a := 14) (op := 14) rfl (by decide) (by decide) (by decide) q
    · exact st_cmp (a := 10) (op := 10) rfl (by decide) (by decide) (by decide) q
  by_cases c29 : k = 29
  · subst c29
    exact st_log (a := 17) (h := 3) (op := 17) (sk := 23) rfl (by decide) (by decide) (by decide) (by decide) q
  by_cases c30 : k = 30
  · subst c30
    exact st_log (a := 18) (h := 2) (op := 18) (sk := 24) rfl (by decide) (by decide) (by decide) (by decide) q
  by_cases c32 : k = 32
  · subst c32
    exact st_ask q hr
  have cc' : cmpk k = false := by cases h : cmpk k; rfl; exact absurd h cc
  obtain ⟨n1, n2, n3, n4, n5, n6, n7, n8, n9, n10, n11, n12, n13, n14⟩ := opr_no k hk c26 c27 c28 c24 c25 cc' c29 c30 c32
  have e : xopr (nI (κ k)) st (p, W, n, M) = xend0 (nI (κ k)) st (xb 1 W p n M) := by
    unfold xopr
    rw [if_neg n1, if_neg n2, if_neg n3, if_neg n4, if_neg n5, if_neg n6, if_neg n7, if_neg n8, if_neg n9, if_neg n10, if_neg n11, if_neg n12, if_neg n13, if_neg n14]
    rfl
  have d : cOpr k r v s b = cEnd k r (bl 1 v s).1 b (bl 1 v s).2 := by
    unfold cOpr
    rw [if_neg (by omega), if_neg (by omega), if_neg (by rw [cc']; decide), if_neg c29, if_neg c30, if_neg c32]
  obtain ⟨p', W', n', M', e', q'⟩ := q.bl (h := 1) (M := M) (by decide) (by decide)
  have e' : xb 1 W p n M = (p', W', n', M') := e'
  rw [e, d, e']
  refine st_end hk q' hr ?_
  have := bl_tp (h := 1) (by decide) s v
  omega
end SU
