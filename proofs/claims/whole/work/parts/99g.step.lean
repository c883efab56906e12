/-! a word on both sides of the class: xtake and cst -/
/-- the parser's state X is the pure state c, before the i-th word -/
def RX (X : Xs) (c : Cs) (i : Nat) : Prop := X.1 8 = nI c.1 ∧
  (13 ≤ c.1 → X.1 9 = nI c.2.1 ∧ X.1 12 = nI c.2.2.1 ∧ WS X.2.1 c.2.2.2.1 X.2.2.1 ∧ (c.2.1 = 6 → ∃ j, j < X.2.2.1 ∧ X.1 15 = nI j) ∧ 2 * X.2.2.1 + csts c.2.2.2.1 + (if c.1 = 15 then 1 else 0) ≤ 3 * i) ∧
  (c.1 < 13 → 2 * X.2.2.1 ≤ 3 * i) ∧
  (c.1 ≠ 0 → ∃ j, j < X.2.2.1 ∧ X.1 14 = nI j ∧ (c.1 = 1 → (X.2.2.2 j 0 = 29 ↔ c.2.2.2.2 = true)))
/-- both refuse, or both go on -/
def Bo (o : Option Xs) (d : Option Cs) (i : Nat) : Prop := match o, d with
  | none, none => True
  | some X, some c => RX X c i
  | _, _ => False
theorem okC_w {w r v : Nat} {s : List Nat} {b : Bool} (h : okC (w, r, v, s, b) = true) (hw : 13 ≤ w) : okS s 0 = true ∧ v ≤ 40 ∧ lb s ≤ v + 1 ∧ (w ≠ 13 → lb s ≤ v) ∧ s.length ≤ 251 ∧ r < 8 ∧ w ≤ 15 := by
  have h : (if w = 15 ∨ w = 14 then okS s 0 && decide (v = lb s + (if r = 7 then 1 else 0)) && decide (v ≤ 40) && decide (r < 8)
    else if w = 13 then okS s 0 && decide (v + 1 = lb s + (if r = 7 then 1 else 0)) && decide (v ≤ 40) && decide (r < 8) && hdl s
    else decide (w < 13) && decide (r = 0) && decide (v = 0) && decide (s = [])) = true := h
  by_cases c1 : w = 15 ∨ w = 14
  · rw [if_pos c1] at h
    obtain ⟨a1, a2, a3, a4⟩ := and4 h
    have hl := ok_len s 0 a1
    have hv := of_decide_eq_true a2
    have h40 := of_decide_eq_true a3
    have hr := of_decide_eq_true a4
    refine ⟨a1, h40, ?_, fun _ => ?_, ?_, hr, by omega⟩
    all_goals (split at hv <;> omega)
  rw [if_neg c1] at h
  by_cases c3 : w = 13
  · rw [if_pos c3] at h
    obtain ⟨h1, h2⟩ := Bool.and_eq_true_iff.mp h
    obtain ⟨a1, a2, a3, a4⟩ := and4 h1
    have hl := ok_len s 0 a1
    have hv := of_decide_eq_true a2
    have h40 := of_decide_eq_true a3
    have hr := of_decide_eq_true a4
    refine ⟨a1, h40, ?_, fun q => absurd c3 q, ?_, hr, by omega⟩
    all_goals (split at hv <;> omega)
  rw [if_neg c3] at h
  obtain ⟨a1, a2, a3, a4⟩ := and4 h
  have := of_decide_eq_true a1
  omega
theorem lb_len (s : List Nat) : lb s ≤ s.length := by
  induction s with
  | nil => exact Nat.le_refl _
  | cons a s ih =>
    show (if _ then 1 else 0) + lb s ≤ s.length + 1
    split <;> omega
section ST
variable {p : Nat → Int32} {W : List (Nat → Int32)} {n i r v : Nat} {M : Nat → Nat → Int32} {s : List Nat} {b : Bool} {st sz vl : Int32}
/-- the head of the item -/
def Hd (p : Nat → Int32) (n : Nat) : Prop := ∃ j, j < n ∧ p 14 = nI j
def Br (p : Nat → Int32) (n r : Nat) : Prop := r = 6 → ∃ j, j < n ∧ p 15 = nI j
theorem RX.i13 {w : Nat} (h8 : p 8 = nI w) (hw : 13 ≤ w) (h9 : p 9 = nI r) (h12 : p 12 = nI v) (hs : WS W s n) (hb : Br p n r) (hc : 2 * n + csts s + (if w = 15 then 1 else 0) ≤ 3 * i) (hd : Hd p n) : RX (p, W, n, M) (w, r, v, s, b) i := by
  refine ⟨h8, fun _ => ⟨h9, h12, hs, hb, hc⟩, fun q => absurd q (by show ¬ w < 13; omega), fun _ => ?_⟩
  obtain ⟨j, j1, j2⟩ := hd
  exact ⟨j, j1, j2, fun q => absurd q (by show ¬ w = 1; omega)⟩
theorem WS.hW {hs : WS W s n} : hW W = nI (tpo s) := by
  cases W with
  | nil => rw [hs.nil]; rfl
  | cons e W =>
    obtain ⟨a, s', rfl, e0, ha, -⟩ := hs.c
    show hI (e 0) = nI (hol a)
    rw [e0]; exact hI_nI a ha
theorem jok_1 {e : Nat → Int32} {n : Nat} (h : e 4 = -1) : jok e n := Or.inl (by rw [h]; decide)
/-- an operation with no jump waits -/
theorem psh {a : Nat} {op : Int32} (ho : op = nI a) (ha : a < 40) (h36 : a ≠ 36) (hs : WS W s n) (hl : s.length < 256) : xpush op (-1) st (p, W, n, M) = some (up p 8 14, ent op st (p 13) (-1) (-1) :: W, n, M) ∧ WS (ent op st (p 13) (-1) (-1) :: W) (a :: s) n := by
  refine ⟨if_pos (by show W.length < 256; rw [hs.len]; exact hl), hs.i ho ha (jok_1 rfl) fun q => absurd ?_ h36⟩
  have q : op = 36 := q
  rw [ho] at q
  exact (nI_eq (a := a) (b := 36) (by omega) (by decide)).mp q
/-- an operation with a jump waits -/
theorem psj {a j : Nat} {op : Int32} (ho : op = nI a) (ha : a < 40) (hj : j < n) (hs : WS W s n) (hl : s.length < 256) : xpush op (nI j) st (p, W, n, M) = some (up p 8 14, ent op st (p 13) (-1) (nI j) :: W, n, M) ∧ WS (ent op st (p 13) (-1) (nI j) :: W) (a :: s) n :=
  ⟨if_pos (by show W.length < 256; rw [hs.len]; exact hl), hs.i ho ha (Or.inr ⟨j, hj, rfl⟩) fun _ => ⟨j, hj, rfl⟩⟩
theorem dp_40 (h12 : p 12 = nI v) (hv : v ≤ 40) {Y : List (Nat → Int32) × Nat × (Nat → Nat → Int32)} : xdeep (p, Y) = if v < 40 then some (up p 12 (nI (v + 1)), Y) else none := by
  show (if p 12 < 40 then some (up p 12 (p 12 + 1), Y) else none) = _
  rw [h12, nI_1]
  have q : nI v < 40 ↔ v < 40 := nI_lti (b := 40) (by omega) (by decide)
  by_cases c : v < 40
  · rw [if_pos c, if_pos (q.mpr c)]
  · rw [if_neg c, if_neg (fun z => c (q.mp z))]
theorem Br.mo (h : Br p n r) : Br p (n + 1) r := fun q => by obtain ⟨j, j1, j2⟩ := h q; exact ⟨j, by omega, j2⟩
theorem Hd.mo (h : Hd p n) : Hd p (n + 1) := by obtain ⟨j, j1, j2⟩ := h; exact ⟨j, by omega, j2⟩
theorem opd_no' : ∀ k, k < 40 → k ∈ [1, 2, 12, 13, 36, 25, 31, 14, 15] ∨ (nI (κ k) ≠ 33 ∧ nI (κ k) ≠ 40 ∧ nI (κ k) ≠ 45 ∧ nI (κ k) ≠ 261 ∧ nI (κ k) ≠ 262 ∧ nI (κ k) ≠ 309 ∧ nI (κ k) ≠ 310 ∧ nI (κ k) ≠ 311 ∧ nI (κ k) ≠ 312) := by decide
theorem opd_no (k : Nat) (hk : k < 40) (h1 : k ≠ 1) (h2 : k ≠ 2) (h3 : k ≠ 12) (h4 : k ≠ 13) (h5 : k ≠ 36) (h6 : k ≠ 25) (h7 : k ≠ 31) (h8 : k ≠ 14) (h9 : k ≠ 15) : nI (κ k) ≠ 33 ∧ nI (κ k) ≠ 40 ∧ nI (κ k) ≠ 45 ∧ nI (κ k) ≠ 261 ∧ nI (κ k) ≠ 262 ∧ nI (κ k) ≠ 309 ∧ nI (κ k) ≠ 310 ∧ nI (κ k) ≠ 311 ∧ nI (κ k) ≠ 312 := by
  rcases opd_no' k hk with q | q
  · simp only [List.mem_cons, List.not_mem_nil, or_false] at q
    omega
  · exact q
theorem st_opd0 {k : Nat} (hk : k < 40) (h9 : p 9 = nI r) (h12 : p 12 = nI v) (hs : WS W s n) (hb : Br p n r) (hc : 2 * n + csts s ≤ 3 * i) (hd : Hd p n) (h40 : v ≤ 40) (hl : s.length ≤ 251) : Bo (xopd0 (nI (κ k)) st sz vl (p, W, n, M)) (cOpd k r v s b) (i + 1) := by
  by_cases c1 : k = 1
  · subst c1
    show RX (xw 15 (up p 13 (nI n), (xem 1 st st sz (-1) (p, W, n, M)).2)) (15, r, v, s, b) (i + 1)
    exact RX.i13 rfl (by decide) h9 h12 (hs.mo (Nat.le_succ n)) (Br.mo hb) (by rw [if_pos rfl]; show 2 * (n + 1) + csts s + 1 ≤ 3 * (i + 1); omega) (Hd.mo hd)
  by_cases c2 : k = 2
  · subst c2
    show RX (xval 1 vl st (p, W, n, M)) (15, r, v, s, b) (i + 1)
    exact RX.i13 rfl (by decide) h9 h12 (hs.mo (Nat.le_succ n)) (Br.mo hb) (by rw [if_pos rfl]; show 2 * (n + 1) + csts s + 1 ≤ 3 * (i + 1); omega) (Hd.mo hd)
  by_cases c12 : k = 12
  · subst c12
    show RX (xval 2 1 st (p, W, n, M)) (15, r, v, s, b) (i + 1)
    exact RX.i13 rfl (by decide) h9 h12 (hs.mo (Nat.le_succ n)) (Br.mo hb) (by rw [if_pos rfl]; show 2 * (n + 1) + csts s + 1 ≤ 3 * (i + 1); omega) (Hd.mo hd)
  by_cases c13 : k = 13
  · subst c13
    show RX (xval 2 0 st (p, W, n, M)) (15, r, v, s, b) (i + 1)
    exact RX.i13 rfl (by decide) h9 h12 (hs.mo (Nat.le_succ n)) (Br.mo hb) (by rw [if_pos rfl]; show 2 * (n + 1) + csts s + 1 ≤ 3 * (i + 1); omega) (Hd.mo hd)
  by_cases c36 : k = 36
  · subst c36
    have e : xopd0 (nI (κ 36)) st sz vl (p, W, n, M) = (xdeep (p, W, n, M)).bind fun Y => xpush 35 (-1) st Y := rfl
    have d : cOpd 36 r v s b = if v < 40 then some (14, r, v + 1, 35 :: s, b) else none := rfl
    rw [e, d, dp_40 h12 h40]
    by_cases q : v < 40
    · rw [if_pos q, if_pos q, ob_some]
      obtain ⟨z1, z2⟩ := psh (p := up p 12 (nI (v + 1))) (M := M) (st := st) (a := 35) (op := 35) rfl (by decide) (by decide) hs (by omega)
      rw [z1]
      exact RX.i13 rfl (by decide) h9 rfl z2 hb (by rw [if_neg (by decide)]; show 2 * n + (0 + csts s) + 0 ≤ _; omega) hd
    · rw [if_neg q, if_neg q]; trivial
  by_cases c25 : k = 25
  · subst c25
    have e : xopd0 (nI (κ 25)) st sz vl (p, W, n, M) = (xdeep (p, W, n, M)).bind fun Y => xpush 9 (-1) st Y := rfl
    have d : cOpd 25 r v s b = if v < 40 then some (14, r, v + 1, 9 :: s, b) else none := rfl
    rw [e, d, dp_40 h12 h40]
    by_cases q : v < 40
    · rw [if_pos q, if_pos q, ob_some]
      obtain ⟨z1, z2⟩ := psh (p := up p 12 (nI (v + 1))) (M := M) (st := st) (a := 9) (op := 9) rfl (by decide) (by decide) hs (by omega)
      rw [z1]
      exact RX.i13 rfl (by decide) h9 rfl z2 hb (by rw [if_neg (by decide)]; show 2 * n + (2 + csts s) + 0 ≤ _; omega) hd
    · rw [if_neg q, if_neg q]; trivial
  by_cases c31 : k = 31
  · subst c31
    have e : xopd0 (nI (κ 31)) st sz vl (p, W, n, M) = if 4 < hW W then none else (xdeep (p, W, n, M)).bind fun Y => xpush 16 (-1) st Y := rfl
    have d : cOpd 31 r v s b = if tpo s ≤ 4 ∧ v < 40 then some (14, r, v + 1, 16 :: s, b) else none := rfl
    have t8 : tpo s ≤ 8 := by
      cases s with
      | nil => exact Nat.zero_le _
      | cons a s => exact hol_le a
    have lt : 4 < hW W ↔ 4 < tpo s := by rw [WS.hW (hs := hs)]; exact nI_lti (a := 4) (by decide) (by omega)
    rw [e, d, dp_40 h12 h40]
    by_cases q1 : tpo s ≤ 4
    · rw [if_neg (fun z => by have := lt.mp z; omega)]
      by_cases q : v < 40
      · rw [if_pos q, if_pos ⟨q1, q⟩, ob_some]
        obtain ⟨z1, z2⟩ := psh (p := up p 12 (nI (v + 1))) (M := M) (st := st) (a := 16) (op := 16) rfl (by decide) (by decide) hs (by omega)
        rw [z1]
        exact RX.i13 rfl (by decide) h9 rfl z2 hb (by rw [if_neg (by decide)]; show 2 * n + (2 + csts s) + 0 ≤ _; omega) hd
      · rw [if_neg q, if_neg (fun z => q z.2)]; trivial
    · rw [if_pos (lt.mpr (by omega)), if_neg (fun z => q1 z.1)]; trivial
  by_cases c14 : k = 14
  · subst c14
    have e : xopd0 (nI (κ 14)) st sz vl (p, W, n, M) = (xpush 20 (-1) st (p, W, n, M)).bind fun Y => some (xw 13 Y) := rfl
    have d : cOpd 14 r v s b = some (13, r, v, 20 :: s, b) := rfl
    obtain ⟨z1, z2⟩ := psh (p := p) (M := M) (st := st) (a := 20) (op := 20) rfl (by decide) (by decide) hs (by omega)
    rw [e, d, z1, ob_some]
    exact RX.i13 rfl (by decide) h9 h12 z2 hb (by rw [if_neg (by decide)]; show 2 * n + (2 + csts s) + 0 ≤ _; omega) hd
  by_cases c15 : k = 15
  · subst c15
    have e : xopd0 (nI (κ 15)) st sz vl (p, W, n, M) = (xpush 21 (-1) st (p, W, n, M)).bind fun Y => some (xw 13 Y) := rfl
    have d : cOpd 15 r v s b = some (13, r, v, 21 :: s, b) := rfl
    obtain ⟨z1, z2⟩ := psh (p := p) (M := M) (st := st) (a := 21) (op := 21) rfl (by decide) (by decide) hs (by omega)
    rw [e, d, z1, ob_some]
    exact RX.i13 rfl (by decide) h9 h12 z2 hb (by rw [if_neg (by decide)]; show 2 * n + (2 + csts s) + 0 ≤ _; omega) hd
  obtain ⟨n1, n2, n3, n4, n5, n6, n7, n8, n9⟩ := opd_no k hk c1 c2 c12 c13 c36 c25 c31 c14 c15
  have e : xopd0 (nI (κ k)) st sz vl (p, W, n, M) = none := by
    unfold xopd0
    rw [if_neg n1, if_neg n2, if_neg n3, if_neg n4, if_neg n5, if_neg n6, if_neg n7, if_neg n8, if_neg n9]
  have d : cOpd k r v s b = none := by
    unfold cOpd
    rw [if_neg (by omega), if_neg c36, if_neg c25, if_neg c31, if_neg c14, if_neg c15]
  rw [e, d]
  trivial
theorem st_opd {k : Nat} (hk : k < 40) (h9 : p 9 = nI r) (h12 : p 12 = nI v) (hs : WS W s n) (hb : Br p n r) (hc : 2 * n + csts s ≤ 3 * i) (hd : Hd p n) (h40 : v ≤ 40) (hl : s.length ≤ 251) : Bo (xopd (nI (κ k)) st sz vl (p, W, n, M)) (cOpd k r v s b) (i + 1) := by
  show Bo (if 0 ≤ p 10 then xopd0 (nI (κ k)) st sz vl (p, W, n, M) else xopd0 (nI (κ k)) st sz vl (up p 10 st, W, n, M)) (cOpd k r v s b) (i + 1)
  split
  · exact st_opd0 hk h9 h12 hs hb hc hd h40 hl
  · exact st_opd0 (p := up p 10 st) hk h9 h12 hs hb hc hd h40 hl
end ST
