/-! a word in a rule, with the trees -/
/-- places are small -/
def Pl (w : List (Nat × Nat × Nat)) : Prop := ∀ i, kP w i < 20000 ∧ kE w i < 20000
/-- where 'least' or 'most' has been read -/
def G13 (l : List Int32) (w : List (Nat × Nat × Nat)) (M : Nat → Nat → Int32) (rs a0 : Nat) (W : List (Nat → Int32)) (G : List Gh) (n i : Nat) : Prop := match W, G with
  | e :: W, g :: G => GS l w M rs a0 W G n g.2.1 ∧ e 0 = nI g.1 ∧ (g.1 = 20 ∨ g.1 = 21) ∧ e 1 = nI (kP w g.2.1) ∧ e 3 = -1 ∧ e 4 = -1 ∧ kK w g.2.1 + 6 = g.1 ∧ i = g.2.1 + 1
  | _, _ => False
/-- a rule is being read: it began with the a0-th word and the rs-th node -/
def GR (l : List Int32) (w : List (Nat × Nat × Nat)) (X : Xs) (wt : Nat) (s : List Nat) (rs a0 i : Nat) : Prop := ∃ G : List Gh, (G.map fun g => g.1) = s ∧ X.1 11 = nI rs ∧ (i = a0 → X.1 10 = -1) ∧ (a0 < i → X.1 10 = nI (kP w a0)) ∧ a0 ≤ i ∧ X.2.2.1 < 24900 ∧
  (if wt = 15 then a0 < i ∧ ∃ T n1 i1, GS l w X.2.2.2 rs a0 X.2.1 G n1 i1 ∧ TT l w X.2.2.2 T n1 i1 X.2.2.1 i (X.1 13) ∧ lev T = 0
   else if wt = 14 then GS l w X.2.2.2 rs a0 X.2.1 G X.2.2.1 i
   else a0 < i ∧ G13 l w X.2.2.2 rs a0 X.2.1 G X.2.2.1 i)
section GRU
variable {l : List Int32} {w : List (Nat × Nat × Nat)} {rs a0 i n : Nat} {p : Nat → Int32} {W : List (Nat → Int32)} {M : Nat → Nat → Int32} {s : List Nat}
theorem GR.i15 {G : List Gh} {T : Tr} {n1 i1 : Nat} (hs : (G.map fun g => g.1) = s) (h11 : p 11 = nI rs) (h10 : p 10 = nI (kP w a0)) (hi : a0 < i) (hn : n < 24900) (hG : GS l w M rs a0 W G n1 i1) (hT : TT l w M T n1 i1 n i (p 13)) (hl : lev T = 0) : GR l w (p, W, n, M) 15 s rs a0 i :=
  ⟨G, hs, h11, fun z => by omega, fun _ => h10, by omega, hn, by rw [if_pos rfl]; exact ⟨hi, T, n1, i1, hG, hT, hl⟩⟩
theorem GR.i14 {G : List Gh} (hs : (G.map fun g => g.1) = s) (h11 : p 11 = nI rs) (h10 : p 10 = nI (kP w a0)) (hi : a0 < i) (hn : n < 24900) (hG : GS l w M rs a0 W G n i) : GR l w (p, W, n, M) 14 s rs a0 i :=
  ⟨G, hs, h11, fun z => by omega, fun _ => h10, by omega, hn, by rw [if_neg (by decide), if_pos rfl]; exact hG⟩
/-- an operand's word -/
theorem g_leaf {G : List Gh} {x : Nat → Int32} (hs : (G.map fun g => g.1) = s) (h11 : p 11 = nI rs) (h10 : p 10 = nI (kP w a0)) (hi : a0 ≤ i) (hn : n < 24800) (hG : GS l w M rs a0 W G n i) (ho : opd (kK w i) = true) (hL : Lf0 l w (ndd M n x) i n) (h13 : p 13 = nI n) : GR l w (p, W, n + 1, ndd M n x) 15 s rs a0 (i + 1) := by
  have hle := hG.le
  refine GR.i15 (T := .leaf i) (n1 := n) (i1 := i) hs h11 h10 (by omega) (by omega) (hG.fr fun j _ b => ndd_o _ _ (by omega)) ⟨ho, rfl, rfl, hL, rfl, h13⟩ rfl
theorem gR_opd {k : Nat} {r v : Nat} {b : Bool} {X' : Xs} {c' : Cs} (hk : kK w i = k) (hP : Pl w) (h : GR l w (p, W, n, M) 14 s rs a0 i) (hn : n < 24800) (e1 : xopd (nI (κ k)) (nI (kP w i)) (nI (kE w i - kP w i)) (nv l (l.length - kP w i) (kP w i) 0) (p, W, n, M) = some X') (e2 : cOpd k r v s b = some c') : GR l w X' c'.1 c'.2.2.2.1 rs a0 (i + 1) ∧ (∀ j, j < rs → X'.2.2.2 j = M j) ∧ c'.2.1 = r := by
  obtain ⟨G, hs, h11, ha, hb, hi, hn9, hG⟩ := h
  have h11 : p 11 = nI rs := h11
  have hG : GS l w M rs a0 W G n i := by rw [if_neg (by decide), if_pos rfl] at hG; exact hG
  have hle := hG.le
  obtain ⟨p1, e3, q10, q11⟩ : ∃ p1 : Nat → Int32, xopd0 (nI (κ k)) (nI (kP w i)) (nI (kE w i - kP w i)) (nv l (l.length - kP w i) (kP w i) 0) (p1, W, n, M) = some X' ∧ p1 10 = nI (kP w a0) ∧ p1 11 = nI rs := by
    have e1 : (if 0 ≤ p 10 then xopd0 (nI (κ k)) (nI (kP w i)) (nI (kE w i - kP w i)) (nv l (l.length - kP w i) (kP w i) 0) (p, W, n, M) else xopd0 (nI (κ k)) (nI (kP w i)) (nI (kE w i - kP w i)) (nv l (l.length - kP w i) (kP w i) 0) (up p 10 (nI (kP w i)), W, n, M)) = some X' := e1
    by_cases c : i = a0
    · have z : p 10 = -1 := ha c
      rw [if_neg (by rw [z]; decide)] at e1
      exact ⟨up p 10 (nI (kP w i)), e1, by rw [up_s, c], (up_o _ _ (by decide)).trans h11⟩
    · have z : p 10 = nI (kP w a0) := hb (by omega)
      have := (hP a0).1
      rw [if_pos (by rw [z]; exact (nI_lei (a := 0) (by decide) (by omega)).mpr (Nat.zero_le _))] at e1
      exact ⟨p, e1, z, h11⟩
  have psh1 : ∀ (p2 : Nat → Int32) (op : Nat) (Y : Xs), p2 10 = nI (kP w a0) → p2 11 = nI rs → (op = 9 ∨ op = 16 ∨ op = 35) → kK w i = (if op = 9 then 25 else if op = 16 then 31 else 36) → xpush (nI op) (-1) (nI (kP w i)) (p2, W, n, M) = some Y → GR l w Y 14 (op :: s) rs a0 (i + 1) ∧ (∀ j, j < rs → Y.2.2.2 j = M j) := by
    intro p2 op Y z1 z2 z3 z4 z5
    unfold xpush at z5
    split at z5
    · obtain rfl := Option.some.inj z5
      refine ⟨GR.i14 (G := (op, i, .leaf 0, .leaf 0) :: G) (by rw [List.map_cons, hs]) z2 z1 (by omega) (by omega) ⟨n, i, hG, rfl, rfl, ?_⟩, fun _ _ => rfl⟩
      show (if op = 9 ∨ op = 16 ∨ op = 35 then _ else _)
      rw [if_pos z3]
      exact ⟨rfl, rfl, rfl, z4, rfl⟩
    · cases z5
  have dp : ∀ (op : Nat) (c'' : Cs), (op = 9 ∨ op = 16 ∨ op = 35) → kK w i = (if op = 9 then 25 else if op = 16 then 31 else 36) → ((xdeep (p1, W, n, M)).bind fun Y => xpush (nI op) (-1) (nI (kP w i)) Y) = some X' → c'' = (14, r, v + 1, op :: s, b) → GR l w X' c''.1 c''.2.2.2.1 rs a0 (i + 1) ∧ (∀ j, j < rs → X'.2.2.2 j = M j) ∧ c''.2.1 = r := by
    intro op c'' z1 z2 z3 z4
    subst z4
    unfold xdeep at z3
    split at z3
    · rw [ob_some] at z3
      obtain ⟨y1, y2⟩ := psh1 (up p1 12 (p1 12 + 1)) op X' ((up_o _ _ (by decide)).trans q10) ((up_o _ _ (by decide)).trans q11) z1 z2 z3
      exact ⟨y1, y2, rfl⟩
    · cases z3
  have ls : ∀ (op : Nat) (c'' : Cs), (op = 20 ∨ op = 21) → kK w i + 6 = op → ((xpush (nI op) (-1) (nI (kP w i)) (p1, W, n, M)).bind fun Y => some (xw 13 Y)) = some X' → c'' = (13, r, v, op :: s, b) → GR l w X' c''.1 c''.2.2.2.1 rs a0 (i + 1) ∧ (∀ j, j < rs → X'.2.2.2 j = M j) ∧ c''.2.1 = r := by
    intro op c'' z1 z2 z3 z4
    subst z4
    unfold xpush at z3
    split at z3
    · rw [ob_some] at z3
      obtain rfl := Option.some.inj z3
      refine ⟨⟨(op, i, .leaf 0, .leaf 0) :: G, by rw [List.map_cons, hs], q11, fun z => by omega, fun _ => q10, by omega, hn9, ?_⟩, fun _ _ => rfl, rfl⟩
      show (if 13 = 15 then _ else if 13 = 14 then _ else _)
      rw [if_neg (by decide), if_neg (by decide)]
      exact ⟨by omega, hG, rfl, z1, rfl, rfl, rfl, z2, rfl⟩
    · cases z3
  by_cases c1 : k = 1
  · subst c1
    have z : some (xw 15 (up p1 13 (nI n), (xem 1 (nI (kP w i)) (nI (kP w i)) (nI (kE w i - kP w i)) (-1) (p1, W, n, M)).2)) = some X' := e3
    have d : some ((15, r, v, s, b) : Cs) = some c' := e2
    obtain rfl := Option.some.inj z
    obtain rfl := Option.some.inj d
    refine ⟨g_leaf hs ?_ ?_ hi hn hG (by rw [hk]; rfl) ⟨by rw [ndd_s]; rfl, Or.inl ⟨hk, ?_⟩⟩ rfl, fun j hj => ndd_o M _ (n := n) (by omega), rfl⟩
    · exact q11
    · exact q10
    · rw [ndd_s]; exact ⟨rfl, rfl, rfl, rfl⟩
  have vl : ∀ (kd v' : Int32) (c'' : Cs), some (xval kd v' (nI (kP w i)) (p1, W, n, M)) = some X' → c'' = (15, r, v, s, b) → opd (kK w i) = true → (∀ M' : Nat → Nat → Int32, M' n 0 = 0 → M' n 7 = 1 → M' n 5 = kd → M' n 6 = v' → Lf0 l w M' i n) → GR l w X' c''.1 c''.2.2.2.1 rs a0 (i + 1) ∧ (∀ j, j < rs → X'.2.2.2 j = M j) ∧ c''.2.1 = r := by
    intro kd v' c'' z1 z2 z3 z4
    subst z2
    obtain rfl := Option.some.inj z1
    have em : ∀ j, j ≠ n → pat (pat (ndd M n (nv8 0 (nI (kP w i)) (-1) (-1) (-1))) n 5 kd) n 6 v' j = M j := fun j hj => by rw [pat_o _ _ hj, pat_o _ _ hj, ndd_o _ _ hj]
    refine ⟨GR.i15 (n := n + 1) (T := .leaf i) (n1 := n) (i1 := i) hs ?_ ?_ (by omega) (by omega) (hG.fr fun j _ b => em j (by omega)) ⟨z3, rfl, rfl, z4 _ ?_ ?_ ?_ ?_, rfl, rfl⟩ rfl, fun j hj => em j (by omega), rfl⟩
    · exact q11
    · exact q10
    · rw [pat_c _ _ (by decide), pat_c _ _ (by decide), ndd_s]; rfl
    · rw [pat_c _ _ (by decide), pat_c _ _ (by decide), ndd_s]; rfl
    · rw [pat_c _ _ (by decide), pat_s]
    · rw [pat_s]
  by_cases c2 : k = 2
  · subst c2
    have d : some ((15, r, v, s, b) : Cs) = some c' := e2
    exact vl 1 (nv l (l.length - kP w i) (kP w i) 0) c' e3 (Option.some.inj d).symm (by rw [hk]; rfl) (fun M' a b c d => ⟨b, Or.inr (Or.inl ⟨hk, a, c, d⟩)⟩)
  by_cases c12 : k = 12
  · subst c12
    have d : some ((15, r, v, s, b) : Cs) = some c' := e2
    exact vl 2 1 c' e3 (Option.some.inj d).symm (by rw [hk]; rfl) (fun M' a b c d => ⟨b, Or.inr (Or.inr (Or.inl ⟨hk, a, c, d⟩))⟩)
  by_cases c13 : k = 13
  · subst c13
    have d : some ((15, r, v, s, b) : Cs) = some c' := e2
    exact vl 2 0 c' e3 (Option.some.inj d).symm (by rw [hk]; rfl) (fun M' a b c d => ⟨b, Or.inr (Or.inr (Or.inr ⟨hk, a, c, d⟩))⟩)
  by_cases c36 : k = 36
  · subst c36
    have d : (if v < 40 then some ((14, r, v + 1, 35 :: s, b) : Cs) else none) = some c' := e2
    split at d
    · exact dp 35 c' (by decide) hk e3 (Option.some.inj d).symm
    · cases d
  by_cases c25 : k = 25
  · subst c25
    have d : (if v < 40 then some ((14, r, v + 1, 9 :: s, b) : Cs) else none) = some c' := e2
    split at d
    · exact dp 9 c' (by decide) hk e3 (Option.some.inj d).symm
    · cases d
  by_cases c31 : k = 31
  · subst c31
    have d : (if tpo s ≤ 4 ∧ v < 40 then some ((14, r, v + 1, 16 :: s, b) : Cs) else none) = some c' := e2
    have z : (if 4 < hW W then none else (xdeep (p1, W, n, M)).bind fun Y => xpush 16 (-1) (nI (kP w i)) Y) = some X' := e3
    split at d
    · split at z
      · cases z
      · exact dp 16 c' (by decide) hk z (Option.some.inj d).symm
    · cases d
  by_cases c14 : k = 14
  · subst c14
    have d : some ((13, r, v, 20 :: s, b) : Cs) = some c' := e2
    exact ls 20 c' (by decide) (by rw [hk]) e3 (Option.some.inj d).symm
  by_cases c15 : k = 15
  · subst c15
    have d : some ((13, r, v, 21 :: s, b) : Cs) = some c' := e2
    exact ls 21 c' (by decide) (by rw [hk]) e3 (Option.some.inj d).symm
  exfalso
  unfold cOpd at e2
  rw [if_neg (by omega), if_neg c36, if_neg c25, if_neg c31, if_neg c14, if_neg c15] at e2
  cases e2
/-- the bracket of a list -/
theorem gR_lst {v : Nat} (hk : kK w i = 36) (h : GR l w (p, W, n, M) 13 s rs a0 i) : GR l w (up (up p 12 (nI (v + 1))) 8 14, W, n, M) 14 s rs a0 (i + 1) := by
  obtain ⟨G, hs, h11, ha, hb, hi, hn9, hG⟩ := h
  rw [if_neg (by decide), if_neg (by decide)] at hG
  obtain ⟨hlt, hG⟩ := hG
  have hG : G13 l w M rs a0 W G n i := hG
  cases W with
  | nil => exact hG.elim
  | cons e W =>
    cases G with
    | nil => exact hG.elim
    | cons g G =>
      obtain ⟨op, k, L, X⟩ := g
      obtain ⟨q1, q2, q3, q4, q5, q6, q7, q8⟩ := hG
      have q8 : i = k + 1 := q8
      have q3 : op = 20 ∨ op = 21 := q3
      refine GR.i14 (G := (op, k, L, X) :: G) hs h11 (hb hlt) (by omega) hn9 ⟨n, k, q1, q2, q4, ?_⟩
      show (if op = 9 ∨ op = 16 ∨ op = 35 then _ else if op = 20 ∨ op = 21 then _ else _)
      rw [if_neg (by omega), if_pos q3]
      exact ⟨rfl, q7, by rw [← q8]; exact hk, q6, Or.inl ⟨q5, rfl, by omega⟩⟩
end GRU
