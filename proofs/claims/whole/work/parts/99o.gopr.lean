/-! an operator in a rule, with the trees -/
theorem xb_p (h : Int32) : ∀ (W : List (Nat → Int32)) (p : Nat → Int32) (n : Nat) (M : Nat → Nat → Int32) (k : Nat), k ≠ 12 → k ≠ 13 → (xb h W p n M).1 k = p k := by
  intro W
  induction W with
  | nil => intro p n M k _ _; rfl
  | cons e W ih =>
    intro p n M k k1 k2
    have ex : xb h (e :: W) p n M = if hI (e 0) < h then (p, e :: W, n, M) else xb h W (bpp e p n) (n + 1) (bMM e p n M) := rfl
    rw [ex]
    split
    · rfl
    · rw [ih _ _ _ k k1 k2]
      unfold bpp
      repeat' split
      all_goals simp [up, k1, k2]
theorem fo_lo {n0 : Nat} : ∀ {T : Tr}, lev T ≤ 6 → fo n0 T := by
  intro T h
  cases T with
  | leaf k => trivial
  | branch n l r =>
    intro c
    exfalso
    have h : lvo (n % 64) ≤ 6 := h
    rcases c with c | c <;> rw [c] at h <;> exact absurd h (by decide)
theorem bl_ok {h : Nat} : ∀ (s : List Nat) (v j : Nat), okS s j = true → ∃ j', okS (bl h v s).2 j' = true := by
  intro s
  induction s with
  | nil => intro v j h; exact ⟨j, h⟩
  | cons a s ih =>
    intro v j hk
    by_cases c : h ≤ hol a
    · have e1 : bl h v (a :: s) = bl h (if a = 9 ∨ a = 16 ∨ a = 19 then v - 1 else v) s := if_pos c
      rw [e1]
      exact ih _ _ (okS_c hk).2.2
    · have e1 : bl h v (a :: s) = (v, a :: s) := if_neg c
      rw [e1]
      exact ⟨j, hk⟩
section GO
variable {l : List Int32} {w : List (Nat × Nat × Nat)} {rs a0 i n r v : Nat} {p : Nat → Int32} {W : List (Nat → Int32)} {M : Nat → Nat → Int32} {s : List Nat} {b : Bool}
/-- what is built at an operator -/
def GB' (l : List Int32) (w : List (Nat × Nat × Nat)) (rs a0 i h : Nat) (s' : List Nat) (p : Nat → Int32) (M : Nat → Nat → Int32) (p' : Nat → Int32) (W' : List (Nat → Int32)) (n' : Nat) (M' : Nat → Nat → Int32) : Prop := ∃ (G' : List Gh) (T' : Tr) (n1 i1 : Nat), GS l w M' rs a0 W' G' n1 i1 ∧ TT l w M' T' n1 i1 n' i (p' 13) ∧ (G'.map fun g => g.1) = s' ∧ lev T' ≤ lvh h ∧ (∀ j, j < rs → M' j = M j) ∧ p' 10 = nI (kP w a0) ∧ p' 11 = nI rs ∧ a0 < i ∧ n' + W'.length < 24850 ∧ (∀ k, k ≠ 12 → k ≠ 13 → p' k = p k)
theorem g_bl {h : Nat} (h1 : 1 ≤ h) (h9 : h < 9) (hk : okS s 0 = true) (hs : sm s = true) (hn : n + W.length < 24850) (q : GR l w (p, W, n, M) 15 s rs a0 i) : ∃ p' W' n' M', xb (nI h) W p n M = (p', W', n', M') ∧ GB' l w rs a0 i h (bl h v s).2 p M p' W' n' M' := by
  obtain ⟨G, e, h11, ha, hb, hi, hn9, hG⟩ := q
  rw [if_pos rfl] at hG
  obtain ⟨hlt, T, n1, i1, hG, hT, hl⟩ := hG
  have hG : GS l w M rs a0 W G n1 i1 := hG
  have hT : TT l w M T n1 i1 n i (p 13) := hT
  obtain ⟨p', W', n', M', G', T', n1', i1', z1, z2, z3, z4, z5, z6, z7, z8, z9⟩ := gb h1 h9 v W G p n M T n1 i1 hG hT ⟨0, by rw [e]; exact hk⟩ (by rw [e]; exact hs) (by rw [hl]; exact Nat.zero_le _) (by rw [hl]; exact Nat.zero_le _) (by omega)
  have pk := xb_p (nI h) W p n M
  rw [z1] at pk
  rw [e] at z4
  exact ⟨p', W', n', M', z1, G', T', n1', i1', z2, z3, z4, z5, z7, (pk 10 (by decide) (by decide)).trans (hb hlt), (pk 11 (by decide) (by decide)).trans h11, hlt, by omega, pk⟩
/-- what a step in a rule comes to: the rule goes on, or it is closed -/
def Gout (l : List Int32) (w : List (Nat × Nat × Nat)) (rs a0 i r k : Nat) (b : Bool) (p : Nat → Int32) (M : Nat → Nat → Int32) (X' : Xs) (c' : Cs) : Prop :=
  (GR l w X' c'.1 c'.2.2.2.1 rs a0 (i + 1) ∧ 13 ≤ c'.1 ∧ c'.2.1 = r ∧ (∀ j, j < rs → X'.2.2.2 j = M j) ∧ (∀ k, 14 ≤ k → X'.1 k = p k) ∧ c'.2.2.2.2 = b) ∨
  (∃ p' n' M' T, Wf w T ∧ bw T = a0 ∧ ew T = i ∧ Co l w M' T rs ∧ n' = rs + tln T ∧ p' 13 = nI (n' - 1) ∧ p' 10 = nI (kP w a0) ∧ p' 11 = nI rs ∧ (∀ k, k ≠ 12 → k ≠ 13 → p' k = p k) ∧ (∀ j, j < rs → M' j = M j) ∧ xclose (nI (κ k)) (nI (kP w i)) (p', [], n', M') = some X' ∧ cClo k r b = some c' ∧ n' < 24850 ∧ lev T ≤ 6)
theorem g_bin {h a : Nat} {X' : Xs} {p' : Nat → Int32} {W' : List (Nat → Int32)} {n' : Nat} {M' : Nat → Nat → Int32} {s' : List Nat} {v' k : Nat} (ha : bin a = true) (h17 : a ≠ 17) (h18 : a ≠ 18) (hl : lvh h ≤ lL a) (hkk : kK w i = opk a) (q : GB' l w rs a0 i h s' p M p' W' n' M') (e : xpush (nI a) (-1) (nI (kP w i)) (p', W', n', M') = some X') : Gout l w rs a0 i r k b p M X' (14, r, v', a :: s', b) := by
  obtain ⟨G', T', n1, i1, z1, z2, z3, z4, z5, z6, z7, z8, z9, z10⟩ := q
  obtain ⟨t1, t2, t3, t4, t5, t6⟩ := z2
  obtain ⟨b1, b2, b3, b4, b5⟩ := bin_no a ha
  have ge : GE l w M' (ent (nI a) (nI (kP w i)) (p' 13) (-1) (-1)) a i T' (.leaf 0) n1 i1 n' (i + 1) := by
    refine ⟨rfl, rfl, ?_⟩
    rw [if_neg (by omega), if_neg (by omega), if_neg (by omega), if_neg (by omega)]
    exact ⟨t1, t2, t3, t4, t6.trans (by rw [t5]), ha, Nat.le_trans z4 hl, hkk, rfl, t5, rfl⟩
  unfold xpush at e
  split at e
  · obtain rfl := Option.some.inj e
    refine Or.inl ⟨GR.i14 (G := (a, i, T', .leaf 0) :: G') (by rw [List.map_cons, z3]) ?_ ?_ (by omega) (by omega) ⟨n1, i1, z1, ge⟩, by show 13 ≤ 14; decide, rfl, z5, fun j hj => ?_, rfl⟩
    · exact z7
    · exact z6
    · show (if j = 8 then (14 : Int32) else p' j) = p j
      rw [if_neg (by omega)]
      exact z10 j (by omega) (by omega)
  · cases e
theorem g_pj {h a sk : Nat} {X' : Xs} {p' : Nat → Int32} {W' : List (Nat → Int32)} {n' : Nat} {M' : Nat → Nat → Int32} {q2 : Nat → Int32} {s' : List Nat} {v' k : Nat} (ha : a = 36 ∨ a = 17 ∨ a = 18) (hsk : sk = (if a = 18 then 24 else 23)) (hl : lvh h ≤ (if a = 17 then 4 else 5)) (hkk : kK w i = (if a = 36 then 32 else opk a)) (q : GB' l w rs a0 i h s' p M p' W' n' M') (hq : ∀ j, j ≠ 12 → q2 j = p' j) (e : xpush (nI a) (nI n') (nI (kP w i)) (q2, W', n' + 1, ndd M' n' (nv8 (nI sk) (nI (kP w i)) (q2 13) (-1) (-1))) = some X') : Gout l w rs a0 i r k b p M X' (14, r, v', a :: s', b) := by
  obtain ⟨G', T', n1, i1, z1, z2, z3, z4, z5, z6, z7, z8, z9, z10⟩ := q
  obtain ⟨t1, t2, t3, t4, t5, t6⟩ := z2
  have hle := z1.le
  have pT := tln_pos T'
  have q13 : q2 13 = nI (n' - 1) := (hq 13 (by decide)).trans t6
  have old : ∀ j, j < n' → ndd M' n' (nv8 (nI sk) (nI (kP w i)) (q2 13) (-1) (-1)) j = M' j := fun j hj => ndd_o _ _ (by omega)
  have ge : GE l w (ndd M' n' (nv8 (nI sk) (nI (kP w i)) (q2 13) (-1) (-1))) (ent (nI a) (nI (kP w i)) (q2 13) (-1) (nI n')) a i T' (.leaf 0) n1 i1 (n' + 1) (i + 1) := by
    refine ⟨rfl, rfl, ?_⟩
    rw [if_neg (by omega), if_neg (by omega), if_pos ha]
    refine ⟨t1, t2, t3, Co.fr t4 (fun j _ b => old j (by omega)), q13.trans (by rw [t5]), Nat.le_trans z4 hl, hkk, ?_, ?_, ?_, ?_, rfl⟩
    · rw [← t5, ndd_s, ← hsk]; rfl
    · rw [← t5, ndd_s]; exact q13
    · rw [← t5]; rfl
    · omega
  unfold xpush at e
  split at e
  · obtain rfl := Option.some.inj e
    refine Or.inl ⟨GR.i14 (G := (a, i, T', .leaf 0) :: G') (by rw [List.map_cons, z3]) ?_ ?_ (by omega) (by omega) ⟨n1, i1, z1.fr (fun j _ b => old j (by omega)), ge⟩, by show 13 ≤ 14; decide, rfl, fun j hj => (old j (by omega)).trans (z5 j hj), fun j hj => ?_, rfl⟩
    · exact (hq 11 (by decide)).trans z7
    · exact (hq 10 (by decide)).trans z6
    · show (if j = 8 then (14 : Int32) else q2 j) = p j
      rw [if_neg (by omega), hq j (by omega)]
      exact z10 j (by omega) (by omega)
  · cases e
/-- parts of a list are joined -/
theorem g_fold {e : Nat → Int32} {p' : Nat → Int32} {n' op k : Nat} {M' : Nat → Nat → Int32} {L X T' : Tr} {n0 i0 n1 i1 : Nat} (ho : op = 20 ∨ op = 21) (hE : GE l w M' e op k L X n0 i0 n1 i1) (hT : TT l w M' T' n1 i1 n' i (p' 13)) (hl : lev T' ≤ 6) (hn : n' < 24850) : ∃ X2, Wf w X2 ∧ lev X2 ≤ 7 ∧ fo (op + 64 * k) X2 ∧ bw X2 = k + 2 ∧ ew X2 = i ∧ Co l w (fM e p' n' M') X2 n0 ∧ fN e n' = n0 + tln X2 ∧ fP e p' n' 13 = nI (fN e n' - 1) ∧ fE e p' n' 3 = nI (fN e n' - 1) ∧ (∀ j, j < n0 → fM e p' n' M' j = M' j) ∧ k = i0 ∧ kK w k + 6 = op ∧ kK w (k + 1) = 36 ∧ e 4 = -1 := by
  obtain ⟨g0, g1, hE⟩ := hE
  rw [if_neg (by omega), if_pos ho] at hE
  obtain ⟨q1, q2, q3, q4, hE⟩ := hE
  obtain ⟨t1, t2, t3, t4, t5, t6⟩ := hT
  have pT := tln_pos T'
  rcases hE with ⟨y1, y2, y3⟩ | ⟨y1, y2, y3, y4, y5, y6, y7, y8, y9⟩
  · have m1 : e 3 < 0 := by rw [y1]; decide
    have eM : fM e p' n' M' = M' := if_pos m1
    have eN : fN e n' = n' := if_pos m1
    have eP : fP e p' n' = p' := if_pos m1
    have eE : fE e p' n' = up e 3 (p' 13) := if_pos m1
    refine ⟨T', t1, by omega, fo_lo hl, by omega, t3, ?_, by rw [eN]; omega, by rw [eP, eN]; exact t6, ?_, fun j _ => by rw [eM], q1, q2, q3, q4⟩
    · rw [eM, ← y2]; exact t4
    · rw [eE, up_s, eN]; exact t6
  · have pX := tln_pos X
    have m1 : ¬ e 3 < 0 := by rw [y1]; exact nI_pos (by omega)
    have eM : fM e p' n' M' = ndd M' n' (nv8 (e 0) (e 1) (e 3) (p' 13) (-1)) := if_neg m1
    have eN : fN e n' = n' + 1 := if_neg m1
    have eP : fP e p' n' = up p' 13 (nI n') := if_neg m1
    have eE : fE e p' n' = up e 3 (nI n') := if_neg m1
    have old : ∀ j, j < n' → fM e p' n' M' j = M' j := fun j hj => by rw [eM, ndd_o _ _ (by omega)]
    have o64 : op < 64 := by omega
    have tl : tln (nd op k X T') = tln X + tln T' + 1 := by rw [tln_nd o64, lnc_4 (by omega) (by omega) (by omega)]
    have un0 : un op = false := by rcases ho with rfl | rfl <;> rfl
    refine ⟨nd op k X T', ?_, ?_, ?_, ?_, ?_, ?_, ?_, ?_, ?_, fun j hj => old j (by omega), q1, q2, q3, q4⟩
    · refine (Wf_nd o64).mpr ⟨fun _ => y2, t1, fun z => by omega, ?_⟩
      unfold wfn
      rw [if_neg (by omega), if_neg (by omega), if_neg (by omega), if_neg (by omega), if_pos ho]
      exact ⟨y6, by omega, y3, hl⟩
    · rw [lev_nd o64]; rcases ho with rfl | rfl <;> decide
    · exact fun _ => ⟨rfl, y4⟩
    · rw [bw_nd o64, un0, if_neg Bool.false_ne_true]; exact y5
    · rw [ew_nd o64, if_neg (by omega)]; exact t3
    · refine (Code_nd o64).mpr ?_
      rw [if_neg (by omega), if_neg (by omega), if_neg (by omega), if_neg (by omega), if_neg (by omega)]
      refine ⟨Co.fr y8 (fun j _ b => old j (by omega)), ?_, ?_⟩
      · have := Co.fr t4 (M' := fM e p' n' M') (fun j _ b => old j (by omega))
        rw [y9] at this
        exact this
      · rw [eM, show n0 + tln X + tln T' = n' by omega, show n0 + tln X - 1 = n1 - 1 by omega, ← y1, ← t6]
        exact Nd_new M' n' op (kP w k) g0 g1
    · rw [eN, tl]; omega
    · rw [eP, eN, up_s]; rfl
    · rw [eE, eN, up_s]; rfl
theorem g_end {p' : Nat → Int32} {W' : List (Nat → Int32)} {n' : Nat} {M' : Nat → Nat → Int32} {k v' : Nat} {s' : List Nat} {X' : Xs} {c' : Cs} (hk : kK w i = k) (hk40 : k < 40) (hs : sm s' = true) (hP : Pl w) (q : GB' l w rs a0 i 1 s' p M p' W' n' M') (e1 : xend0 (nI (κ k)) (nI (kP w i)) (p', W', n', M') = some X') (e2 : cEnd k r v' b s' = some c') : Gout l w rs a0 i r k b p M X' c' := by
  obtain ⟨G', T', n1, i1, z1, z2, z3, z4, z5, z6, z7, z8, z9, z10⟩ := q
  have z4 : lev T' ≤ 6 := z4
  cases W' with
  | nil =>
    cases G' with
    | cons g G => exact z1.elim
    | nil =>
      have z3 : [] = s' := z3
      subst z3
      obtain ⟨y1, y2⟩ := z1
      obtain ⟨t1, t2, t3, t4, t5, t6⟩ := z2
      refine Or.inr ⟨p', n', M', T', t1, t2.trans y2, t3, ?_, by omega, t6, z6, z7, z10, z5, e1, e2, by have : n' + 0 < 24850 := z9; omega, z4⟩
      rw [← y1]; exact t4
  | cons e W' =>
    cases G' with
    | nil => exact z1.elim
    | cons g G =>
      obtain ⟨op, kk, L, X⟩ := g
      obtain ⟨n0, i0, hG, hE⟩ := z1
      have hE : GE l w M' e op kk L X n0 i0 n1 i1 := hE
      have hle := hG.le
      have hle2 := hE.le
      cases s' with
      | nil => cases z3
      | cons a s2 =>
        have z3' : op = a ∧ (G.map fun g => g.1) = s2 := by
          have z3 : op :: (G.map fun g => g.1) = a :: s2 := z3
          injection z3 with y1 y2
          exact ⟨y1, y2⟩
        obtain ⟨rfl, z3'⟩ := z3'
        have ho : op < 40 := of_decide_eq_true (Bool.and_eq_true_iff.mp (show (decide (op < 40) && sm s2) = true from hs)).1
        have k41 : nI (κ k) = 41 ↔ k = 37 := kqq k hk40 (m := 37) (by decide)
        have k58 : nI (κ k) = 58 ↔ k = 33 := kqq k hk40 (m := 33) (by decide)
        have k44 : nI (κ k) = 44 ↔ k = 35 := kqq k hk40 (m := 35) (by decide)
        have em : ∀ m, m < 40 → (e 0 = nI m ↔ op = m) := fun m hm => by rw [hE.1]; exact nI_eq (by omega) (by omega)
        have ex : xend0 (nI (κ k)) (nI (kP w i)) (p', e :: W', n', M') = if nI (κ k) = 41 then (if e 0 = 35 then some (up p' 12 (p' 12 - 1), W', n', M') else xe76 (nI (κ k)) (nI (kP w i)) e W' p' n' M') else xe76 (nI (κ k)) (nI (kP w i)) e W' p' n' M' := rfl
        have ec : cEnd k r v' b (op :: s2) = if op = 35 then (if k = 37 then some (15, r, v' - 1, s2, b) else none)
          else if op = 36 then (if k = 33 then some (14, r, v', 19 :: s2, b) else none)
          else if op = 20 ∨ op = 21 then (if k = 35 then some (14, r, v', op :: s2, b) else if k = 37 then some (15, r, v' - 1, s2, b) else none)
          else none := rfl
        have e76 : xe76 (nI (κ k)) (nI (kP w i)) e W' p' n' M' = if nI (κ k) = 58 then (if e 0 = 36 then some (xoth (nI (kP w i)) e W' p' n' M') else xe105 (nI (κ k)) e W' p' n' M') else xe105 (nI (κ k)) e W' p' n' M' := rfl
        rw [ex] at e1
        rw [ec] at e2
        have z9 : n' + (W'.length + 1) < 24850 := z9
        by_cases c35 : op = 35
        · rw [if_pos c35] at e2
          subst c35
          by_cases c : k = 37
          · rw [if_pos c] at e2
            rw [if_pos (k41.mpr c), if_pos ((show e 0 = 35 ↔ 35 = 35 from em 35 (by decide)).mpr rfl)] at e1
            obtain rfl := Option.some.inj e1
            obtain rfl := Option.some.inj e2
            obtain ⟨g0, g1, hE⟩ := hE
            rw [if_pos (by decide)] at hE
            obtain ⟨q1, q2, q3, q4, q5⟩ := hE
            obtain ⟨t1, t2, t3, t4, t5, t6⟩ := z2
            refine Or.inl ⟨GR.i15 (G := G) (T := nd 35 kk (.leaf 0) T') (n1 := n0) (i1 := i0) z3' ?_ ?_ (by omega) (by omega) hG ⟨?_, ?_, ?_, ?_, ?_, ?_⟩ (lev_nd (by decide)), by show 13 ≤ 15; decide, rfl, z5, fun j hj => ?_, rfl⟩
            · exact z7
            · exact z6
            · exact (Wf_nd (by decide)).mpr ⟨fun z => absurd z (by decide), t1, fun z => absurd z (by decide), q4, by omega, by rw [t3, hk]; exact c, z4⟩
            · rw [bw_nd (by decide)]; exact q1
            · rw [ew_nd (by decide)]; show ew T' + 1 = i + 1; omega
            · refine (Code_nd (by decide)).mpr ?_
              rw [← q2]; exact t4
            · rw [tln_nd (by decide)]; show n' = n0 + tln T'; omega
            · exact t6
            · show (if j = 12 then _ else p' j) = p j
              rw [if_neg (by omega)]
              exact z10 j (by omega) (by omega)
          · rw [if_neg c] at e2; cases e2
        rw [if_neg c35] at e2
        have n35 : ¬ e 0 = 35 := fun z => c35 ((show e 0 = 35 ↔ op = 35 from em 35 (by decide)).mp z)
        have e1 : xe76 (nI (κ k)) (nI (kP w i)) e W' p' n' M' = some X' := by
          rw [if_neg n35] at e1
          split at e1 <;> exact e1
        by_cases c36 : op = 36
        · rw [if_pos c36] at e2
          subst c36
          by_cases c : k = 33
          · rw [if_pos c] at e2
            rw [e76, if_pos (k58.mpr c), if_pos ((show e 0 = 36 ↔ 36 = 36 from em 36 (by decide)).mpr rfl)] at e1
            obtain rfl := Option.some.inj e1
            obtain rfl := Option.some.inj e2
            obtain ⟨g0, g1, hE⟩ := hE
            rw [if_neg (by decide), if_neg (by decide), if_pos (by decide)] at hE
            obtain ⟨x1, x2, x3, x4, x5, y1, y2, y3, y4, y5, y6, y7⟩ := hE
            obtain ⟨t1, t2, t3, t4, t5, t6⟩ := z2
            have pL := tln_pos L
            have pT := tln_pos T'
            have cl : (e 4).toNatClampNeg = n0 + tln L := by rw [y5]; exact nI_clamp (by omega)
            have old : ∀ j, j < n' → j ≠ n0 + tln L → pat (ndd M' n' (nv8 25 (nI (kP w i)) (-1) (-1) (-1))) (e 4).toNatClampNeg 4 (nI (n' + 1)) j = M' j := fun j a b => by rw [cl, pat_o _ _ b, ndd_o _ _ (by omega)]
            have nn : ∀ c, pat (ndd M' n' (nv8 25 (nI (kP w i)) (-1) (-1) (-1))) (e 4).toNatClampNeg 4 (nI (n' + 1)) n' c = nv8 25 (nI (kP w i)) (-1) (-1) (-1) c := fun c => by rw [cl, pat_o _ _ (by omega), ndd_s]
            have nj : ∀ c, c ≠ 4 → pat (ndd M' n' (nv8 25 (nI (kP w i)) (-1) (-1) (-1))) (e 4).toNatClampNeg 4 (nI (n' + 1)) (n0 + tln L) c = M' (n0 + tln L) c := fun c hc => by rw [cl, pat_c _ _ hc, ndd_o _ _ (by omega)]
            have ge : GE l w (pat (ndd M' n' (nv8 25 (nI (kP w i)) (-1) (-1) (-1))) (e 4).toNatClampNeg 4 (nI (n' + 1))) (up (up (up e 0 19) 3 (p' 13)) 4 (nI n')) 19 kk L T' n0 i0 (n' + 1) (i + 1) := by
              refine ⟨rfl, g1, ?_⟩
              rw [if_neg (by decide), if_neg (by decide), if_neg (by decide), if_pos rfl]
              refine ⟨x1, x2, x3, Co.fr x4 (fun j _ b => old j (by omega) (by omega)), x5, y1, y2, ⟨?_, ?_, ?_⟩, t1, z4, by omega, by rw [t3, hk]; exact c, ?_, ?_, ?_, ?_, ?_, ?_, ?_⟩
              · rw [nj 0 (by decide)]; exact y3
              · rw [nj 2 (by decide)]; exact y4
              · rw [cl, pat_s]
                exact congrArg nI (by omega)
              · have := Co.fr t4 (M' := pat (ndd M' n' (nv8 25 (nI (kP w i)) (-1) (-1) (-1))) (e 4).toNatClampNeg 4 (nI (n' + 1))) (fun j a b => old j (by omega) (by omega))
                rw [y6] at this
                exact this
              · rw [show n0 + tln L + 1 + tln T' = n' by omega, nn]; rfl
              · rw [show n0 + tln L + 1 + tln T' = n' by omega, nn]; rfl
              · show p' 13 = _
                rw [t6]
                exact congrArg nI (by omega)
              · show nI n' = _
                exact congrArg nI (by omega)
              · omega
              · omega
            refine Or.inl ⟨GR.i14 (p := up p' 8 14) (n := n' + 1) (G := (19, kk, L, T') :: G) (by rw [List.map_cons, z3']) ?_ ?_ (by omega) (by omega) ⟨n0, i0, hG.fr (fun j _ b => old j (by omega) (by omega)), ge⟩, by show 13 ≤ 14; decide, rfl, fun j hj => (old j (by omega) (by omega)).trans (z5 j hj), fun j hj => ?_, rfl⟩
            · exact z7
            · exact z6
            · show (if j = 8 then (14 : Int32) else p' j) = p j
              rw [if_neg (by omega)]
              exact z10 j (by omega) (by omega)
          · rw [if_neg c] at e2; cases e2
        rw [if_neg c36] at e2
        have n36 : ¬ e 0 = 36 := fun z => c36 ((show e 0 = 36 ↔ op = 36 from em 36 (by decide)).mp z)
        have e1 : xe105 (nI (κ k)) e W' p' n' M' = some X' := by
          rw [e76, if_neg n36] at e1
          split at e1 <;> exact e1
        by_cases c20 : op = 20 ∨ op = 21
        · rw [if_pos c20] at e2
          have e1 : xe119 (nI (κ k)) e W' p' n' M' = some X' := by
            unfold xe105 at e1
            rcases c20 with z | z
            · rw [if_pos ((show e 0 = 20 ↔ op = 20 from em 20 (by decide)).mpr z)] at e1; exact e1
            · rw [if_neg (fun y => by have := (show e 0 = 20 ↔ op = 20 from em 20 (by decide)).mp y; omega), if_pos ((show e 0 = 21 ↔ op = 21 from em 21 (by decide)).mpr z)] at e1; exact e1
          unfold xe119 at e1
          obtain ⟨X2, f1, f2, f3, f4, f5, f6, f7, f8, f9, f10, f11, f12, f13, f14⟩ := g_fold (p' := p') c20 hE z2 z4 (by omega)
          have g0 := hE.1
          have g1 := hE.2.1
          have pX := tln_pos X2
          have hN := fN_le e n'
          have oth : ∀ j, j ≠ 13 → fP e p' n' j = p' j := fun j hj => fP_o e p' n' hj
          by_cases c : k = 35
          · rw [if_pos c] at e2
            rw [if_pos (k44.mpr c)] at e1
            obtain rfl := Option.some.inj e1
            obtain rfl := Option.some.inj e2
            have ge : GE l w (fM e p' n' M') (fE e p' n') op kk L X2 n0 i0 (fN e n') (i + 1) := by
              refine ⟨(fE_o e p' n' (by decide)).trans g0, (fE_o e p' n' (by decide)).trans g1, ?_⟩
              rw [if_neg (by omega), if_pos c20]
              exact ⟨f11, f12, f13, (fE_o e p' n' (by decide)).trans f14, Or.inr ⟨f9, f1, f2, f3, f4, by rw [f5, hk]; exact c, by omega, f6, f7⟩⟩
            refine Or.inl ⟨GR.i14 (p := up (fP e p' n') 8 14) (n := fN e n') (G := (op, kk, L, X2) :: G) (by rw [List.map_cons, z3']) ?_ ?_ (by omega) (by omega) ⟨n0, i0, hG.fr (fun j _ b => f10 j b), ge⟩, by show 13 ≤ 14; decide, rfl, fun j hj => (f10 j (by omega)).trans (z5 j hj), fun j hj => ?_, rfl⟩
            · exact (oth 11 (by decide)).trans z7
            · exact (oth 10 (by decide)).trans z6
            · show (if j = 8 then (14 : Int32) else fP e p' n' j) = p j
              rw [if_neg (by omega), oth j (by omega)]
              exact z10 j (by omega) (by omega)
          · rw [if_neg c] at e2
            rw [if_neg (fun z => c (k44.mp z))] at e1
            by_cases d : k = 37
            · rw [if_pos d] at e2
              rw [if_pos (k41.mpr d)] at e1
              obtain rfl := Option.some.inj e1
              obtain rfl := Option.some.inj e2
              have old : ∀ j, j < fN e n' → ndd (fM e p' n' M') (fN e n') (nv8 22 (fE e p' n' 1) (fP e p' n' 13) (-1) (-1)) j = fM e p' n' M' j := fun j hj => ndd_o _ _ (by omega)
              refine Or.inl ⟨GR.i15 (p := up (up (fP e p' n') 13 (nI (fN e n'))) 12 (fP e p' n' 12 - 1)) (n := fN e n' + 1) (G := G) (T := nd 22 kk (.leaf 0) X2) (n1 := n0) (i1 := i0) z3' ?_ ?_ (by omega) (by omega) (hG.fr (fun j _ b => (old j (by omega)).trans (f10 j b))) ⟨?_, ?_, ?_, ?_, ?_, ?_⟩ (lev_nd (by decide)), by show 13 ≤ 15; decide, rfl, fun j hj => (old j (by omega)).trans ((f10 j (by omega)).trans (z5 j hj)), fun j hj => ?_, rfl⟩
              · exact (oth 11 (by decide)).trans z7
              · exact (oth 10 (by decide)).trans z6
              · refine (Wf_nd (by decide)).mpr ⟨fun z => absurd z (by decide), f1, fun _ => by rw [f12]; exact f3, ?_, f13, f4, by rw [f5, hk]; exact d, f2⟩
                rcases c20 with z | z <;> omega
              · rw [bw_nd (by decide)]; exact f11
              · rw [ew_nd (by decide)]; show ew X2 + 1 = i + 1; omega
              · refine (Code_nd (by decide)).mpr ⟨?_, ?_⟩
                · exact Co.fr f6 (fun j _ b => old j (by omega))
                · rw [← f7, ← f8]
                  exact Nd_new _ _ 22 (kP w kk) rfl ((fE_o e p' n' (by decide)).trans g1)
              · rw [tln_nd (by decide)]; show fN e n' + 1 = n0 + (tln X2 + 1); omega
              · rfl
              · show (if j = 12 then _ else if j = 13 then _ else fP e p' n' j) = p j
                rw [if_neg (by omega), if_neg (by omega), oth j (by omega)]
                exact z10 j (by omega) (by omega)
            · rw [if_neg d] at e2; cases e2
        · rw [if_neg c20] at e2; cases e2
theorem gR_opr {k : Nat} {X' : Xs} {c' : Cs} (hk : kK w i = k) (hk40 : k < 40) (hs : sm s = true) (hok : okS s 0 = true) (hP : Pl w) (hn : n + W.length < 24850) (hR : GR l w (p, W, n, M) 15 s rs a0 i) (e1 : xopr (nI (κ k)) (nI (kP w i)) (p, W, n, M) = some X') (e2 : cOpr k r v s b = some c') : Gout l w rs a0 i r k b p M X' c' := by
  have bl1 : ∀ h, 1 ≤ h → h < 9 → ∃ p' W' n' M', xb (nI h) W p n M = (p', W', n', M') ∧ GB' l w rs a0 i h (bl h v s).2 p M p' W' n' M' := fun h h1 h9 => g_bl h1 h9 hok hs hn hR
  by_cases c26 : k = 26
  · subst c26
    have d : some ((14, r, (bl 7 v s).1, 6 :: (bl 7 v s).2, b) : Cs) = some c' := e2
    obtain rfl := Option.some.inj d
    have e1 : xpush (nI 6) (-1) (nI (kP w i)) (xb (nI 7) W p n M) = some X' := e1
    obtain ⟨p', W', n', M', eY, q⟩ := bl1 7 (by decide) (by decide)
    rw [eY] at e1
    exact g_bin (h := 7) rfl (by decide) (by decide) (by decide) hk q e1
  by_cases c27 : k = 27
  · subst c27
    have d : some ((14, r, (bl 7 v s).1, 7 :: (bl 7 v s).2, b) : Cs) = some c' := e2
    obtain rfl := Option.some.inj d
    have e1 : xpush (nI 7) (-1) (nI (kP w i)) (xb (nI 7) W p n M) = some X' := e1
    obtain ⟨p', W', n', M', eY, q⟩ := bl1 7 (by decide) (by decide)
    rw [eY] at e1
    exact g_bin (h := 7) rfl (by decide) (by decide) (by decide) hk q e1
  by_cases c28 : k = 28
  · subst c28
    have d : some ((14, r, (bl 7 v s).1, 8 :: (bl 7 v s).2, b) : Cs) = some c' := e2
    obtain rfl := Option.some.inj d
    have e1 : xpush (nI 8) (-1) (nI (kP w i)) (xb (nI 7) W p n M) = some X' := e1
    obtain ⟨p', W', n', M', eY, q⟩ := bl1 7 (by decide) (by decide)
    rw [eY] at e1
    exact g_bin (h := 7) rfl (by decide) (by decide) (by decide) hk q e1
  by_cases c24 : k = 24
  · subst c24
    have d : some ((14, r, (bl 6 v s).1, 4 :: (bl 6 v s).2, b) : Cs) = some c' := e2
    obtain rfl := Option.some.inj d
    have e1 : xpush (nI 4) (-1) (nI (kP w i)) (xb (nI 6) W p n M) = some X' := e1
    obtain ⟨p', W', n', M', eY, q⟩ := bl1 6 (by decide) (by decide)
    rw [eY] at e1
    exact g_bin (h := 6) rfl (by decide) (by decide) (by decide) hk q e1
  by_cases c25 : k = 25
  · subst c25
    have d : some ((14, r, (bl 6 v s).1, 5 :: (bl 6 v s).2, b) : Cs) = some c' := e2
    obtain rfl := Option.some.inj d
    have e1 : xpush (nI 5) (-1) (nI (kP w i)) (xb (nI 6) W p n M) = some X' := e1
    obtain ⟨p', W', n', M', eY, q⟩ := bl1 6 (by decide) (by decide)
    rw [eY] at e1
    exact g_bin (h := 6) rfl (by decide) (by decide) (by decide) hk q e1
  have cmp : ∀ a, bin a = true → a ≠ 17 → a ≠ 18 → lL a = 2 → kK w i = opk a → xcmp (nI a) (nI (kP w i)) (p, W, n, M) = some X' → (if tpo (bl 6 v s).2 = 5 then none else some ((14, r, (bl 6 v s).1, a :: (bl 6 v s).2, b) : Cs)) = some c' → Gout l w rs a0 i r k b p M X' c' := by
    intro a a1 a2 a3 a4 a5 a6 a7
    split at a7
    · cases a7
    · obtain rfl := Option.some.inj a7
      have a6 : (if hW (xb (nI 6) W p n M).2.1 = 5 then none else xpush (nI a) (-1) (nI (kP w i)) (xb (nI 6) W p n M)) = some X' := a6
      split at a6
      · cases a6
      · obtain ⟨p', W', n', M', eY, q⟩ := bl1 6 (by decide) (by decide)
        rw [eY] at a6
        exact g_bin (h := 6) a1 a2 a3 (by rw [a4]; decide) a5 q a6
  by_cases cc : cmpk k = true
  · have e := cmpk_e k hk40 cc
    rcases e with e | e | e | e | e | e <;> subst e
    · exact cmp 11 rfl (by decide) (by decide) rfl hk e1 e2
    · exact cmp 13 rfl (by decide) (by decide) rfl hk e1 e2
    · exact cmp 15 rfl (by decide) (by decide) rfl hk e1 e2
    · exact cmp 12 rfl (by decide) (by decide) rfl hk e1 e2
    · exact cmp 14 rfl (by decide) (by decide) rfl hk e1 e2
    · exact cmp 10 rfl (by decide) (by decide) rfl hk e1 e2
  by_cases c29 : k = 29
  · subst c29
    have d : some ((14, r, (bl 3 v s).1, 17 :: (bl 3 v s).2, b) : Cs) = some c' := e2
    obtain rfl := Option.some.inj d
    have e1 : xpush (nI 17) (nI (xb (nI 3) W p n M).2.2.1) (nI (kP w i)) ((xb (nI 3) W p n M).1, (xb (nI 3) W p n M).2.1, (xb (nI 3) W p n M).2.2.1 + 1, ndd (xb (nI 3) W p n M).2.2.2 (xb (nI 3) W p n M).2.2.1 (nv8 (nI 23) (nI (kP w i)) ((xb (nI 3) W p n M).1 13) (-1) (-1))) = some X' := e1
    obtain ⟨p', W', n', M', eY, q⟩ := bl1 3 (by decide) (by decide)
    rw [eY] at e1
    exact g_pj (h := 3) (a := 17) (sk := 23) (q2 := p') (by decide) rfl (by decide) hk q (fun _ _ => rfl) e1
  by_cases c30 : k = 30
  · subst c30
    have d : some ((14, r, (bl 2 v s).1, 18 :: (bl 2 v s).2, b) : Cs) = some c' := e2
    obtain rfl := Option.some.inj d
    have e1 : xpush (nI 18) (nI (xb (nI 2) W p n M).2.2.1) (nI (kP w i)) ((xb (nI 2) W p n M).1, (xb (nI 2) W p n M).2.1, (xb (nI 2) W p n M).2.2.1 + 1, ndd (xb (nI 2) W p n M).2.2.2 (xb (nI 2) W p n M).2.2.1 (nv8 (nI 24) (nI (kP w i)) ((xb (nI 2) W p n M).1 13) (-1) (-1))) = some X' := e1
    obtain ⟨p', W', n', M', eY, q⟩ := bl1 2 (by decide) (by decide)
    rw [eY] at e1
    exact g_pj (h := 2) (a := 18) (sk := 24) (q2 := p') (by decide) rfl (by decide) hk q (fun _ _ => rfl) e1
  by_cases c32 : k = 32
  · subst c32
    have d : (if (bl 2 v s).2 = [] ∧ r = 6 then none else if (bl 2 v s).1 < 40 then some ((14, r, (bl 2 v s).1 + 1, 36 :: (bl 2 v s).2, b) : Cs) else none) = some c' := e2
    have e1 : (if nI (xb (nI 2) W p n M).2.1.length = 0 then (if (xb (nI 2) W p n M).1 9 = 6 then none else xq (nI (kP w i)) (xb (nI 2) W p n M)) else xq (nI (kP w i)) (xb (nI 2) W p n M)) = some X' := e1
    have e1 : xq (nI (kP w i)) (xb (nI 2) W p n M) = some X' := by
      split at e1
      · split at e1
        · cases e1
        · exact e1
      · exact e1
    split at d
    · cases d
    · split at d
      · obtain rfl := Option.some.inj d
        obtain ⟨p', W', n', M', eY, q⟩ := bl1 2 (by decide) (by decide)
        rw [eY] at e1
        unfold xq at e1
        unfold xdeep at e1
        split at e1
        · rw [ob_some] at e1
          exact g_pj (h := 2) (a := 36) (sk := 23) (q2 := up p' 12 (p' 12 + 1)) (by decide) rfl (by decide) hk q (fun j hj => up_o _ _ hj) e1
        · cases e1
      · cases d
  have cc' : cmpk k = false := by cases h : cmpk k; rfl; exact absurd h cc
  obtain ⟨n1, n2, n3, n4, n5, n6, n7, n8, n9, n10, n11, n12, n13, n14⟩ := opr_no k hk40 c26 c27 c28 c24 c25 cc' c29 c30 c32
  have e1 : xend0 (nI (κ k)) (nI (kP w i)) (xb (nI 1) W p n M) = some X' := by
    unfold xopr at e1
    rw [if_neg n1, if_neg n2, if_neg n3, if_neg n4, if_neg n5, if_neg n6, if_neg n7, if_neg n8, if_neg n9, if_neg n10, if_neg n11, if_neg n12, if_neg n13, if_neg n14] at e1
    exact e1
  have e2 : cEnd k r (bl 1 v s).1 b (bl 1 v s).2 = some c' := by
    unfold cOpr at e2
    rw [if_neg (by omega), if_neg (by omega), if_neg (by rw [cc']; decide), if_neg c29, if_neg c30, if_neg c32] at e2
    exact e2
  have bsm : ∀ (s : List Nat) (v : Nat), sm s = true → sm (bl 1 v s).2 = true := by
    intro s
    induction s with
    | nil => intro v h; exact h
    | cons a s ih =>
      intro v h
      by_cases c : 1 ≤ hol a
      · have e1 : bl 1 v (a :: s) = bl 1 (if a = 9 ∨ a = 16 ∨ a = 19 then v - 1 else v) s := if_pos c
        rw [e1]
        exact ih _ (Bool.and_eq_true_iff.mp (show (decide (a < 40) && sm s) = true from h)).2
      · have e1 : bl 1 v (a :: s) = (v, a :: s) := if_neg c
        rw [e1]
        exact h
  obtain ⟨p', W', n', M', eY, q⟩ := bl1 1 (by decide) (by decide)
  rw [eY] at e1
  exact g_end hk hk40 (bsm s v hs) hP q e1 e2
end GO
