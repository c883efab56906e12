/-! the reference's characters and words -/
def Rd (σ : st_S) (x : Nat) (l : List Int32) : Prop := gI σ x 1 = nI l.length ∧ l.length ≤ gN σ (x + 1) ∧ gN σ (x + 1) ≤ 40000 ∧ l.length ≤ 16384 ∧ ∀ j (h : j < l.length), gE σ (x + 1) j = l[j]
theorem F138 {N x : Nat} {σ : st_S} {l : List Int32} (h : Rd σ x l) {i : Nat} (hi : i < 2 ^ 31) : F_138 N x (nI i) σ = some (ch l i, σ) := by
  obtain ⟨h1, h2, h3, h4, h5⟩ := h
  unfold F_138
  rw [h1]
  by_cases c : l.length ≤ i
  · rw [if_pos ((nI_lei (by omega) hi).mpr c), ch_ge c]
  · rw [if_neg (fun q => c ((nI_lei (by omega) hi).mp q))]
    unfold N_139
    rw [if_pos (aB_nI (by omega) (by omega)), ob_some, nI_clamp hi, h5 i (by omega), ← ch_lt (by omega)]
theorem F140 (N : Nat) (c : Int32) (σ : st_S) : F_140 N c σ = some (bI (isBl c), σ) := by
  unfold F_140 isBl bI
  by_cases h1 : c = 9 <;> by_cases h2 : c = 10 <;> by_cases h3 : c = 13 <;> by_cases h4 : c = 32 <;> simp [h1, h2, h3, h4]
theorem F141 (N : Nat) (c : Int32) (σ : st_S) : F_141 N c σ = some (bI (isLe c), σ) := by
  unfold F_141 J_141_12 isLe bI
  have e1 : (65 ≤ c) ↔ ¬ c < 65 := Int32.not_lt.symm
  have e2 : (97 ≤ c) ↔ ¬ c < 97 := Int32.not_lt.symm
  have e3 : (c ≤ 90) ↔ ¬ 90 < c := Int32.not_lt.symm
  by_cases h1 : c < 65 <;> by_cases h2 : 90 < c <;> by_cases h3 : c < 97 <;> by_cases h4 : c ≤ 122 <;> simp [e1, e2, e3, h1, h2, h3, h4, Int32.not_lt.mpr, Int32.not_lt]
theorem F142 (N : Nat) (c : Int32) (σ : st_S) : F_142 N c σ = some (bI (isDi c), σ) := by
  unfold F_142 isDi bI
  have e1 : (48 ≤ c) ↔ ¬ c < 48 := Int32.not_lt.symm
  have e3 : (c ≤ 57) ↔ ¬ 57 < c := Int32.not_lt.symm
  by_cases h1 : c < 48 <;> by_cases h4 : 57 < c <;> simp [e1, e3, h1, h4]
theorem rb_loop {N x : Nat} {σ : st_S} {l : List Int32} (h : Rd σ x l) : ∀ f i k, i ≤ l.length → l.length ≤ i + f → 2 * f + 2 ≤ k → L_137 N x k 2 (nI i) σ = some (nI (sk l f false i), σ) ∧ L_137 N x k 44 (nI i) σ = some (nI (sk l f true i), σ) := by
  have h4 := h.2.2.2.1
  have stop : ∀ i k, i = l.length → 2 ≤ k → L_137 N x k 2 (nI i) σ = some (nI i, σ) ∧ L_137 N x k 44 (nI i) σ = some (nI i, σ) := by
    intro i k hi hk
    obtain ⟨k, rfl⟩ : ∃ k', k = k' + 1 + 1 := ⟨k - 2, by omega⟩
    have e : ∀ k, L_137 N x (k + 1) 2 (nI i) σ = some (nI i, σ) := by
      intro k
      unfold L_137
      rw [if_pos rfl, h.1, if_pos ((nI_lei (by omega) (by omega)).mpr (by omega))]
    refine ⟨e _, ?_⟩
    unfold L_137
    rw [if_neg (by decide), h.1, if_pos ((nI_lei (by omega) (by omega)).mpr (by omega))]
    exact e k
  intro f
  induction f with
  | zero =>
    intro i k hi hf hk
    exact stop i k (by omega) (by omega)
  | succ f ih =>
    intro i k hi hf hk
    by_cases hlt : i < l.length
    · obtain ⟨k, rfl⟩ : ∃ k', k = k' + 1 + 1 := ⟨k - 2, by omega⟩
      have hl : l[i]? = some (ch l i) := by rw [ch_lt hlt]; exact List.getElem?_eq_getElem hlt
      have hf138 := F138 (N := N) h (i := i) (by omega)
      have ng : ¬ nI l.length ≤ nI i := fun q => absurd ((nI_lei (by omega) (by omega)).mp q) (by omega)
      have one2 : ∀ k', 2 * f + 2 ≤ k' → isBl (ch l i) = true → L_137 N x (k' + 1) 2 (nI i) σ = some (nI (sk l f false (i + 1)), σ) := by
        intro k' hk' hb
        have n35 : ¬ ch l i = 35 := by
          intro e
          rw [e] at hb
          exact absurd hb (by decide)
        unfold L_137
        rw [if_pos rfl, h.1, if_neg ng, hf138, ob_some]
        dsimp only
        rw [F140, ob_some, hb]
        dsimp only
        rw [if_neg (by decide), hf138, ob_some]
        dsimp only
        rw [if_neg n35, nI_1]
        exact (ih (i + 1) k' (by omega) (by omega) hk').1
      have one44 : ∀ k', 2 * f + 2 ≤ k' → ¬ ch l i = 10 → L_137 N x (k' + 1) 44 (nI i) σ = some (nI (sk l f true (i + 1)), σ) := by
        intro k' hk' hb
        unfold L_137
        rw [if_neg (by decide), h.1, if_neg ng, hf138, ob_some]
        dsimp only
        rw [if_neg hb, nI_1]
        exact (ih (i + 1) k' (by omega) (by omega) hk').2
      constructor
      · have e : sk l (f + 1) false i = if ch l i = 35 then sk l f true (i + 1) else if isBl (ch l i) then sk l f false (i + 1) else i := by
          show (match l[i]? with
            | none => i
            | some c => if false = true then sk l f (!(decide (c = 10))) (i + 1) else if c = 35 then sk l f true (i + 1) else if isBl c then sk l f false (i + 1) else i) = _
          rw [hl]
          dsimp only
          rw [if_neg (by decide)]
        rw [e]
        by_cases c35 : ch l i = 35
        · rw [if_pos c35]
          have hb : isBl (ch l i) = false := by rw [c35]; decide
          unfold L_137
          rw [if_pos rfl, h.1, if_neg ng, hf138, ob_some]
          dsimp only
          rw [F140, ob_some, hb]
          dsimp only
          rw [if_pos (by decide), hf138, ob_some]
          dsimp only
          rw [if_pos c35, hf138, ob_some]
          dsimp only
          rw [if_pos c35]
          exact one44 k (by omega) (by rw [c35]; decide)
        · rw [if_neg c35]
          by_cases hb : isBl (ch l i) = true
          · rw [if_pos hb]
            exact one2 (k + 1) (by omega) hb
          · have hb' : isBl (ch l i) = false := by simpa using hb
            rw [if_neg hb]
            unfold L_137
            rw [if_pos rfl, h.1, if_neg ng, hf138, ob_some]
            dsimp only
            rw [F140, ob_some, hb']
            dsimp only
            rw [if_pos (by decide), hf138, ob_some]
            dsimp only
            rw [if_neg c35]
      · have e : sk l (f + 1) true i = sk l f (!(decide (ch l i = 10))) (i + 1) := by
          show (match l[i]? with
            | none => i
            | some c => if true = true then sk l f (!(decide (c = 10))) (i + 1) else if c = 35 then sk l f true (i + 1) else if isBl c then sk l f false (i + 1) else i) = _
          rw [hl]
          dsimp only
          rw [if_pos rfl]
        rw [e]
        by_cases c10 : ch l i = 10
        · rw [decide_eq_true c10]
          unfold L_137
          rw [if_neg (by decide), h.1, if_neg ng, hf138, ob_some]
          dsimp only
          rw [if_pos c10]
          exact one2 k (by omega) (by rw [c10]; decide)
        · rw [decide_eq_false c10]
          exact one44 (k + 1) (by omega) c10
    · have hl : l[i]? = none := List.getElem?_eq_none (by omega)
      have e : ∀ m, sk l (f + 1) m i = i := by
        intro m
        unfold sk
        rw [hl]
      rw [e, e]
      exact stop i k (by omega) (by omega)
theorem F137 {N x : Nat} {σ : st_S} {l : List Int32} (h : Rd σ x l) (hN : 40000 < N) {i : Nat} (hi : i ≤ l.length) : F_137 N x (nI i) σ = some (nI (skp l i), σ) :=
  have h4 := h.2.2.2.1
  (rb_loop h l.length i N hi (by omega) (by omega)).1
/-- the characters of a word against the tape's, from the i-th on -/
def mw (T : List Nat) (l : List Int32) (s : Nat) : Nat → Nat → Bool
  | 0, _ => true
  | f + 1, i => decide (ch l (s + i) = nI (T.getD i 0)) && mw T l s f (i + 1)
theorem mw_eq (T : List Nat) (l : List Int32) (s : Nat) : ∀ f i, mw T l s f i = true ↔ ∀ j, j < f → nI (T.getD (i + j) 0) = ch l (s + (i + j)) := by
  intro f
  induction f with
  | zero => intro i; exact ⟨fun _ j hj => absurd hj (Nat.not_lt_zero j), fun _ => rfl⟩
  | succ f ih =>
    intro i
    have e : mw T l s (f + 1) i = (decide (ch l (s + i) = nI (T.getD i 0)) && mw T l s f (i + 1)) := rfl
    rw [e, Bool.and_eq_true_iff, decide_eq_true_iff, ih (i + 1)]
    constructor
    · rintro ⟨a, b⟩ j hj
      cases j with
      | zero => exact a.symm
      | succ j =>
        have := b j (by omega)
        rw [show i + 1 + j = i + (j + 1) by omega] at this
        exact this
    · intro a
      refine ⟨(a 0 (by omega)).symm, fun j hj => ?_⟩
      have := a (j + 1) (by omega)
      rw [show i + (j + 1) = i + 1 + j by omega] at this
      exact this
theorem rk_loop {N x w : Nat} {σ : st_S} {l : List Int32} {T : List Nat} (h : Rd σ x l) (hT : tb_tx[w]? = some T) (hl : T.length < 100) {s : Nat} (hs : s ≤ 40000) : ∀ f i k, i + f = T.length → f < k → L_144 N x k (nI s) w 1 (nI i) σ = some (bI (mw T l s f i), σ) := by
  have t0 : tx_0 w = some (nI T.length) := by unfold tx_0; rw [hT]; rfl
  have t1 : ∀ i, i < T.length → tx_1 w (nI i) = some (nI (T.getD i 0)) := by
    intro i hi
    unfold tx_1
    rw [hT, ob_some, if_neg (nI_pos (by omega)), nI_clamp (by omega), List.getElem?_eq_getElem hi, ob_some, List.getD_eq_getElem?_getD, List.getElem?_eq_getElem hi]
    rfl
  have zero : ∀ k i, 0 < k → L_144 N x k (nI s) w 0 i σ = some (0, σ) := by
    intro k i hk
    obtain ⟨k, rfl⟩ : ∃ k', k = k' + 1 := ⟨k - 1, by omega⟩
    unfold L_144
    rw [if_pos rfl, if_pos (Or.inl rfl)]
  intro f
  induction f with
  | zero =>
    intro i k hi hk
    obtain ⟨k, rfl⟩ : ∃ k', k = k' + 1 := ⟨k - 1, by omega⟩
    unfold L_144
    rw [if_neg (by decide), t0, ob_some, if_pos ((nI_lei (by omega) (by omega)).mpr (by omega))]
    rfl
  | succ f ih =>
    intro i k hi hk
    obtain ⟨k, rfl⟩ : ∃ k', k = k' + 1 := ⟨k - 1, by omega⟩
    have e : mw T l s (f + 1) i = (decide (ch l (s + i) = nI (T.getD i 0)) && mw T l s f (i + 1)) := rfl
    unfold L_144
    rw [if_neg (by decide), t0, ob_some, if_neg (fun q => absurd ((nI_lei (by omega) (by omega)).mp q) (by omega)), nI_add, F138 h (by omega), ob_some]
    dsimp only
    rw [t1 i (by omega), ob_some, e, nI_1]
    by_cases c : ch l (s + i) = nI (T.getD i 0)
    · rw [if_pos c, decide_eq_true c, Bool.true_and]
      exact ih (i + 1) k (by omega) (by omega)
    · rw [if_neg c, decide_eq_false c, Bool.false_and]
      exact zero k _ (by omega)
theorem F144 {N x w : Nat} {σ : st_S} {l : List Int32} {T : List Nat} (h : Rd σ x l) (hT : tb_tx[w]? = some T) (hl : T.length < 100) (hN : 40000 < N) {s e : Nat} (he : e ≤ 40000) (hs : s ≤ e) : F_144 N x (nI s) (nI e) w σ = some (bI (isK l s (e - s) T), σ) := by
  have t0 : tx_0 w = some (nI T.length) := by unfold tx_0; rw [hT]; rfl
  unfold F_144
  rw [t0, ob_some, nI_sub hs]
  by_cases c : e - s = T.length
  · have e0 : L_144 N x N (nI s) w 1 0 σ = some (bI (mw T l s T.length 0), σ) := rk_loop h hT hl (by omega) T.length 0 N (by omega) (by omega)
    rw [if_pos ((nI_eq (by omega) (by omega)).mpr c), e0]
    have ee : mw T l s T.length 0 = isK l s (e - s) T := by
      rw [Bool.eq_iff_iff, mw_eq]
      unfold isK
      rw [Bool.and_eq_true_iff, decide_eq_true_iff, List.all_eq_true]
      constructor
      · intro a
        refine ⟨c, fun j hj => decide_eq_true ?_⟩
        have := a j (List.mem_range.mp hj)
        rw [Nat.zero_add] at this
        exact this
      · rintro ⟨_, b⟩ j hj
        rw [Nat.zero_add]
        exact of_decide_eq_true (b j (List.mem_range.mpr hj))
    rw [ee]
  · rw [if_neg (fun q => c ((nI_eq (by omega) (by omega)).mp q))]
    have ee : isK l s (e - s) T = false := by
      unfold isK
      rw [decide_eq_false c]
      rfl
    rw [ee]
    obtain ⟨k, rfl⟩ : ∃ k', N = k' + 1 := ⟨N - 1, by omega⟩
    unfold L_144
    rw [if_pos rfl]
    rfl
theorem F145 {N x : Nat} {σ : st_S} {l : List Int32} (h : Rd σ x l) {i : Nat} (hi : i ≤ 40000) : F_145 N x (nI i) σ = some (nI (sg (ch l i) (ch l (i + 1))), σ) := by
  unfold F_145 sg
  rw [nI_1, F138 h (by omega), ob_some]
  dsimp only
  rw [F138 h (by omega), ob_some]
  dsimp only
  by_cases c_0 : ch l i = 33
  · rw [if_pos c_0, if_pos c_0]
    by_cases e : ch l (i + 1) = 61
    · rw [if_pos e, if_pos e]; rfl
    · rw [if_neg e, if_neg e]; rfl
  rw [if_neg c_0, if_neg c_0]
  by_cases c_1 : ch l i = 37
  · rw [if_pos c_1, if_pos c_1]
    rfl
  rw [if_neg c_1, if_neg c_1]
  by_cases c_2 : ch l i = 38
  · rw [if_pos c_2, if_pos c_2]
    rfl
  rw [if_neg c_2, if_neg c_2]
  by_cases c_3 : ch l i = 39
  · rw [if_pos c_3, if_pos c_3]
    rfl
  rw [if_neg c_3, if_neg c_3]
  by_cases c_4 : ch l i = 40
  · rw [if_pos c_4, if_pos c_4]
    rfl
  rw [if_neg c_4, if_neg c_4]
  by_cases c_5 : ch l i = 41
  · rw [if_pos c_5, if_pos c_5]
    rfl
  rw [if_neg c_5, if_neg c_5]
  by_cases c_6 : ch l i = 42
  · rw [if_pos c_6, if_pos c_6]
    rfl
  rw [if_neg c_6, if_neg c_6]
  by_cases c_7 : ch l i = 43
  · rw [if_pos c_7, if_pos c_7]
    rfl
  rw [if_neg c_7, if_neg c_7]
  by_cases c_8 : ch l i = 44
  · rw [if_pos c_8, if_pos c_8]
    rfl
  rw [if_neg c_8, if_neg c_8]
  by_cases c_9 : ch l i = 45
  · rw [if_pos c_9, if_pos c_9]
    by_cases e : ch l (i + 1) = 62
    · rw [if_pos e, if_pos e]; rfl
    · rw [if_neg e, if_neg e]; rfl
  rw [if_neg c_9, if_neg c_9]
  by_cases c_10 : ch l i = 46
  · rw [if_pos c_10, if_pos c_10]
    by_cases e : ch l (i + 1) = 46
    · rw [if_pos e, if_pos e]; rfl
    · rw [if_neg e, if_neg e]; rfl
  rw [if_neg c_10, if_neg c_10]
  by_cases c_11 : ch l i = 47
  · rw [if_pos c_11, if_pos c_11]
    rfl
  rw [if_neg c_11, if_neg c_11]
  by_cases c_12 : ch l i = 58
  · rw [if_pos c_12, if_pos c_12]
    rfl
  rw [if_neg c_12, if_neg c_12]
  by_cases c_13 : ch l i = 59
  · rw [if_pos c_13, if_pos c_13]
    rfl
  rw [if_neg c_13, if_neg c_13]
  by_cases c_14 : ch l i = 60
  · rw [if_pos c_14, if_pos c_14]
    by_cases e : ch l (i + 1) = 61
    · rw [if_pos e, if_pos e]; rfl
    · rw [if_neg e, if_neg e]; rfl
  rw [if_neg c_14, if_neg c_14]
  by_cases c_15 : ch l i = 61
  · rw [if_pos c_15, if_pos c_15]
    rfl
  rw [if_neg c_15, if_neg c_15]
  by_cases c_16 : ch l i = 62
  · rw [if_pos c_16, if_pos c_16]
    by_cases e : ch l (i + 1) = 61
    · rw [if_pos e, if_pos e]; rfl
    · rw [if_neg e, if_neg e]; rfl
  rw [if_neg c_16, if_neg c_16]
  by_cases c_17 : ch l i = 63
  · rw [if_pos c_17, if_pos c_17]
    rfl
  rw [if_neg c_17, if_neg c_17]
  by_cases c_18 : ch l i = 124
  · rw [if_pos c_18, if_pos c_18]
    rfl
  rw [if_neg c_18, if_neg c_18]
  rfl
theorem F143 {N x : Nat} {σ : st_S} {l : List Int32} (h : Rd σ x l) (hN : 40000 < N) {s e : Nat} (he : e ≤ 40000) (hs : s ≤ e) : F_143 N x (nI s) (nI e) σ = some (nI (wk l s (e - s)), σ) := by
  have g_2 := F144 (N := N) (w := 2) (T := [99, 111, 110, 115, 116]) h rfl (by decide) hN he hs
  have g_3 := F144 (N := N) (w := 3) (T := [118, 97, 114]) h rfl (by decide) hN he hs
  have g_4 := F144 (N := N) (w := 4) (T := [98, 111, 111, 108]) h rfl (by decide) hN he hs
  have g_5 := F144 (N := N) (w := 5) (T := [102, 111, 114, 109, 117, 108, 97]) h rfl (by decide) hN he hs
  have g_7 := F144 (N := N) (w := 7) (T := [109, 97, 120]) h rfl (by decide) hN he hs
  have g_8 := F144 (N := N) (w := 8) (T := [109, 105, 110]) h rfl (by decide) hN he hs
  have g_10 := F144 (N := N) (w := 10) (T := [105, 110, 105, 116]) h rfl (by decide) hN he hs
  have g_11 := F144 (N := N) (w := 11) (T := [115, 116, 97, 121]) h rfl (by decide) hN he hs
  have g_12 := F144 (N := N) (w := 12) (T := [116, 97, 114, 103, 101, 116]) h rfl (by decide) hN he hs
  have g_13 := F144 (N := N) (w := 13) (T := [116, 114, 117, 101]) h rfl (by decide) hN he hs
  have g_6 := F144 (N := N) (w := 6) (T := [102, 97, 108, 115, 101]) h rfl (by decide) hN he hs
  have g_14 := F144 (N := N) (w := 14) (T := [108, 101, 97, 115, 116]) h rfl (by decide) hN he hs
  have g_9 := F144 (N := N) (w := 9) (T := [109, 111, 115, 116]) h rfl (by decide) hN he hs
  unfold F_143 wk
  rw [F138 h (by omega), ob_some]
  dsimp only
  by_cases c_0 : ch l s = 98
  · rw [if_pos c_0]
    rw [isK_ne (l := l) (s := s) (n := e - s) (a := 99) (r := [111, 110, 115, 116]) (by rw [c_0]; decide)]
    rw [isK_ne (l := l) (s := s) (n := e - s) (a := 118) (r := [97, 114]) (by rw [c_0]; decide)]
    rw [isK_ne (l := l) (s := s) (n := e - s) (a := 102) (r := [111, 114, 109, 117, 108, 97]) (by rw [c_0]; decide)]
    rw [isK_ne (l := l) (s := s) (n := e - s) (a := 109) (r := [97, 120]) (by rw [c_0]; decide)]
    rw [isK_ne (l := l) (s := s) (n := e - s) (a := 109) (r := [105, 110]) (by rw [c_0]; decide)]
    rw [isK_ne (l := l) (s := s) (n := e - s) (a := 105) (r := [110, 105, 116]) (by rw [c_0]; decide)]
    rw [isK_ne (l := l) (s := s) (n := e - s) (a := 115) (r := [116, 97, 121]) (by rw [c_0]; decide)]
    rw [isK_ne (l := l) (s := s) (n := e - s) (a := 116) (r := [97, 114, 103, 101, 116]) (by rw [c_0]; decide)]
    rw [isK_ne (l := l) (s := s) (n := e - s) (a := 116) (r := [114, 117, 101]) (by rw [c_0]; decide)]
    rw [isK_ne (l := l) (s := s) (n := e - s) (a := 102) (r := [97, 108, 115, 101]) (by rw [c_0]; decide)]
    rw [isK_ne (l := l) (s := s) (n := e - s) (a := 108) (r := [101, 97, 115, 116]) (by rw [c_0]; decide)]
    rw [isK_ne (l := l) (s := s) (n := e - s) (a := 109) (r := [111, 115, 116]) (by rw [c_0]; decide)]
    simp only [Bool.false_eq_true, if_false]
    rw [g_4, ob_some]
    dsimp only
    cases b_4 : isK l s (e - s) [98, 111, 111, 108] with
    | true =>
      simp only [if_true]
      first | rfl | (rw [if_neg (by decide)]; first | rfl | done)
    | false =>
      simp only [Bool.false_eq_true, if_false]
      first | rfl | (rw [if_pos (by decide)]; first | rfl | done)
  rw [if_neg c_0]
  by_cases c_1 : ch l s = 99
  · rw [if_pos c_1]
    rw [isK_ne (l := l) (s := s) (n := e - s) (a := 118) (r := [97, 114]) (by rw [c_1]; decide)]
    rw [isK_ne (l := l) (s := s) (n := e - s) (a := 98) (r := [111, 111, 108]) (by rw [c_1]; decide)]
    rw [isK_ne (l := l) (s := s) (n := e - s) (a := 102) (r := [111, 114, 109, 117, 108, 97]) (by rw [c_1]; decide)]
    rw [isK_ne (l := l) (s := s) (n := e - s) (a := 109) (r := [97, 120]) (by rw [c_1]; decide)]
    rw [isK_ne (l := l) (s := s) (n := e - s) (a := 109) (r := [105, 110]) (by rw [c_1]; decide)]
    rw [isK_ne (l := l) (s := s) (n := e - s) (a := 105) (r := [110, 105, 116]) (by rw [c_1]; decide)]
    rw [isK_ne (l := l) (s := s) (n := e - s) (a := 115) (r := [116, 97, 121]) (by rw [c_1]; decide)]
    rw [isK_ne (l := l) (s := s) (n := e - s) (a := 116) (r := [97, 114, 103, 101, 116]) (by rw [c_1]; decide)]
    rw [isK_ne (l := l) (s := s) (n := e - s) (a := 116) (r := [114, 117, 101]) (by rw [c_1]; decide)]
    rw [isK_ne (l := l) (s := s) (n := e - s) (a := 102) (r := [97, 108, 115, 101]) (by rw [c_1]; decide)]
    rw [isK_ne (l := l) (s := s) (n := e - s) (a := 108) (r := [101, 97, 115, 116]) (by rw [c_1]; decide)]
    rw [isK_ne (l := l) (s := s) (n := e - s) (a := 109) (r := [111, 115, 116]) (by rw [c_1]; decide)]
    simp only [Bool.false_eq_true, if_false]
    rw [g_2, ob_some]
    dsimp only
    cases b_2 : isK l s (e - s) [99, 111, 110, 115, 116] with
    | true =>
      simp only [if_true]
      first | rfl | (rw [if_neg (by decide)]; first | rfl | done)
    | false =>
      simp only [Bool.false_eq_true, if_false]
      first | rfl | (rw [if_pos (by decide)]; first | rfl | done)
  rw [if_neg c_1]
  by_cases c_2 : ch l s = 102
  · rw [if_pos c_2]
    rw [isK_ne (l := l) (s := s) (n := e - s) (a := 99) (r := [111, 110, 115, 116]) (by rw [c_2]; decide)]
    rw [isK_ne (l := l) (s := s) (n := e - s) (a := 118) (r := [97, 114]) (by rw [c_2]; decide)]
    rw [isK_ne (l := l) (s := s) (n := e - s) (a := 98) (r := [111, 111, 108]) (by rw [c_2]; decide)]
    rw [isK_ne (l := l) (s := s) (n := e - s) (a := 109) (r := [97, 120]) (by rw [c_2]; decide)]
    rw [isK_ne (l := l) (s := s) (n := e - s) (a := 109) (r := [105, 110]) (by rw [c_2]; decide)]
    rw [isK_ne (l := l) (s := s) (n := e - s) (a := 105) (r := [110, 105, 116]) (by rw [c_2]; decide)]
    rw [isK_ne (l := l) (s := s) (n := e - s) (a := 115) (r := [116, 97, 121]) (by rw [c_2]; decide)]
    rw [isK_ne (l := l) (s := s) (n := e - s) (a := 116) (r := [97, 114, 103, 101, 116]) (by rw [c_2]; decide)]
    rw [isK_ne (l := l) (s := s) (n := e - s) (a := 116) (r := [114, 117, 101]) (by rw [c_2]; decide)]
    rw [isK_ne (l := l) (s := s) (n := e - s) (a := 108) (r := [101, 97, 115, 116]) (by rw [c_2]; decide)]
    rw [isK_ne (l := l) (s := s) (n := e - s) (a := 109) (r := [111, 115, 116]) (by rw [c_2]; decide)]
    simp only [Bool.false_eq_true, if_false]
    rw [g_5, ob_some]
    dsimp only
    cases b_5 : isK l s (e - s) [102, 111, 114, 109, 117, 108, 97] with
    | true =>
      simp only [if_true]
      first | rfl | (rw [if_neg (by decide)]; first | rfl | done)
    | false =>
      simp only [Bool.false_eq_true, if_false]
      rw [if_pos (by decide)]
      rw [g_6, ob_some]
      dsimp only
      cases b_6 : isK l s (e - s) [102, 97, 108, 115, 101] with
      | true =>
        simp only [if_true]
        first | rfl | (rw [if_neg (by decide)]; first | rfl | done)
      | false =>
        simp only [Bool.false_eq_true, if_false]
        first | rfl | (rw [if_pos (by decide)]; first | rfl | done)
  rw [if_neg c_2]
  by_cases c_3 : ch l s = 105
  · rw [if_pos c_3]
    rw [isK_ne (l := l) (s := s) (n := e - s) (a := 99) (r := [111, 110, 115, 116]) (by rw [c_3]; decide)]
    rw [isK_ne (l := l) (s := s) (n := e - s) (a := 118) (r := [97, 114]) (by rw [c_3]; decide)]
    rw [isK_ne (l := l) (s := s) (n := e - s) (a := 98) (r := [111, 111, 108]) (by rw [c_3]; decide)]
    rw [isK_ne (l := l) (s := s) (n := e - s) (a := 102) (r := [111, 114, 109, 117, 108, 97]) (by rw [c_3]; decide)]
    rw [isK_ne (l := l) (s := s) (n := e - s) (a := 109) (r := [97, 120]) (by rw [c_3]; decide)]
    rw [isK_ne (l := l) (s := s) (n := e - s) (a := 109) (r := [105, 110]) (by rw [c_3]; decide)]
    rw [isK_ne (l := l) (s := s) (n := e - s) (a := 115) (r := [116, 97, 121]) (by rw [c_3]; decide)]
    rw [isK_ne (l := l) (s := s) (n := e - s) (a := 116) (r := [97, 114, 103, 101, 116]) (by rw [c_3]; decide)]
    rw [isK_ne (l := l) (s := s) (n := e - s) (a := 116) (r := [114, 117, 101]) (by rw [c_3]; decide)]
    rw [isK_ne (l := l) (s := s) (n := e - s) (a := 102) (r := [97, 108, 115, 101]) (by rw [c_3]; decide)]
    rw [isK_ne (l := l) (s := s) (n := e - s) (a := 108) (r := [101, 97, 115, 116]) (by rw [c_3]; decide)]
    rw [isK_ne (l := l) (s := s) (n := e - s) (a := 109) (r := [111, 115, 116]) (by rw [c_3]; decide)]
    simp only [Bool.false_eq_true, if_false]
    rw [g_10, ob_some]
    dsimp only
    cases b_10 : isK l s (e - s) [105, 110, 105, 116] with
    | true =>
      simp only [if_true]
      first | rfl | (rw [if_neg (by decide)]; first | rfl | done)
    | false =>
      simp only [Bool.false_eq_true, if_false]
      first | rfl | (rw [if_pos (by decide)]; first | rfl | done)
  rw [if_neg c_3]
  by_cases c_4 : ch l s = 108
  · rw [if_pos c_4]
    rw [isK_ne (l := l) (s := s) (n := e - s) (a := 99) (r := [111, 110, 115, 116]) (by rw [c_4]; decide)]
    rw [isK_ne (l := l) (s := s) (n := e - s) (a := 118) (r := [97, 114]) (by rw [c_4]; decide)]
    rw [isK_ne (l := l) (s := s) (n := e - s) (a := 98) (r := [111, 111, 108]) (by rw [c_4]; decide)]
    rw [isK_ne (l := l) (s := s) (n := e - s) (a := 102) (r := [111, 114, 109, 117, 108, 97]) (by rw [c_4]; decide)]
    rw [isK_ne (l := l) (s := s) (n := e - s) (a := 109) (r := [97, 120]) (by rw [c_4]; decide)]
    rw [isK_ne (l := l) (s := s) (n := e - s) (a := 109) (r := [105, 110]) (by rw [c_4]; decide)]
    rw [isK_ne (l := l) (s := s) (n := e - s) (a := 105) (r := [110, 105, 116]) (by rw [c_4]; decide)]
    rw [isK_ne (l := l) (s := s) (n := e - s) (a := 115) (r := [116, 97, 121]) (by rw [c_4]; decide)]
    rw [isK_ne (l := l) (s := s) (n := e - s) (a := 116) (r := [97, 114, 103, 101, 116]) (by rw [c_4]; decide)]
    rw [isK_ne (l := l) (s := s) (n := e - s) (a := 116) (r := [114, 117, 101]) (by rw [c_4]; decide)]
    rw [isK_ne (l := l) (s := s) (n := e - s) (a := 102) (r := [97, 108, 115, 101]) (by rw [c_4]; decide)]
    rw [isK_ne (l := l) (s := s) (n := e - s) (a := 109) (r := [111, 115, 116]) (by rw [c_4]; decide)]
    simp only [Bool.false_eq_true, if_false]
    rw [g_14, ob_some]
    dsimp only
    cases b_14 : isK l s (e - s) [108, 101, 97, 115, 116] with
    | true =>
      simp only [if_true]
      first | rfl | (rw [if_neg (by decide)]; first | rfl | done)
    | false =>
      simp only [Bool.false_eq_true, if_false]
      first | rfl | (rw [if_pos (by decide)]; first | rfl | done)
  rw [if_neg c_4]
  by_cases c_5 : ch l s = 109
  · rw [if_pos c_5]
    rw [isK_ne (l := l) (s := s) (n := e - s) (a := 99) (r := [111, 110, 115, 116]) (by rw [c_5]; decide)]
    rw [isK_ne (l := l) (s := s) (n := e - s) (a := 118) (r := [97, 114]) (by rw [c_5]; decide)]
    rw [isK_ne (l := l) (s := s) (n := e - s) (a := 98) (r := [111, 111, 108]) (by rw [c_5]; decide)]
    rw [isK_ne (l := l) (s := s) (n := e - s) (a := 102) (r := [111, 114, 109, 117, 108, 97]) (by rw [c_5]; decide)]
    rw [isK_ne (l := l) (s := s) (n := e - s) (a := 105) (r := [110, 105, 116]) (by rw [c_5]; decide)]
    rw [isK_ne (l := l) (s := s) (n := e - s) (a := 115) (r := [116, 97, 121]) (by rw [c_5]; decide)]
    rw [isK_ne (l := l) (s := s) (n := e - s) (a := 116) (r := [97, 114, 103, 101, 116]) (by rw [c_5]; decide)]
    rw [isK_ne (l := l) (s := s) (n := e - s) (a := 116) (r := [114, 117, 101]) (by rw [c_5]; decide)]
    rw [isK_ne (l := l) (s := s) (n := e - s) (a := 102) (r := [97, 108, 115, 101]) (by rw [c_5]; decide)]
    rw [isK_ne (l := l) (s := s) (n := e - s) (a := 108) (r := [101, 97, 115, 116]) (by rw [c_5]; decide)]
    simp only [Bool.false_eq_true, if_false]
    rw [g_7, ob_some]
    dsimp only
    cases b_7 : isK l s (e - s) [109, 97, 120] with
    | true =>
      simp only [if_true]
      first | rfl | (rw [if_neg (by decide)]; first | rfl | done)
    | false =>
      simp only [Bool.false_eq_true, if_false]
      rw [if_pos (by decide)]
      rw [g_8, ob_some]
      dsimp only
      cases b_8 : isK l s (e - s) [109, 105, 110] with
      | true =>
        simp only [if_true]
        first | rfl | (rw [if_neg (by decide)]; first | rfl | done)
      | false =>
        simp only [Bool.false_eq_true, if_false]
        rw [if_pos (by decide)]
        rw [g_9, ob_some]
        dsimp only
        cases b_9 : isK l s (e - s) [109, 111, 115, 116] with
        | true =>
          simp only [if_true]
          first | rfl | (rw [if_neg (by decide)]; first | rfl | done)
        | false =>
          simp only [Bool.false_eq_true, if_false]
          first | rfl | (rw [if_pos (by decide)]; first | rfl | done)
  rw [if_neg c_5]
  by_cases c_6 : ch l s = 115
  · rw [if_pos c_6]
    rw [isK_ne (l := l) (s := s) (n := e - s) (a := 99) (r := [111, 110, 115, 116]) (by rw [c_6]; decide)]
    rw [isK_ne (l := l) (s := s) (n := e - s) (a := 118) (r := [97, 114]) (by rw [c_6]; decide)]
    rw [isK_ne (l := l) (s := s) (n := e - s) (a := 98) (r := [111, 111, 108]) (by rw [c_6]; decide)]
    rw [isK_ne (l := l) (s := s) (n := e - s) (a := 102) (r := [111, 114, 109, 117, 108, 97]) (by rw [c_6]; decide)]
    rw [isK_ne (l := l) (s := s) (n := e - s) (a := 109) (r := [97, 120]) (by rw [c_6]; decide)]
    rw [isK_ne (l := l) (s := s) (n := e - s) (a := 109) (r := [105, 110]) (by rw [c_6]; decide)]
    rw [isK_ne (l := l) (s := s) (n := e - s) (a := 105) (r := [110, 105, 116]) (by rw [c_6]; decide)]
    rw [isK_ne (l := l) (s := s) (n := e - s) (a := 116) (r := [97, 114, 103, 101, 116]) (by rw [c_6]; decide)]
    rw [isK_ne (l := l) (s := s) (n := e - s) (a := 116) (r := [114, 117, 101]) (by rw [c_6]; decide)]
    rw [isK_ne (l := l) (s := s) (n := e - s) (a := 102) (r := [97, 108, 115, 101]) (by rw [c_6]; decide)]
    rw [isK_ne (l := l) (s := s) (n := e - s) (a := 108) (r := [101, 97, 115, 116]) (by rw [c_6]; decide)]
    rw [isK_ne (l := l) (s := s) (n := e - s) (a := 109) (r := [111, 115, 116]) (by rw [c_6]; decide)]
    simp only [Bool.false_eq_true, if_false]
    rw [g_11, ob_some]
    dsimp only
    cases b_11 : isK l s (e - s) [115, 116, 97, 121] with
    | true =>
      simp only [if_true]
      first | rfl | (rw [if_neg (by decide)]; first | rfl | done)
    | false =>
      simp only [Bool.false_eq_true, if_false]
      first | rfl | (rw [if_pos (by decide)]; first | rfl | done)
  rw [if_neg c_6]
  by_cases c_7 : ch l s = 116
  · rw [if_pos c_7]
    rw [isK_ne (l := l) (s := s) (n := e - s) (a := 99) (r := [111, 110, 115, 116]) (by rw [c_7]; decide)]
    rw [isK_ne (l := l) (s := s) (n := e - s) (a := 118) (r := [97, 114]) (by rw [c_7]; decide)]
    rw [isK_ne (l := l) (s := s) (n := e - s) (a := 98) (r := [111, 111, 108]) (by rw [c_7]; decide)]
    rw [isK_ne (l := l) (s := s) (n := e - s) (a := 102) (r := [111, 114, 109, 117, 108, 97]) (by rw [c_7]; decide)]
    rw [isK_ne (l := l) (s := s) (n := e - s) (a := 109) (r := [97, 120]) (by rw [c_7]; decide)]
    rw [isK_ne (l := l) (s := s) (n := e - s) (a := 109) (r := [105, 110]) (by rw [c_7]; decide)]
    rw [isK_ne (l := l) (s := s) (n := e - s) (a := 105) (r := [110, 105, 116]) (by rw [c_7]; decide)]
    rw [isK_ne (l := l) (s := s) (n := e - s) (a := 115) (r := [116, 97, 121]) (by rw [c_7]; decide)]
    rw [isK_ne (l := l) (s := s) (n := e - s) (a := 102) (r := [97, 108, 115, 101]) (by rw [c_7]; decide)]
    rw [isK_ne (l := l) (s := s) (n := e - s) (a := 108) (r := [101, 97, 115, 116]) (by rw [c_7]; decide)]
    rw [isK_ne (l := l) (s := s) (n := e - s) (a := 109) (r := [111, 115, 116]) (by rw [c_7]; decide)]
    simp only [Bool.false_eq_true, if_false]
    rw [g_12, ob_some]
    dsimp only
    cases b_12 : isK l s (e - s) [116, 97, 114, 103, 101, 116] with
    | true =>
      simp only [if_true]
      first | rfl | (rw [if_neg (by decide)]; first | rfl | done)
    | false =>
      simp only [Bool.false_eq_true, if_false]
      rw [if_pos (by decide)]
      rw [g_13, ob_some]
      dsimp only
      cases b_13 : isK l s (e - s) [116, 114, 117, 101] with
      | true =>
        simp only [if_true]
        first | rfl | (rw [if_neg (by decide)]; first | rfl | done)
      | false =>
        simp only [Bool.false_eq_true, if_false]
        first | rfl | (rw [if_pos (by decide)]; first | rfl | done)
  rw [if_neg c_7]
  by_cases c_8 : ch l s = 118
  · rw [if_pos c_8]
    rw [isK_ne (l := l) (s := s) (n := e - s) (a := 99) (r := [111, 110, 115, 116]) (by rw [c_8]; decide)]
    rw [isK_ne (l := l) (s := s) (n := e - s) (a := 98) (r := [111, 111, 108]) (by rw [c_8]; decide)]
    rw [isK_ne (l := l) (s := s) (n := e - s) (a := 102) (r := [111, 114, 109, 117, 108, 97]) (by rw [c_8]; decide)]
    rw [isK_ne (l := l) (s := s) (n := e - s) (a := 109) (r := [97, 120]) (by rw [c_8]; decide)]
    rw [isK_ne (l := l) (s := s) (n := e - s) (a := 109) (r := [105, 110]) (by rw [c_8]; decide)]
    rw [isK_ne (l := l) (s := s) (n := e - s) (a := 105) (r := [110, 105, 116]) (by rw [c_8]; decide)]
    rw [isK_ne (l := l) (s := s) (n := e - s) (a := 115) (r := [116, 97, 121]) (by rw [c_8]; decide)]
    rw [isK_ne (l := l) (s := s) (n := e - s) (a := 116) (r := [97, 114, 103, 101, 116]) (by rw [c_8]; decide)]
    rw [isK_ne (l := l) (s := s) (n := e - s) (a := 116) (r := [114, 117, 101]) (by rw [c_8]; decide)]
    rw [isK_ne (l := l) (s := s) (n := e - s) (a := 102) (r := [97, 108, 115, 101]) (by rw [c_8]; decide)]
    rw [isK_ne (l := l) (s := s) (n := e - s) (a := 108) (r := [101, 97, 115, 116]) (by rw [c_8]; decide)]
    rw [isK_ne (l := l) (s := s) (n := e - s) (a := 109) (r := [111, 115, 116]) (by rw [c_8]; decide)]
    simp only [Bool.false_eq_true, if_false]
    rw [g_3, ob_some]
    dsimp only
    cases b_3 : isK l s (e - s) [118, 97, 114] with
    | true =>
      simp only [if_true]
      first | rfl | (rw [if_neg (by decide)]; first | rfl | done)
    | false =>
      simp only [Bool.false_eq_true, if_false]
      first | rfl | (rw [if_pos (by decide)]; first | rfl | done)
  rw [if_neg c_8]
  rw [isK_ne (l := l) (s := s) (n := e - s) (a := 99) (r := [111, 110, 115, 116]) (fun q => c_1 q.symm)]
  rw [isK_ne (l := l) (s := s) (n := e - s) (a := 118) (r := [97, 114]) (fun q => c_8 q.symm)]
  rw [isK_ne (l := l) (s := s) (n := e - s) (a := 98) (r := [111, 111, 108]) (fun q => c_0 q.symm)]
  rw [isK_ne (l := l) (s := s) (n := e - s) (a := 102) (r := [111, 114, 109, 117, 108, 97]) (fun q => c_2 q.symm)]
  rw [isK_ne (l := l) (s := s) (n := e - s) (a := 109) (r := [97, 120]) (fun q => c_5 q.symm)]
  rw [isK_ne (l := l) (s := s) (n := e - s) (a := 109) (r := [105, 110]) (fun q => c_5 q.symm)]
  rw [isK_ne (l := l) (s := s) (n := e - s) (a := 105) (r := [110, 105, 116]) (fun q => c_3 q.symm)]
  rw [isK_ne (l := l) (s := s) (n := e - s) (a := 115) (r := [116, 97, 121]) (fun q => c_6 q.symm)]
  rw [isK_ne (l := l) (s := s) (n := e - s) (a := 116) (r := [97, 114, 103, 101, 116]) (fun q => c_7 q.symm)]
  rw [isK_ne (l := l) (s := s) (n := e - s) (a := 116) (r := [114, 117, 101]) (fun q => c_7 q.symm)]
  rw [isK_ne (l := l) (s := s) (n := e - s) (a := 102) (r := [97, 108, 115, 101]) (fun q => c_2 q.symm)]
  rw [isK_ne (l := l) (s := s) (n := e - s) (a := 108) (r := [101, 97, 115, 116]) (fun q => c_4 q.symm)]
  rw [isK_ne (l := l) (s := s) (n := e - s) (a := 109) (r := [111, 115, 116]) (fun q => c_5 q.symm)]
  simp only [Bool.false_eq_true, if_false]
  rfl
