/-! the class's next word -/
theorem cb_loop {N : Nat} {σ : st_S} {l : List Int32} (h : Wd σ l) : ∀ f i k (m : Bool), i ≤ l.length → l.length ≤ i + f → f < k → L_18 N k (bI m) (sa σ i) = some (sa σ (sk l f m i)) := by
  have h4 := h.2.2.2.1
  have stop : ∀ i k (m : Bool), i = l.length → 0 < k → L_18 N k (bI m) (sa σ i) = some (sa σ i) := by
    intro i k m hi hk
    obtain ⟨k, rfl⟩ : ∃ k', k = k' + 1 := ⟨k - 1, by omega⟩
    unfold L_18
    rw [sa_2, sa_o σ i (by decide), h.1, if_pos ((nI_lei (by omega) (by omega)).mpr (by omega))]
  intro f
  induction f with
  | zero =>
    intro i k m hi hf hk
    exact stop i k m (by omega) (by omega)
  | succ f ih =>
    intro i k m hi hf hk
    by_cases hlt : i < l.length
    · obtain ⟨k, rfl⟩ : ∃ k', k = k' + 1 := ⟨k - 1, by omega⟩
      have hl : l[i]? = some (ch l i) := by rw [ch_lt hlt]; exact List.getElem?_eq_getElem hlt
      have go : ∀ m' : Bool, L_18 N k (bI m') (st_i (sa σ i) 2 2 (nI i + 1)) = some (sa σ (sk l f m' (i + 1))) := by
        intro m'
        rw [sa_sa, nI_1]
        exact ih (i + 1) k m' (by omega) (by omega) (by omega)
      unfold L_18 sk
      rw [hl, sa_2, sa_o σ i (by decide), h.1, if_neg (fun q => absurd ((nI_lei (by omega) (by omega)).mp q) (by omega)), if_pos (sa_in h hlt), sa_el h hlt]
      dsimp only
      cases m with
      | true =>
        rw [if_neg (by decide), if_pos rfl]
        by_cases c : ch l i = 10
        · rw [if_pos c, decide_eq_true c]
          exact go false
        · rw [if_neg c, decide_eq_false c]
          exact go true
      | false =>
        rw [if_pos (by decide), if_neg Bool.false_ne_true]
        by_cases c : ch l i = 35
        · rw [if_pos c, if_pos c]
          exact go true
        · rw [if_neg c, if_neg c]
          by_cases c1 : ch l i = 9
          · rw [if_pos c1, if_pos (show isBl (ch l i) = true by rw [c1]; decide)]
            exact go false
          · rw [if_neg c1]
            by_cases c2 : ch l i = 10
            · rw [if_pos c2, if_pos (show isBl (ch l i) = true by rw [c2]; decide)]
              exact go false
            · rw [if_neg c2]
              by_cases c3 : ch l i = 13
              · rw [if_pos c3, if_pos (show isBl (ch l i) = true by rw [c3]; decide)]
                exact go false
              · rw [if_neg c3]
                by_cases c4 : ch l i = 32
                · rw [if_pos c4, if_pos (show isBl (ch l i) = true by rw [c4]; decide)]
                  exact go false
                · rw [if_neg c4, if_neg (show ¬ isBl (ch l i) = true by unfold isBl; rw [decide_eq_false c1, decide_eq_false c2, decide_eq_false c3, decide_eq_false c4]; decide)]
    · have e : i = l.length := by omega
      have hl : l[i]? = none := List.getElem?_eq_none (by omega)
      rw [stop i k m e (by omega)]
      unfold sk
      rw [hl]
theorem sk_top (l : List Int32) : ∀ (f : Nat) (m : Bool) (i : Nat), i ≤ l.length → sk l f m i ≤ l.length := by
  intro f
  induction f with
  | zero => intro m i h; exact h
  | succ f ih =>
    intro m i h
    unfold sk
    cases hl : l[i]? with
    | none => exact h
    | some c =>
      have hi : i < l.length := (List.getElem?_eq_some_iff.mp hl).1
      dsimp only
      split
      · exact ih _ _ hi
      · split
        · exact ih _ _ hi
        · split
          · exact ih _ _ hi
          · exact h
def skp (l : List Int32) (i : Nat) : Nat := sk l l.length false i
/-- characters are bytes -/
def Ok (l : List Int32) : Prop := ∀ j, ∃ m, m < 256 ∧ ch l j = nI m
/-- a sign's kind -/
def sg (c d : Int32) : Nat :=
  if c = 33 then (if d = 61 then 18 else 31) else if c = 37 then 28 else if c = 38 then 29 else if c = 39 then 38 else if c = 40 then 36 else if c = 41 then 37 else if c = 42 then 26 else if c = 43 then 24 else if c = 44 then 35 else if c = 45 then (if d = 62 then 17 else 25) else if c = 46 then (if d = 46 then 16 else 39) else if c = 47 then 27 else if c = 58 then 33 else if c = 59 then 34 else if c = 60 then (if d = 61 then 19 else 21) else if c = 61 then 23 else if c = 62 then (if d = 61 then 20 else 22) else if c = 63 then 32 else if c = 124 then 30 else 39
def sz (k : Nat) : Nat := if 16 ≤ k ∧ k ≤ 20 then 2 else 1
/-- the word that begins at s: its kind, its end -/
def tk (l : List Int32) (s : Nat) : Nat × Nat :=
  if l.length ≤ s then (0, s)
  else if isLe (ch l s) then (if rn isNm l (l.length - s) s - s ≤ 40 then wk l s (rn isNm l (l.length - s) s - s) else 39, rn isNm l (l.length - s) s)
  else if isDi (ch l s) then (if rn isDi l (l.length - s) s - s ≤ 9 then 2 else 39, rn isDi l (l.length - s) s)
  else (sg (ch l s) (ch l (s + 1)), s + sz (sg (ch l s) (ch l (s + 1))))
/-- what reading a word does to the store -/
def Wr (σ σ' : st_S) (l : List Int32) (s k e : Nat) : Prop := σ'.2 = σ.2 ∧ (∀ a j, a ≠ 2 ∨ j ≤ 1 ∨ 7 ≤ j → gI σ' a j = gI σ a j) ∧ gI σ' 2 2 = nI e ∧ gI σ' 2 3 = nI (κ k) ∧ gI σ' 2 4 = nI s ∧ (k = 1 → gI σ' 2 5 = nI (e - s)) ∧ (k = 2 → gI σ' 2 6 = nv l (l.length - s) s 0)
/-- the class's signs, without the store -/
def cg (c d : Int32) : Int32 × Int32 :=
  if c = 46 ∧ d = 46 then (256, 2) else if c = 45 ∧ d = 62 then (257, 2) else if c = 33 ∧ d = 61 then (258, 2) else if c = 60 ∧ d = 61 then (259, 2) else if c = 62 ∧ d = 61 then (260, 2) else (if [60, 62, 61, 43, 45, 42, 47, 37, 38, 124, 33, 63, 58, 59, 44, 40, 41, 39].contains c then c else 263, 1)
theorem cg_m : ∀ m, m < 256 → ∀ b1 b2 b3 : Bool, (b1 = true → b2 = false ∧ b3 = false) → (b2 = true → b3 = false) →
    (let c := nI m
     (if c = 46 ∧ b1 = true then ((256 : Int32), (2 : Int32)) else if c = 45 ∧ b2 = true then (257, 2) else if c = 33 ∧ b3 = true then (258, 2) else if c = 60 ∧ b3 = true then (259, 2) else if c = 62 ∧ b3 = true then (260, 2) else (if [60, 62, 61, 43, 45, 42, 47, 37, 38, 124, 33, 63, 58, 59, 44, 40, 41, 39].contains c then c else 263, 1))
      = (let k := if c = 33 then (if b3 then 18 else 31) else if c = 37 then 28 else if c = 38 then 29 else if c = 39 then 38 else if c = 40 then 36 else if c = 41 then 37 else if c = 42 then 26 else if c = 43 then 24 else if c = 44 then 35 else if c = 45 then (if b2 then 17 else 25) else if c = 46 then (if b1 then 16 else 39) else if c = 47 then 27 else if c = 58 then 33 else if c = 59 then 34 else if c = 60 then (if b3 then 19 else 21) else if c = 61 then 23 else if c = 62 then (if b3 then 20 else 22) else if c = 63 then 32 else if c = 124 then 30 else 39
         (nI (κ k), nI (sz k)))) := by decide +kernel
theorem cg_eq {c d : Int32} {m : Nat} (hm : m < 256) (hc : c = nI m) : cg c d = (nI (κ (sg c d)), nI (sz (sg c d))) := by
  subst hc
  have h := cg_m m hm (decide (d = 46)) (decide (d = 62)) (decide (d = 61)) (by intro e; have e := of_decide_eq_true e; subst e; decide) (by intro e; have e := of_decide_eq_true e; subst e; decide)
  simp only [decide_eq_true_eq] at h
  unfold cg sg
  exact h
theorem tx_sign {c : Int32} {m : Nat} (hm : m < 256) (hc : c = nI m) : ∃ z, tx_2 1 ((c : Int32).toUInt32 % 65536).toInt32 = some z ∧ (if z < 0 then 263 else c : Int32) = if [60, 62, 61, 43, 45, 42, 47, 37, 38, 124, 33, 63, 58, 59, 44, 40, 41, 39].contains c then c else 263 := by
  subst hc
  have h : ∀ m, m < 256 → (match tx_2 1 ((nI m : Int32).toUInt32 % 65536).toInt32 with
    | some z => decide ((if z < 0 then 263 else nI m : Int32) = if [60, 62, 61, 43, 45, 42, 47, 37, 38, 124, 33, 63, 58, 59, 44, 40, 41, 39].contains (nI m) then nI m else 263)
    | none => false) = true := by decide +kernel
  have := h m hm
  cases e : tx_2 1 ((nI m : Int32).toUInt32 % 65536).toInt32 with
  | none => rw [e] at this; cases this
  | some z => rw [e] at this; exact ⟨z, rfl, of_decide_eq_true this⟩
theorem le40 {n : Nat} (h : n < 2 ^ 31) : nI n ≤ 40 ↔ n ≤ 40 := nI_lei (b := 40) h (by decide)
theorem le9 {n : Nat} (h : n < 2 ^ 31) : nI n ≤ 9 ↔ n ≤ 9 := nI_lei (b := 9) h (by decide)
theorem sg_ge (c d : Int32) : 16 ≤ sg c d ∧ sg c d < 40 := by
  unfold sg
  by_cases h0 : c = 33
  · rw [if_pos h0]
    by_cases e : d = 61
    · rw [if_pos e]; decide
    · rw [if_neg e]; decide
  rw [if_neg h0]
  by_cases h1 : c = 37
  · rw [if_pos h1]; decide
  rw [if_neg h1]
  by_cases h2 : c = 38
  · rw [if_pos h2]; decide
  rw [if_neg h2]
  by_cases h3 : c = 39
  · rw [if_pos h3]; decide
  rw [if_neg h3]
  by_cases h4 : c = 40
  · rw [if_pos h4]; decide
  rw [if_neg h4]
  by_cases h5 : c = 41
  · rw [if_pos h5]; decide
  rw [if_neg h5]
  by_cases h6 : c = 42
  · rw [if_pos h6]; decide
  rw [if_neg h6]
  by_cases h7 : c = 43
  · rw [if_pos h7]; decide
  rw [if_neg h7]
  by_cases h8 : c = 44
  · rw [if_pos h8]; decide
  rw [if_neg h8]
  by_cases h9 : c = 45
  · rw [if_pos h9]
    by_cases e : d = 62
    · rw [if_pos e]; decide
    · rw [if_neg e]; decide
  rw [if_neg h9]
  by_cases h10 : c = 46
  · rw [if_pos h10]
    by_cases e : d = 46
    · rw [if_pos e]; decide
    · rw [if_neg e]; decide
  rw [if_neg h10]
  by_cases h11 : c = 47
  · rw [if_pos h11]; decide
  rw [if_neg h11]
  by_cases h12 : c = 58
  · rw [if_pos h12]; decide
  rw [if_neg h12]
  by_cases h13 : c = 59
  · rw [if_pos h13]; decide
  rw [if_neg h13]
  by_cases h14 : c = 60
  · rw [if_pos h14]
    by_cases e : d = 61
    · rw [if_pos e]; decide
    · rw [if_neg e]; decide
  rw [if_neg h14]
  by_cases h15 : c = 61
  · rw [if_pos h15]; decide
  rw [if_neg h15]
  by_cases h16 : c = 62
  · rw [if_pos h16]
    by_cases e : d = 61
    · rw [if_pos e]; decide
    · rw [if_neg e]; decide
  rw [if_neg h16]
  by_cases h17 : c = 63
  · rw [if_pos h17]; decide
  rw [if_neg h17]
  by_cases h18 : c = 124
  · rw [if_pos h18]; decide
  rw [if_neg h18]
  decide
theorem wk_ge (l : List Int32) (s n : Nat) : wk l s n ≠ 2 ∧ 1 ≤ wk l s n ∧ wk l s n < 16 := by
  unfold wk
  by_cases h0 : isK l s n [99, 111, 110, 115, 116] = true
  · rw [if_pos h0]; decide
  rw [if_neg h0]
  by_cases h1 : isK l s n [118, 97, 114] = true
  · rw [if_pos h1]; decide
  rw [if_neg h1]
  by_cases h2 : isK l s n [98, 111, 111, 108] = true
  · rw [if_pos h2]; decide
  rw [if_neg h2]
  by_cases h3 : isK l s n [102, 111, 114, 109, 117, 108, 97] = true
  · rw [if_pos h3]; decide
  rw [if_neg h3]
  by_cases h4 : isK l s n [109, 97, 120] = true
  · rw [if_pos h4]; decide
  rw [if_neg h4]
  by_cases h5 : isK l s n [109, 105, 110] = true
  · rw [if_pos h5]; decide
  rw [if_neg h5]
  by_cases h6 : isK l s n [105, 110, 105, 116] = true
  · rw [if_pos h6]; decide
  rw [if_neg h6]
  by_cases h7 : isK l s n [115, 116, 97, 121] = true
  · rw [if_pos h7]; decide
  rw [if_neg h7]
  by_cases h8 : isK l s n [116, 97, 114, 103, 101, 116] = true
  · rw [if_pos h8]; decide
  rw [if_neg h8]
  by_cases h9 : isK l s n [116, 114, 117, 101] = true
  · rw [if_pos h9]; decide
  rw [if_neg h9]
  by_cases h10 : isK l s n [102, 97, 108, 115, 101] = true
  · rw [if_pos h10]; decide
  rw [if_neg h10]
  by_cases h11 : isK l s n [108, 101, 97, 115, 116] = true
  · rw [if_pos h11]; decide
  rw [if_neg h11]
  by_cases h12 : isK l s n [109, 111, 115, 116] = true
  · rw [if_pos h12]; decide
  rw [if_neg h12]
  decide
theorem sg_two (c : Int32) : ¬ (16 ≤ sg c 0 ∧ sg c 0 ≤ 20) := by
  unfold sg
  by_cases h0 : c = 33
  · rw [if_pos h0, if_neg (by decide)]; decide
  rw [if_neg h0]
  by_cases h1 : c = 37
  · rw [if_pos h1]; decide
  rw [if_neg h1]
  by_cases h2 : c = 38
  · rw [if_pos h2]; decide
  rw [if_neg h2]
  by_cases h3 : c = 39
  · rw [if_pos h3]; decide
  rw [if_neg h3]
  by_cases h4 : c = 40
  · rw [if_pos h4]; decide
  rw [if_neg h4]
  by_cases h5 : c = 41
  · rw [if_pos h5]; decide
  rw [if_neg h5]
  by_cases h6 : c = 42
  · rw [if_pos h6]; decide
  rw [if_neg h6]
  by_cases h7 : c = 43
  · rw [if_pos h7]; decide
  rw [if_neg h7]
  by_cases h8 : c = 44
  · rw [if_pos h8]; decide
  rw [if_neg h8]
  by_cases h9 : c = 45
  · rw [if_pos h9, if_neg (by decide)]; decide
  rw [if_neg h9]
  by_cases h10 : c = 46
  · rw [if_pos h10, if_neg (by decide)]; decide
  rw [if_neg h10]
  by_cases h11 : c = 47
  · rw [if_pos h11]; decide
  rw [if_neg h11]
  by_cases h12 : c = 58
  · rw [if_pos h12]; decide
  rw [if_neg h12]
  by_cases h13 : c = 59
  · rw [if_pos h13]; decide
  rw [if_neg h13]
  by_cases h14 : c = 60
  · rw [if_pos h14, if_neg (by decide)]; decide
  rw [if_neg h14]
  by_cases h15 : c = 61
  · rw [if_pos h15]; decide
  rw [if_neg h15]
  by_cases h16 : c = 62
  · rw [if_pos h16, if_neg (by decide)]; decide
  rw [if_neg h16]
  by_cases h17 : c = 63
  · rw [if_pos h17]; decide
  rw [if_neg h17]
  by_cases h18 : c = 124
  · rw [if_pos h18]; decide
  rw [if_neg h18]
  decide
section SG
variable {N : Nat} (c d : Int32) (τ : st_S)
theorem j170 : J_25_170 N τ = some (st_i τ 2 2 (gI τ 2 2 + gI τ 2 5)) := rfl
theorem j56 : J_25_56 N c d τ = if c = 45 ∧ d = 62 then J_25_170 N (st_i τ 2 3 257) else J_25_78 N c d τ := by
  unfold J_25_56
  by_cases h1 : c = 45 <;> by_cases h2 : d = 62 <;> simp only [h1, h2, if_true, if_false, true_and, false_and, and_self, and_false, and_true]
theorem j78 : J_25_78 N c d τ = if c = 33 ∧ d = 61 then J_25_170 N (st_i τ 2 3 258) else J_25_100 N c d τ := by
  unfold J_25_78
  by_cases h1 : c = 33 <;> by_cases h2 : d = 61 <;> simp only [h1, h2, if_true, if_false, true_and, false_and, and_self, and_false, and_true]
theorem j100 : J_25_100 N c d τ = if c = 60 ∧ d = 61 then J_25_170 N (st_i τ 2 3 259) else J_25_122 N c d τ := by
  unfold J_25_100
  by_cases h1 : c = 60 <;> by_cases h2 : d = 61 <;> simp only [h1, h2, if_true, if_false, true_and, false_and, and_self, and_false, and_true]
theorem j122 : J_25_122 N c d τ = if c = 62 ∧ d = 61 then J_25_170 N (st_i τ 2 3 260) else J_25_144 N c τ := by
  unfold J_25_122
  by_cases h1 : c = 62 <;> by_cases h2 : d = 61 <;> simp only [h1, h2, if_true, if_false, true_and, false_and, and_self, and_false, and_true]
end SG
/-- a sign was read -/
def Sr (σ σ' : st_S) (k n : Int32) : Prop := σ'.2 = σ.2 ∧ (∀ a j, a ≠ 2 ∨ j ≤ 1 ∨ j = 4 ∨ 7 ≤ j → gI σ' a j = gI σ a j) ∧ gI σ' 2 2 = gI σ 2 2 + n ∧ gI σ' 2 3 = k
theorem sr_2 {N : Nat} {σ : st_S} (k : Int32) : ∃ σ', J_25_170 N (st_i (st_i σ 2 5 2) 2 3 k) = some σ' ∧ Sr σ σ' k 2 := by
  refine ⟨_, rfl, rfl, fun a j h => ?_, rfl, rfl⟩
  rw [gI_i, if_neg (by omega), gI_i, if_neg (by omega), gI_i, if_neg (by omega)]
theorem sr_1 {N : Nat} {σ : st_S} (k : Int32) : ∃ σ', J_25_170 N (st_i (st_i (st_i σ 2 5 2) 2 5 1) 2 3 k) = some σ' ∧ Sr σ σ' k 1 := by
  refine ⟨_, rfl, rfl, fun a j h => ?_, rfl, rfl⟩
  rw [gI_i, if_neg (by omega), gI_i, if_neg (by omega), gI_i, if_neg (by omega), gI_i, if_neg (by omega)]
theorem F25 {N : Nat} {σ : st_S} {l : List Int32} {i : Nat} (h : Wd σ l) (ho : Ok l) (hi : gI σ 2 2 = nI i) (hlt : i < l.length) : ∃ σ', F_25 N (ch l i) σ = some σ' ∧ Sr σ σ' (cg (ch l i) (ch l (i + 1))).1 (cg (ch l i) (ch l (i + 1))).2 := by
  have h4 := h.2.2.2.1
  have h5 := h.2.1
  have h6 := h.2.2.1
  have e : F_25 N (ch l i) σ = if ch l i = 46 ∧ ch l (i + 1) = 46 then J_25_170 N (st_i (st_i σ 2 5 2) 2 3 256) else J_25_56 N (ch l i) (ch l (i + 1)) (st_i σ 2 5 2) := by
    unfold F_25
    rw [h.1, hi, nI_1]
    by_cases q : l.length ≤ i + 1
    · rw [if_pos ((nI_lei (by omega) (by omega)).mpr q), ch_ge q, if_neg (show ¬ (ch l i = 46 ∧ (0 : Int32) = 46) from fun z => absurd z.2 (by decide))]
      by_cases c : ch l i = 46
      · rw [if_pos c]
      · rw [if_neg c]
    · rw [if_neg (fun z => q ((nI_lei (by omega) (by omega)).mp z)), if_pos (aB_nI (by omega) (by omega)), nI_clamp (by omega), h.2.2.2.2 (i + 1) (by omega), ← ch_lt (by omega)]
      by_cases c1 : ch l i = 46 <;> by_cases c2 : ch l (i + 1) = 46 <;> simp only [c1, c2, if_true, if_false, true_and, false_and, and_self, and_false, and_true]
  rw [e, j56, j78, j100, j122]
  obtain ⟨m, hm, hc⟩ := ho i
  unfold cg
  by_cases a1 : ch l i = 46 ∧ ch l (i + 1) = 46
  · rw [if_pos a1, if_pos a1]
    exact sr_2 256
  rw [if_neg a1, if_neg a1]
  by_cases a2 : ch l i = 45 ∧ ch l (i + 1) = 62
  · rw [if_pos a2, if_pos a2]
    exact sr_2 257
  rw [if_neg a2, if_neg a2]
  by_cases a3 : ch l i = 33 ∧ ch l (i + 1) = 61
  · rw [if_pos a3, if_pos a3]
    exact sr_2 258
  rw [if_neg a3, if_neg a3]
  by_cases a4 : ch l i = 60 ∧ ch l (i + 1) = 61
  · rw [if_pos a4, if_pos a4]
    exact sr_2 259
  rw [if_neg a4, if_neg a4]
  by_cases a5 : ch l i = 62 ∧ ch l (i + 1) = 61
  · rw [if_pos a5, if_pos a5]
    exact sr_2 260
  rw [if_neg a5, if_neg a5]
  obtain ⟨z, hz, hk⟩ := tx_sign hm hc
  unfold J_25_144
  rw [hz, ob_some, hk]
  exact sr_1 _
/-- the next word -/
theorem F17 {N : Nat} {σ : st_S} {l : List Int32} {i : Nat} (h : Wd σ l) (ho : Ok l) (hi : gI σ 2 2 = nI i) (hle : i ≤ l.length) (hN : 20000 < N) : ∃ σ', F_17 N σ = some σ' ∧ Wr σ σ' l (skp l i) (tk l (skp l i)).1 (tk l (skp l i)).2 := by
  have h4 := h.2.2.2.1
  have h5 := h.2.1
  have h6 := h.2.2.1
  have e0 : F_18 N σ = some (sa σ (skp l i)) := by
    have := cb_loop (N := N) h l.length i N false hle (by omega) (by omega)
    rw [show sa σ i = σ from st_i_id σ 2 2 hi] at this
    exact this
  have hs : skp l i ≤ l.length := sk_top l _ _ _ hle
  generalize hS : skp l i = s at e0 hs
  unfold F_17
  rw [e0, ob_some, sa_2, sa_o σ s (by decide), h.1]
  have fr : ∀ (v w : Int32) a j, a ≠ 2 ∨ j ≤ 1 ∨ 7 ≤ j → gI (st_i (st_i (sa σ s) 2 4 v) 2 3 w) a j = gI σ a j := by
    intro v w a j q
    rw [gI_i, if_neg (by omega), gI_i, if_neg (by omega), gI_i, if_neg (by omega)]
  by_cases hlt : s < l.length
  · have hw : Wd (st_i (sa σ s) 2 4 (nI s)) l := (h.i (by decide)).i (by decide)
    have hg2 : gI (st_i (sa σ s) 2 4 (nI s)) 2 2 = nI s := rfl
    have hg4 : gI (st_i (sa σ s) 2 4 (nI s)) 2 4 = nI s := rfl
    have hfr : ∀ a j, a ≠ 2 ∨ j ≤ 1 ∨ 7 ≤ j → gI (st_i (sa σ s) 2 4 (nI s)) a j = gI σ a j := by
      intro a j q
      rw [gI_i, if_neg (by omega), gI_i, if_neg (by omega)]
    have hel : gE (sa σ s) 3 (nI s).toNatClampNeg = ch l s := sa_el h hlt
    have hel2 : gE (st_i (sa σ s) 2 4 (nI s)) 3 (nI s).toNatClampNeg = ch l s := sa_el h hlt
    have hin : aB (nI s) (gN (st_i (sa σ s) 2 4 (nI s)) 3) := sa_in h hlt
    have htwo : (st_i (sa σ s) 2 4 (nI s)).2 = σ.2 := rfl
    rw [if_pos ((nI_lti (by omega) (by omega)).mpr hlt), if_pos (sa_in h hlt), hel, F19, ob_some]
    dsimp only
    generalize st_i (sa σ s) 2 4 (nI s) = τ at hw hg2 hg4 hfr hel2 hin htwo
    unfold tk
    rw [if_neg (show ¬ l.length ≤ s by omega)]
    by_cases c1 : isLe (ch l s) = true
    · rw [if_neg (by rw [c1]; decide), if_pos c1]
      have e1 : F_20 N τ = J_20_57 N (sa τ (rn isNm l (l.length - s) s)) := by
        have := cn_loop (N := N) hw (l.length - s) s N (by omega) (by omega)
        rw [show sa τ s = τ from st_i_id τ 2 2 hg2] at this
        exact this
      obtain ⟨r1, r2⟩ := rn_le isNm l (l.length - s) s
      generalize rn isNm l (l.length - s) s = e at e1 r1 r2
      rw [e1]
      unfold J_20_57
      rw [sa_2, sa_o τ e (by decide), hg4, nI_sub r1]
      dsimp only
      by_cases c40 : e - s ≤ 40
      · rw [if_pos ((le40 (by omega)).mpr c40), if_pos c40, F22 (σ := st_i (sa τ e) 2 5 (nI (e - s))) (l := l) (s := s) (n := e - s) ⟨(hw.i (k := 2) (by decide)).i (k := 5) (by decide), hg4, rfl, by omega⟩ hN, ob_some, ob_some]
        refine ⟨_, rfl, htwo, fun a j q => ?_, rfl, rfl, hg4, fun _ => rfl, fun q => ?_⟩
        · rw [gI_i, if_neg (by omega), gI_i, if_neg (by omega), gI_i, if_neg (by omega)]
          exact hfr a j q
        · exact absurd q (wk_ge _ _ _).1
      · rw [if_neg (fun q => c40 ((le40 (by omega)).mp q)), if_neg c40, ob_some]
        refine ⟨_, rfl, htwo, fun a j q => ?_, rfl, rfl, hg4, fun q => absurd q (by decide), fun q => absurd q (by decide)⟩
        rw [gI_i, if_neg (by omega), gI_i, if_neg (by omega), gI_i, if_neg (by omega)]
        exact hfr a j q
    · rw [if_pos (by rw [show isLe (ch l s) = false by simpa using c1]; rfl), if_neg c1, hg2, if_pos hin, hel2, F21, ob_some]
      dsimp only
      by_cases c2 : isDi (ch l s) = true
      · rw [if_neg (by rw [c2]; decide), if_pos c2]
        have e1 : F_24 N τ = J_24_68 N (sv τ (nv l (l.length - s) s 0) (rn isDi l (l.length - s) s)) := by
          have := cd_loop (N := N) hw (l.length - s) s N 0 (by omega) (by omega)
          rw [show sv τ 0 s = st_i τ 2 6 0 from st_i_id (st_i τ 2 6 0) 2 2 hg2] at this
          exact this
        obtain ⟨r1, r2⟩ := rn_le isDi l (l.length - s) s
        generalize rn isDi l (l.length - s) s = e at e1 r1 r2
        rw [e1]
        unfold J_24_68
        rw [sa_2, show gI (sv τ (nv l (l.length - s) s 0) e) 2 4 = nI s from hg4, nI_sub r1, ob_some]
        dsimp only
        refine ⟨_, rfl, htwo, fun a j q => ?_, rfl, ?_, hg4, fun q => ?_, fun _ => rfl⟩
        · rw [gI_i, if_neg (by omega), gI_i, if_neg (by omega), gI_i, if_neg (by omega), gI_i, if_neg (by omega)]
          exact hfr a j q
        · show (if nI (e - s) ≤ 9 then 262 else 263 : Int32) = _
          by_cases c9 : e - s ≤ 9
          · rw [if_pos ((le9 (by omega)).mpr c9), if_pos c9]
            decide
          · rw [if_neg (fun q => c9 ((le9 (by omega)).mp q)), if_neg c9]
            decide
        · exfalso
          revert q
          split <;> omega
      · rw [if_pos (by rw [show isDi (ch l s) = false by simpa using c2]; rfl), if_neg c2, hg2, if_pos hin, hel2]
        obtain ⟨σ', e1, s1, s2, s3, s4⟩ := F25 (N := N) hw ho hg2 hlt
        obtain ⟨m, hm, hc⟩ := ho s
        rw [cg_eq hm hc] at s3 s4
        rw [e1, ob_some]
        dsimp only at s3 s4 ⊢
        refine ⟨σ', rfl, s1.trans htwo, fun a j q => (s2 a j (by omega)).trans (hfr a j q), ?_, s4, (s2 2 4 (by omega)).trans hg4, fun q => ?_, fun q => ?_⟩
        · rw [s3, hg2, nI_add]
        · have := (sg_ge (ch l s) (ch l (s + 1))).1
          omega
        · have := (sg_ge (ch l s) (ch l (s + 1))).1
          omega
  · rw [if_neg (fun q => hlt ((nI_lti (by omega) (by omega)).mp q))]
    have e : s = l.length := by omega
    unfold tk
    rw [if_pos (show l.length ≤ s by omega)]
    refine ⟨_, rfl, rfl, fr _ _, rfl, rfl, rfl, fun q => absurd q (show ¬ (0 : Nat) = 1 by decide), fun q => absurd q (show ¬ (0 : Nat) = 2 by decide)⟩
