/-! the class's words: names, numbers -/
theorem Wd.i {σ : st_S} {l : List Int32} (h : Wd σ l) {k : Nat} {v : Int32} (hk : k ≠ 1) : Wd (st_i σ 2 k v) l := by
  obtain ⟨a1, a2, a3, a4, a5⟩ := h
  refine ⟨?_, a2, a3, a4, a5⟩
  rw [gI_i, if_neg (fun e => hk e.2.symm)]
  exact a1
/-- the store with the place of reading at i -/
abbrev sa (σ : st_S) (i : Nat) : st_S := st_i σ 2 2 (nI i)
theorem sa_2 (σ : st_S) (i : Nat) : gI (sa σ i) 2 2 = nI i := st_i_s _ _ _ _
theorem sa_o (σ : st_S) (i : Nat) {k : Nat} (hk : k ≠ 2) : gI (sa σ i) 2 k = gI σ 2 k := by
  rw [gI_i, if_neg (fun e => hk e.2)]
theorem sa_sa (σ : st_S) (i : Nat) (v : Int32) : st_i (sa σ i) 2 2 v = st_i σ 2 2 v := st_i_i _ _ _ _ _
theorem sa_el {σ : st_S} {l : List Int32} (h : Wd σ l) {i : Nat} (hi : i < l.length) : gE (sa σ i) 3 (nI i).toNatClampNeg = ch l i := by
  have h4 := h.2.2.2.1
  rw [nI_clamp (by omega), ch_lt hi]
  exact h.2.2.2.2 i hi
theorem sa_in {σ : st_S} {l : List Int32} (h : Wd σ l) {i : Nat} (hi : i < l.length) : aB (nI i) (gN (sa σ i) 3) := by
  have h2 := h.2.1
  have h3 := h.2.2.1
  exact aB_nI (show i < gN σ 3 by omega) (show gN σ 3 < 2 ^ 31 by omega)
theorem cn_loop {N : Nat} {σ : st_S} {l : List Int32} (h : Wd σ l) : ∀ f i k, i + f = l.length → f < k → L_20 N k (sa σ i) = J_20_57 N (sa σ (rn isNm l f i)) := by
  have h4 := h.2.2.2.1
  intro f
  induction f with
  | zero =>
    intro i k hi hk
    obtain ⟨k, rfl⟩ : ∃ k', k = k' + 1 := ⟨k - 1, by omega⟩
    unfold L_20
    rw [sa_2, sa_o σ i (by decide), h.1, if_pos ((nI_lei (by omega) (by omega)).mpr (by omega))]
    rfl
  | succ f ih =>
    intro i k hi hk
    obtain ⟨k, rfl⟩ : ∃ k', k = k' + 1 := ⟨k - 1, by omega⟩
    have e : rn isNm l (f + 1) i = if isNm (ch l i) then rn isNm l f (i + 1) else i := rfl
    unfold L_20
    rw [sa_2, sa_o σ i (by decide), h.1, if_neg (fun q => absurd ((nI_lei (by omega) (by omega)).mp q) (by omega)), if_pos (sa_in h (by omega)), sa_el h (by omega), F19, ob_some]
    dsimp only
    have go : L_20 N k (st_i (sa σ i) 2 2 (nI i + 1)) = J_20_57 N (sa σ (rn isNm l f (i + 1))) := by
      rw [sa_sa, nI_1]
      exact ih (i + 1) k (by omega) (by omega)
    by_cases c1 : isLe (ch l i) = true
    · rw [if_neg (by rw [c1]; decide), sa_2, go, e, if_pos (by unfold isNm; rw [c1]; rfl)]
    · have c1 : isLe (ch l i) = false := by simpa using c1
      rw [if_pos (by rw [c1]; rfl), F21, ob_some]
      dsimp only
      by_cases c2 : isDi (ch l i) = true
      · rw [if_neg (by rw [c2]; decide), sa_2, go, e, if_pos (by unfold isNm; rw [c1, c2]; rfl)]
      · have c2 : isDi (ch l i) = false := by simpa using c2
        rw [if_pos (by rw [c2]; rfl)]
        by_cases c3 : ch l i = 95
        · rw [if_pos c3, sa_2, go, e, if_pos (by unfold isNm; rw [c1, c2, decide_eq_true c3]; rfl)]
        · rw [if_neg c3, e, if_neg (by unfold isNm; rw [c1, c2, decide_eq_false c3]; decide)]
/-- a number's value, as it is read -/
def nv (l : List Int32) : Nat → Nat → Int32 → Int32
  | 0, _, v => v
  | f + 1, i, v => if isDi (ch l i) then nv l f (i + 1) (v * 10 + ch l i - 48) else v
/-- the store with place i and value v -/
abbrev sv (σ : st_S) (v : Int32) (i : Nat) : st_S := st_i (st_i σ 2 6 v) 2 2 (nI i)
theorem cd_loop {N : Nat} {σ : st_S} {l : List Int32} (h : Wd σ l) : ∀ f i k v, i + f = l.length → f < k → L_24 N k (sv σ v i) = J_24_68 N (sv σ (nv l f i v) (rn isDi l f i)) := by
  have h4 := h.2.2.2.1
  intro f
  induction f with
  | zero =>
    intro i k v hi hk
    obtain ⟨k, rfl⟩ : ∃ k', k = k' + 1 := ⟨k - 1, by omega⟩
    have h' : Wd (st_i σ 2 6 v) l := h.i (by decide)
    unfold L_24
    rw [sa_2, sa_o _ i (by decide), h'.1, if_pos ((nI_lei (by omega) (by omega)).mpr (by omega))]
    rfl
  | succ f ih =>
    intro i k v hi hk
    obtain ⟨k, rfl⟩ : ∃ k', k = k' + 1 := ⟨k - 1, by omega⟩
    have h' : Wd (st_i σ 2 6 v) l := h.i (by decide)
    have e1 : rn isDi l (f + 1) i = if isDi (ch l i) then rn isDi l f (i + 1) else i := rfl
    have e2 : nv l (f + 1) i v = if isDi (ch l i) then nv l f (i + 1) (v * 10 + ch l i - 48) else v := rfl
    unfold L_24
    rw [sa_2, sa_o _ i (by decide), h'.1, if_neg (fun q => absurd ((nI_lei (by omega) (by omega)).mp q) (by omega)), if_pos (sa_in h' (by omega)), sa_el h' (by omega), F21, ob_some]
    dsimp only
    by_cases c1 : isDi (ch l i) = true
    · rw [if_neg (by rw [c1]; decide), sa_2, if_pos (sa_in h' (by omega)), sa_el h' (by omega)]
      have e3 : gI (sv σ v i) 2 6 = v := rfl
      have e4 : st_i (st_i (sv σ v i) 2 6 (v * 10 + ch l i - 48)) 2 2 (nI i + 1) = sv σ (v * 10 + ch l i - 48) (i + 1) := by
        rw [nI_1]
        unfold sv st_i
        refine Prod.ext ?_ rfl
        funext b j
        show st_u (st_u (st_u (st_u σ.1 2 6 v) 2 2 (nI i)) 2 6 (v * 10 + ch l i - 48)) 2 2 (nI (i + 1)) b j = st_u (st_u σ.1 2 6 (v * 10 + ch l i - 48)) 2 2 (nI (i + 1)) b j
        unfold st_u
        by_cases c : b = 2 ∧ j = 2
        · simp only [if_pos c]
        · by_cases c' : b = 2 ∧ j = 6
          · simp only [if_neg c, if_pos c']
          · simp only [if_neg c, if_neg c']
      rw [e3, e4, ih (i + 1) k _ (by omega) (by omega), e1, e2, if_pos c1, if_pos c1]
    · rw [if_pos (by rw [show isDi (ch l i) = false by simpa using c1]; rfl), e1, e2, if_neg c1, if_neg c1]
/-! the words that are no names -/
def kyT : List Nat := [99, 111, 110, 115, 116, 32, 118, 97, 114, 32, 98, 111, 111, 108, 32, 102, 111, 114, 109, 117, 108, 97, 32, 109, 97, 120, 32, 109, 105, 110, 32, 105, 110, 105, 116, 32, 115, 116, 97, 121, 32, 116, 97, 114, 103, 101, 116, 32, 116, 114, 117, 101, 32, 102, 97, 108, 115, 101, 32, 108, 101, 97, 115, 116, 32, 109, 111, 115, 116, 32]
/-- the n characters from s on are this word -/
def isK (l : List Int32) (s n : Nat) (w : List Nat) : Bool := decide (n = w.length) && (List.range w.length).all fun j => decide (nI (w.getD j 0) = ch l (s + j))
theorem isK_ne {l : List Int32} {s n a : Nat} {r : List Nat} (h : ¬ nI a = ch l s) : isK l s n (a :: r) = false := by
  unfold isK
  refine Bool.and_eq_false_iff.mpr (Or.inr ?_)
  refine Bool.eq_false_iff.mpr fun e => ?_
  have := List.all_eq_true.mp e 0 (List.mem_range.mpr (by show 0 < r.length + 1; omega))
  exact h (of_decide_eq_true this)
/-- the words of the document that are no names: 3 const, 4 var .. 15 most; 1 a name -/
def wk (l : List Int32) (s n : Nat) : Nat :=
  if isK l s n [99, 111, 110, 115, 116] then 3
  else if isK l s n [118, 97, 114] then 4
  else if isK l s n [98, 111, 111, 108] then 5
  else if isK l s n [102, 111, 114, 109, 117, 108, 97] then 6
  else if isK l s n [109, 97, 120] then 7
  else if isK l s n [109, 105, 110] then 8
  else if isK l s n [105, 110, 105, 116] then 9
  else if isK l s n [115, 116, 97, 121] then 10
  else if isK l s n [116, 97, 114, 103, 101, 116] then 11
  else if isK l s n [116, 114, 117, 101] then 12
  else if isK l s n [102, 97, 108, 115, 101] then 13
  else if isK l s n [108, 101, 97, 115, 116] then 14
  else if isK l s n [109, 111, 115, 116] then 15
  else 1
/-- the class's number of a kind of word -/
def kp : List Nat := [264, 261, 262, 300, 301, 302, 303, 304, 305, 306, 307, 308, 309, 310, 311, 312, 256, 257, 258, 259, 260, 60, 62, 61, 43, 45, 42, 47, 37, 38, 124, 33, 63, 58, 59, 44, 40, 41, 39, 263]
def κ (k : Nat) : Nat := kp.getD k 263
theorem tx_0_at {i : Nat} (h : i < 70) : tx_1 0 (nI i) = some (nI (kyT.getD i 0)) := by
  have e : tb_tx[0]? = some kyT := rfl
  unfold tx_1
  rw [e, ob_some, if_neg (nI_pos (by omega)), nI_clamp (by omega)]
  have h2 : i < kyT.length := h
  rw [List.getElem?_eq_getElem h2, ob_some, List.getD_eq_getElem?_getD, List.getElem?_eq_getElem h2]
  rfl
/-- from a place of KEYS on, n characters of it are those of the tape from s on; i: from the i-th -/
def mt (l : List Int32) (s from_ n : Nat) : Nat → Nat → Bool
  | 0, _ => true
  | f + 1, i => decide (nI (kyT.getD (from_ + i) 0) = ch l (s + i)) && mt l s from_ n f (i + 1)
/-- a name's place and length are in the store -/
def Nw (σ : st_S) (l : List Int32) (s n : Nat) : Prop := Wd σ l ∧ gI σ 2 4 = nI s ∧ gI σ 2 5 = nI n ∧ s + n ≤ l.length
theorem ck_loop {N : Nat} {σ : st_S} {l : List Int32} {s n fr : Nat} (h : Nw σ l s n) (hf : fr + n ≤ 70) : ∀ f i k, i + f = n → f < k → L_23 N k (nI fr) (nI i) σ = some (bI (mt l s fr n f i), σ) := by
  obtain ⟨hw, h1, h2, h3⟩ := h
  have h4 := hw.2.2.2.1
  have h5 := hw.2.1
  have h6 := hw.2.2.1
  intro f
  induction f with
  | zero =>
    intro i k hi hk
    obtain ⟨k, rfl⟩ : ∃ k', k = k' + 1 := ⟨k - 1, by omega⟩
    unfold L_23
    rw [h2, if_pos ((nI_lei (by omega) (by omega)).mpr (by omega))]
    rfl
  | succ f ih =>
    intro i k hi hk
    obtain ⟨k, rfl⟩ : ∃ k', k = k' + 1 := ⟨k - 1, by omega⟩
    unfold L_23
    rw [h2, if_neg (fun q => absurd ((nI_lei (by omega) (by omega)).mp q) (by omega)), nI_add, tx_0_at (by omega), ob_some, h1, nI_add, if_pos (aB_nI (by omega) (by omega)), nI_clamp (by omega), hw.2.2.2.2 (s + i) (by omega), ← ch_lt (by omega)]
    have e : mt l s fr n (f + 1) i = (decide (nI (kyT.getD (fr + i) 0) = ch l (s + i)) && mt l s fr n f (i + 1)) := rfl
    by_cases c : nI (kyT.getD (fr + i) 0) = ch l (s + i)
    · rw [if_pos c, nI_1, ih (i + 1) k (by omega) (by omega), e, decide_eq_true c]
      rfl
    · rw [if_neg c, e, decide_eq_false c]
      rfl
/-- the search for a word among KEYS -/
def ky (q : Nat → Nat → Bool) : Nat → Nat → Nat → Nat → Nat
  | 0, _, _, _ => 261
  | f + 1, key, fr, i => if kyT.getD i 0 = 32 then (if q fr i then key else ky q f (key + 1) (i + 1) (i + 1)) else ky q f key fr (i + 1)
def kq (l : List Int32) (s n fr i : Nat) : Bool := decide (i - fr = n) && mt l s fr n n 0
theorem cw_loop {N : Nat} {σ : st_S} {l : List Int32} {s n : Nat} (h : Nw σ l s n) (hN : 20000 < N) : ∀ f i key fr k, i + f = 70 → fr ≤ i → key + f ≤ 400 → f < k → L_22 N k (nI key) (nI fr) (nI i) σ = some (nI (ky (kq l s n) f key fr i), σ) := by
  have h4 := h.1.2.2.2.1
  have h3 := h.2.2.2
  have h2 := h.2.2.1
  intro f
  induction f with
  | zero =>
    intro i key fr k hi hfr hky hk
    obtain ⟨k, rfl⟩ : ∃ k', k = k' + 1 := ⟨k - 1, by omega⟩
    unfold L_22
    rw [if_pos (show (70 : Int32) ≤ nI i by have e : i = 70 := by omega
                                            rw [e]; decide)]
    rfl
  | succ f ih =>
    intro i key fr k hi hfr hky hk
    obtain ⟨k, rfl⟩ : ∃ k', k = k' + 1 := ⟨k - 1, by omega⟩
    unfold L_22
    rw [if_neg (show ¬ (70 : Int32) ≤ nI i from fun q => absurd ((nI_lei (a := 70) (b := i) (by omega) (by omega)).mp q) (by omega)), tx_0_at (by omega), ob_some]
    have e : ky (kq l s n) (f + 1) key fr i = if kyT.getD i 0 = 32 then (if kq l s n fr i then key else ky (kq l s n) f (key + 1) (i + 1) (i + 1)) else ky (kq l s n) f key fr (i + 1) := rfl
    have hb : kyT.getD i 0 < 2 ^ 31 := by
      have hh : ∀ j, j < 70 → kyT.getD j 0 < 2 ^ 31 := by decide
      exact hh i (by omega)
    by_cases c : kyT.getD i 0 = 32
    · rw [if_pos (show nI (kyT.getD i 0) = 32 by rw [c]; decide), nI_sub hfr, h2, e, if_pos c]
      by_cases c2 : i - fr = n
      · rw [if_pos ((nI_eq (by omega) (by omega)).mpr c2)]
        have e2 : F_23 N (nI fr) σ = some (bI (mt l s fr n n 0), σ) := ck_loop h (by omega) n 0 N (by omega) (by omega)
        rw [e2, ob_some]
        dsimp only
        cases hm : mt l s fr n n 0 with
        | true =>
          rw [if_neg (by decide), if_pos (by unfold kq; rw [decide_eq_true c2, hm]; rfl)]
        | false =>
          rw [if_pos (by decide), if_neg (by unfold kq; rw [hm, Bool.and_false]; decide), nI_1, nI_1]
          exact ih (i + 1) (key + 1) (i + 1) k (by omega) (by omega) (by omega) (by omega)
      · rw [if_neg (fun q => c2 ((nI_eq (by omega) (by omega)).mp q)), if_neg (by unfold kq; rw [decide_eq_false c2, Bool.false_and]; decide), nI_1, nI_1]
        exact ih (i + 1) (key + 1) (i + 1) k (by omega) (by omega) (by omega) (by omega)
    · rw [if_neg (fun q => c ((nI_eq hb (by decide)).mp (q.trans (by decide : (32 : Int32) = nI 32)))), e, if_neg c, nI_1]
      exact ih (i + 1) key fr k (by omega) (by omega) (by omega) (by omega)
theorem mt_eq (l : List Int32) (s fr n : Nat) : ∀ f i, mt l s fr n f i = true ↔ ∀ j, j < f → nI (kyT.getD (fr + (i + j)) 0) = ch l (s + (i + j)) := by
  intro f
  induction f with
  | zero => intro i; exact ⟨fun _ j hj => absurd hj (Nat.not_lt_zero j), fun _ => rfl⟩
  | succ f ih =>
    intro i
    have e : mt l s fr n (f + 1) i = (decide (nI (kyT.getD (fr + i) 0) = ch l (s + i)) && mt l s fr n f (i + 1)) := rfl
    rw [e, Bool.and_eq_true_iff, decide_eq_true_iff, ih (i + 1)]
    constructor
    · rintro ⟨a, b⟩ j hj
      cases j with
      | zero => exact a
      | succ j =>
        have := b j (by omega)
        rw [show i + 1 + j = i + (j + 1) by omega] at this
        exact this
    · intro a
      refine ⟨a 0 (by omega), fun j hj => ?_⟩
      have := a (j + 1) (by omega)
      rw [show i + (j + 1) = i + 1 + j by omega] at this
      exact this
theorem kq_eq {l : List Int32} {s n fr i : Nat} {w : List Nat} (hi : i = fr + w.length) (hw : ∀ j, j < w.length → kyT.getD (fr + j) 0 = w.getD j 0) : kq l s n fr i = isK l s n w := by
  subst hi
  rw [Bool.eq_iff_iff]
  unfold kq isK
  rw [Bool.and_eq_true_iff, Bool.and_eq_true_iff, decide_eq_true_iff, decide_eq_true_iff, mt_eq, List.all_eq_true]
  constructor
  · rintro ⟨a, b⟩
    refine ⟨by omega, fun j hj => decide_eq_true ?_⟩
    have hj := List.mem_range.mp hj
    have := b j (by omega)
    rw [Nat.zero_add, hw j hj] at this
    exact this
  · rintro ⟨a, b⟩
    refine ⟨by omega, fun j hj => ?_⟩
    have := of_decide_eq_true (b j (List.mem_range.mpr (by omega)))
    rw [Nat.zero_add, hw j (by omega)]
    exact this
set_option maxRecDepth 10000 in
theorem ky_eq (q : Nat → Nat → Bool) : ky q 70 300 0 0 = if q 0 5 then 300 else if q 6 9 then 301 else if q 10 14 then 302 else if q 15 22 then 303 else if q 23 26 then 304 else if q 27 30 then 305 else if q 31 35 then 306 else if q 36 40 then 307 else if q 41 47 then 308 else if q 48 52 then 309 else if q 53 58 then 310 else if q 59 64 then 311 else if q 65 69 then 312 else 261 := rfl
theorem wk_key (b1 b2 b3 b4 b5 b6 b7 b8 b9 b10 b11 b12 b13 : Bool) : (if b1 then 300 else if b2 then 301 else if b3 then 302 else if b4 then 303 else if b5 then 304 else if b6 then 305 else if b7 then 306 else if b8 then 307 else if b9 then 308 else if b10 then 309 else if b11 then 310 else if b12 then 311 else if b13 then 312 else 261) = κ (if b1 then 3 else if b2 then 4 else if b3 then 5 else if b4 then 6 else if b5 then 7 else if b6 then 8 else if b7 then 9 else if b8 then 10 else if b9 then 11 else if b10 then 12 else if b11 then 13 else if b12 then 14 else if b13 then 15 else 1) := by
  cases b1 with
  | true => rfl
  | false =>
    cases b2 with
    | true => rfl
    | false =>
      cases b3 with
      | true => rfl
      | false =>
        cases b4 with
        | true => rfl
        | false =>
          cases b5 with
          | true => rfl
          | false =>
            cases b6 with
            | true => rfl
            | false =>
              cases b7 with
              | true => rfl
              | false =>
                cases b8 with
                | true => rfl
                | false =>
                  cases b9 with
                  | true => rfl
                  | false =>
                    cases b10 with
                    | true => rfl
                    | false =>
                      cases b11 with
                      | true => rfl
                      | false =>
                        cases b12 with
                        | true => rfl
                        | false =>
                          cases b13 with
                          | true => rfl
                          | false =>
                            rfl
theorem F22 {N : Nat} {σ : st_S} {l : List Int32} {s n : Nat} (h : Nw σ l s n) (hN : 20000 < N) : F_22 N σ = some (nI (κ (wk l s n)), σ) := by
  have e : F_22 N σ = some (nI (ky (kq l s n) 70 300 0 0), σ) := cw_loop h hN 70 0 300 0 N (by omega) (by omega) (by omega) (by omega)
  rw [e, ky_eq, kq_eq (i := 5) (w := [99, 111, 110, 115, 116]) rfl (by decide), kq_eq (i := 9) (w := [118, 97, 114]) rfl (by decide), kq_eq (i := 14) (w := [98, 111, 111, 108]) rfl (by decide), kq_eq (i := 22) (w := [102, 111, 114, 109, 117, 108, 97]) rfl (by decide), kq_eq (i := 26) (w := [109, 97, 120]) rfl (by decide), kq_eq (i := 30) (w := [109, 105, 110]) rfl (by decide), kq_eq (i := 35) (w := [105, 110, 105, 116]) rfl (by decide), kq_eq (i := 40) (w := [115, 116, 97, 121]) rfl (by decide), kq_eq (i := 47) (w := [116, 97, 114, 103, 101, 116]) rfl (by decide), kq_eq (i := 52) (w := [116, 114, 117, 101]) rfl (by decide), kq_eq (i := 58) (w := [102, 97, 108, 115, 101]) rfl (by decide), kq_eq (i := 64) (w := [108, 101, 97, 115, 116]) rfl (by decide), kq_eq (i := 69) (w := [109, 111, 115, 116]) rfl (by decide)]
  unfold wk
  rw [wk_key]
