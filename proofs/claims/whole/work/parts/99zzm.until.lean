/-! the reference: words in the store; until, colonOf, closeOf, initOf -/
def iA (a : Int) : Int32 := Int32.ofInt a
theorem iA_n (n : Nat) : iA (n : Int) = nI n := Int32.ofInt_eq_ofNat
theorem iA_t {a : Int} (h1 : -100000 < a) (h2 : a < 100000) : (iA a).toInt = a := Int32.toInt_ofInt_of_le (by omega) (by omega)
theorem iA_le {a : Int} (h1 : -100000 < a) (h2 : a < 100000) : iA a ≤ 0 ↔ a ≤ 0 := by
  rw [Int32.le_iff_toInt_le, iA_t h1 h2]
  exact Iff.rfl
theorem iA_eq {a : Int} (h1 : -100000 < a) (h2 : a < 100000) : iA a = 0 ↔ a = 0 := by
  rw [← Int32.toInt_inj, iA_t h1 h2]
  exact Iff.rfl
theorem iA_s (a : Int) : iA a + 1 = iA (a + 1) := (Int32.ofInt_add a 1).symm
theorem iA_p (a : Int) : iA a - 1 = iA (a - 1) := (Int32.ofInt_sub a 1).symm
/-- kinds are small -/
def K40 (w : List (Nat × Nat × Nat)) : Prop := ∀ k, kK w k < 40
theorem wds_K40 (l : List Int32) : K40 (wds l) := fun k => by
  unfold kK
  rcases wds_at l k with h | h
  · rw [(wds_tk _ h).2.1]
    exact tk_lt l _
  · rw [h]; decide
section RW3
variable {N : Nat} {σ : st_S} {w : List (Nat × Nat × Nat)} {k : Nat}
theorem nu_at {t : Nat} {b : Nat} (hb : b = t + 1) {l : List Int32} (h : Nu σ t b l) (hL : gN σ b ≤ 100000) (hk : k < l.length) : N_139 N t (nI k) σ = some (l.getD k 0, σ) := by
  subst hb
  obtain ⟨h1, h2, h3, h4⟩ := h
  unfold N_139
  rw [if_pos (aB_nI (by omega) (by omega)), nI_clamp (by omega), h4 k hk, List.getD_eq_getElem?_getD, List.getElem?_eq_getElem hk]
  rfl
theorem F162 (h : W3 σ w) (hk : k < w.length) : F_162 N (nI k) σ = some (nI (kK w k), σ) := by
  unfold F_162
  rw [nu_at (b := 72) rfl h.1 (by have := h.2.2.2.1; omega) (by rw [List.length_map]; exact hk), ob_some]
  unfold kK
  rw [List.getD_eq_getElem?_getD, List.getD_eq_getElem?_getD, List.getElem?_map, List.getElem?_eq_getElem hk]
  rfl
theorem F159 (h : W3 σ w) (hk : k < w.length) : F_159 N (nI k) σ = some (nI (kP w k), σ) := by
  unfold F_159
  rw [nu_at (b := 74) rfl h.2.1 (by have := h.2.2.2.2.1; omega) (by rw [List.length_map]; exact hk), ob_some]
  unfold kP
  rw [List.getD_eq_getElem?_getD, List.getD_eq_getElem?_getD, List.getElem?_map, List.getElem?_eq_getElem hk]
  rfl
theorem N139e (h : W3 σ w) (hk : k < w.length) : N_139 N 75 (nI k) σ = some (nI (kE w k), σ) := by
  rw [nu_at (b := 76) rfl h.2.2.1 (by have := h.2.2.2.2.2; omega) (by rw [List.length_map]; exact hk)]
  unfold kE
  rw [List.getD_eq_getElem?_getD, List.getD_eq_getElem?_getD, List.getElem?_map, List.getElem?_eq_getElem hk]
  rfl
variable {so : Nat}
/-- the step of the store's scan -/
theorem ust_d (h4 : K40 w) {k d : Nat} {a : Int} (hd : d < 100000) (h37 : kK w k = 37 → 0 < d) : (if nI (kK w k) = 36 then (nI d + 1) else (if nI (kK w k) = 37 then (nI d - 1) else nI d) : Int32) = nI (ust w (k, d, a)).2.1 := by
  have k4 := h4 k
  have e36 : nI (kK w k) = 36 ↔ kK w k = 36 := nI_eq (b := 36) (by omega) (by decide)
  have e37 : nI (kK w k) = 37 ↔ kK w k = 37 := nI_eq (b := 37) (by omega) (by decide)
  unfold ust
  dsimp only
  by_cases c : kK w k = 36
  · rw [if_pos (e36.mpr c), if_pos c, nI_1]
  rw [if_neg (fun z => c (e36.mp z)), if_neg c]
  by_cases c2 : kK w k = 37
  · rw [if_pos (e37.mpr c2), if_pos c2]
    exact nI_sub (h37 c2)
  · rw [if_neg (fun z => c2 (e37.mp z)), if_neg c2]
theorem ust_a (h4 : K40 w) {k d : Nat} {a : Int} (hd : d < 100000) : (if nI (ust w (k, d, a)).2.1 ≤ 0 then (if nI (kK w k) = 32 then (iA a + 1) else (if nI (kK w k) = 33 then (iA a - 1) else iA a)) else iA a : Int32) = iA (ust w (k, d, a)).2.2 := by
  have k4 := h4 k
  have e32 : nI (kK w k) = 32 ↔ kK w k = 32 := nI_eq (b := 32) (by omega) (by decide)
  have e33 : nI (kK w k) = 33 ↔ kK w k = 33 := nI_eq (b := 33) (by omega) (by decide)
  have e : (ust w (k, d, a)).2.2 = if (ust w (k, d, a)).2.1 = 0 then (if kK w k = 32 then a + 1 else if kK w k = 33 then a - 1 else a) else a := rfl
  have db : (ust w (k, d, a)).2.1 ≤ d + 1 := by
    unfold ust
    dsimp only
    repeat' split
    all_goals omega
  rw [e]
  generalize (ust w (k, d, a)).2.1 = x at *
  have ex : nI x ≤ 0 ↔ x ≤ 0 := nI_lei (b := 0) (by omega) (by decide)
  by_cases c : x = 0
  · rw [if_pos c, if_pos (ex.mpr (by omega))]
    by_cases c2 : kK w k = 32
    · rw [if_pos c2, if_pos (e32.mpr c2), iA_s]
    rw [if_neg c2, if_neg (fun z => c2 (e32.mp z))]
    by_cases c3 : kK w k = 33
    · rw [if_pos c3, if_pos (e33.mpr c3), iA_p]
    · rw [if_neg c3, if_neg (fun z => c3 (e33.mp z))]
  · rw [if_neg c, if_neg (fun z => c (by have := ex.mp z; omega))]
theorem L163s (h : W3 σ w) (h4 : K40 w) (hso : so < 40) {f k d : Nat} {a : Int} (hd : d < 50000) (ha1 : -50000 < a) (ha2 : a < 50000) (hg : grd w so (k, d, a)) : L_163 N (f + 1) (nI so) (nI d) (iA a) (nI k) σ = L_163 N f (nI so) (nI (ust w (k, d, a)).2.1) (iA (ust w (k, d, a)).2.2) (nI (k + 1)) σ := by
  obtain ⟨g1, g2, g3⟩ := hg
  have g1 : k < w.length := g1
  have f162 := F162 (N := N) h g1
  have k4 := h4 k
  have es : nI (kK w k) = nI so ↔ kK w k = so := nI_eq (by omega) (by omega)
  have ed : (0 : Int32) < nI d ↔ 0 < d := nI_lti (a := 0) (by decide) (by omega)
  have ea := iA_le (a := a) (by omega) (by omega)
  conv => lhs; unfold L_163
  rw [f162, ob_some]
  dsimp only
  rw [f162, ob_some]
  dsimp only
  have g3 : kK w k = 37 → 0 < d := g3
  rw [ust_d (k := k) (d := d) (a := a) h4 (by omega) g3, ust_a (k := k) (d := d) h4 (by omega), nI_1]
  have g2 : kK w k ≠ so ∨ 0 < d ∨ 0 < a := g2
  by_cases c : kK w k = so
  · rw [if_pos (es.mpr c)]
    by_cases c2 : 0 < d
    · rw [if_pos (ed.mpr c2)]
    · rw [if_neg (fun z => c2 (ed.mp z)), if_neg (fun z => by have := ea.mp z; omega)]
  · rw [if_neg (fun z => c (es.mp z))]
theorem ust_b (w : List (Nat × Nat × Nat)) (k d : Nat) (a : Int) : (ust w (k, d, a)).1 = k + 1 ∧ (ust w (k, d, a)).2.1 ≤ d + 1 ∧ (ust w (k, d, a)).2.2 ≤ a + 1 ∧ a - 1 ≤ (ust w (k, d, a)).2.2 := by
  unfold ust
  dsimp only
  refine ⟨rfl, ?_, ?_, ?_⟩
  · repeat' split
    all_goals omega
  · repeat' split
    all_goals omega
  · repeat' split
    all_goals omega
theorem L163r (h : W3 σ w) (h4 : K40 w) (hso : so < 40) {fl : Nat} : ∀ (m f k d : Nat) (a : Int) (k' d' : Nat) (a' : Int), Pt w so fl m (k, d, a) (k', d', a') → d + m < 50000 → -50000 < a - m → a + m < 50000 → L_163 N (f + m) (nI so) (nI d) (iA a) (nI k) σ = L_163 N f (nI so) (nI d') (iA a') (nI k') σ := by
  intro m
  induction m with
  | zero =>
    intro f k d a k' d' a' p _ _ _
    obtain ⟨p, -⟩ : (k, d, a) = (k', d', a') ∧ _ := p
    injection p with p1 p2
    injection p2 with p2 p3
    subst p1 p2 p3
    rfl
  | succ m ih =>
    intro f k d a k' d' a' p b1 b2 b3
    obtain ⟨⟨g, -⟩, p⟩ := p
    obtain ⟨u1, u2, u3, u4⟩ := ust_b w k d a
    rw [← Nat.add_assoc, L163s h h4 hso (by omega) (by omega) (by omega) g]
    refine ih f (k + 1) _ _ k' d' a' ?_ (by omega) (by omega) (by omega)
    have e : ust w (k, d, a) = (k + 1, (ust w (k, d, a)).2.1, (ust w (k, d, a)).2.2) := by rw [← u1]
    rw [← e]
    exact p
/-- until -/
theorem F163 (h : W3 σ w) (h4 : K40 w) (hso : so < 40) (hso0 : so ≠ 0) {fl m k k' : Nat} {a' : Int} (hN : 50000 < N) (hm : m < 40000) (p : Pt w so fl m (k, 0, 0) (k', 0, a')) (ha : a' ≤ 0) (ha2 : -50000 < a') (hk : kK w k' = so) : F_163 N (nI k) (nI so) σ = some (nI k', σ) := by
  unfold F_163
  have e : N = N - m - 1 + 1 + m := by omega
  have q := L163r (N := N) h h4 hso m (N - m - 1 + 1) k 0 0 k' 0 a' p (by omega) (by omega) (by omega)
  rw [← e] at q
  have q : L_163 N N (nI so) 0 0 (nI k) σ = _ := q
  rw [q]
  have f162 := F162 (N := N) (k := k') h (kK_lt (by omega))
  unfold L_163
  rw [f162, ob_some]
  dsimp only
  rw [if_pos (by rw [hk]), if_neg (show ¬ (0 : Int32) < nI 0 by decide), if_pos ((iA_le (by omega) (by omega)).mpr ha)]
/-- the colon of a question -/
theorem L176r (h : W3 σ w) (h4 : K40 w) {fl : Nat} : ∀ (m f k d : Nat) (a : Int) (k' d' : Nat) (a' : Int), Pt w 33 fl m (k + 1, d, a) (k' + 1, d', a') → d + m < 50000 → -50000 < a - m → a + m < 50000 → L_176 N (f + m) (iA a) (nI d) (nI k) 0 σ = L_176 N f (iA a') (nI d') (nI k') 0 σ := by
  intro m
  induction m with
  | zero =>
    intro f k d a k' d' a' p _ _ _
    obtain ⟨p, -⟩ : (k + 1, d, a) = (k' + 1, d', a') ∧ _ := p
    injection p with p1 p2
    injection p2 with p2 p3
    have p1 : k = k' := by omega
    subst p1 p2 p3
    rfl
  | succ m ih =>
    intro f k d a k' d' a' p b1 b2 b3
    obtain ⟨⟨g, -⟩, p⟩ := p
    obtain ⟨u1, u2, u3, u4⟩ := ust_b w (k + 1) d a
    obtain ⟨g1, g2, g3⟩ := g
    have g1 : k + 1 < w.length := g1
    have g3 : kK w (k + 1) = 37 → 0 < d := g3
    have g2 : kK w (k + 1) ≠ 33 ∨ 0 < d ∨ 0 < a := g2
    have f162 := F162 (N := N) h g1
    have k4 := h4 (k + 1)
    have e33 : nI (kK w (k + 1)) = 33 ↔ kK w (k + 1) = 33 := nI_eq (b := 33) (by omega) (by decide)
    have st : L_176 N (f + m + 1) (iA a) (nI d) (nI k) 0 σ = L_176 N (f + m) (iA (ust w (k + 1, d, a)).2.2) (nI (ust w (k + 1, d, a)).2.1) (nI (k + 1)) 0 σ := by
      conv => lhs; unfold L_176
      rw [if_pos rfl, nI_1, f162, ob_some]
      dsimp only
      rw [ust_d (k := k + 1) (d := d) (a := a) h4 (by omega) g3, ust_a (k := k + 1) (d := d) h4 (by omega)]
      congr 1
      by_cases c : kK w (k + 1) = 33
      · rw [if_pos (e33.mpr c)]
        have ed : (ust w (k + 1, d, a)).2.1 = d := by
          unfold ust
          dsimp only
          rw [if_neg (by omega), if_neg (by omega)]
        rw [ed]
        have e0 : nI d = 0 ↔ d = 0 := nI_eq (b := 0) (by omega) (by decide)
        by_cases c2 : d = 0
        · rw [if_pos (e0.mpr c2), if_neg (fun z => by have := (iA_eq (by omega) (by omega)).mp z; omega)]
        · rw [if_neg (fun z => c2 (e0.mp z))]
      · rw [if_neg (fun z => c (e33.mp z))]
    rw [← Nat.add_assoc, st]
    refine ih f (k + 1) _ _ k' d' a' ?_ (by omega) (by omega) (by omega)
    have e : ust w (k + 1, d, a) = (k + 1 + 1, (ust w (k + 1, d, a)).2.1, (ust w (k + 1, d, a)).2.2) := by rw [← u1]
    rw [← e]
    exact p
theorem F176 (h : W3 σ w) (h4 : K40 w) {fl m k k' : Nat} {z : Int32} (hN : 50000 < N) (hm : m < 40000) (p : Pt w 33 fl m (k + 1, 0, 0) (k', 0, 0)) (hk : kK w k' = 33) (hk' : k < k') : F_176 N (nI k) z σ = some (nI k', σ) := by
  obtain ⟨j, rfl⟩ : ∃ j, k' = j + 1 := ⟨k' - 1, by omega⟩
  unfold F_176
  have e : N = N - m - 2 + 1 + 1 + m := by omega
  have q := L176r (N := N) h h4 m (N - m - 2 + 1 + 1) k 0 0 j 0 0 p (by omega) (by omega) (by omega)
  rw [← e] at q
  have q : L_176 N N 0 0 (nI k) 0 σ = _ := q
  rw [q]
  have f162 := F162 (N := N) (k := j + 1) h (kK_lt (by omega))
  conv => lhs; unfold L_176
  rw [if_pos rfl, nI_1, f162, ob_some]
  dsimp only
  have e1 : (if nI 33 = 33 then (if (if nI 33 = 36 then (nI 0 + 1) else (if nI 33 = 37 then (nI 0 - 1) else nI 0) : Int32) = 0 then (if iA 0 = 0 then 1 else 0) else 0) else 0 : Int32) = 1 := by decide
  rw [hk, e1]
  unfold L_176
  rw [if_neg (show ¬ (1 : Int32) = 0 by decide)]
/-- the bracket that closes -/
theorem L207r (h : W3 σ w) (h4 : K40 w) {so : Nat} : ∀ (m f k d : Nat) (a : Int) (k' d' : Nat) (a' : Int), Pt w so 1 m (k, d, a) (k', d', a') → d + m < 50000 → L_207 N (f + m) (nI d) (nI k) σ = L_207 N f (nI d') (nI k') σ := by
  intro m
  induction m with
  | zero =>
    intro f k d a k' d' a' p _
    obtain ⟨p, -⟩ : (k, d, a) = (k', d', a') ∧ _ := p
    injection p with p1 p2
    injection p2 with p2 p3
    subst p1 p2 p3
    rfl
  | succ m ih =>
    intro f k d a k' d' a' p b1
    obtain ⟨⟨g, gf⟩, p⟩ := p
    obtain ⟨u1, u2, u3, u4⟩ := ust_b w k d a
    obtain ⟨g1, g2, g3⟩ := g
    have g1 : k < w.length := g1
    have gf : 1 ≤ d := gf
    have f162 := F162 (N := N) h g1
    have k4 := h4 k
    have e36 : nI (kK w k) = 36 ↔ kK w k = 36 := nI_eq (b := 36) (by omega) (by decide)
    have e37 : nI (kK w k) = 37 ↔ kK w k = 37 := nI_eq (b := 37) (by omega) (by decide)
    have pf : 1 ≤ (ust w (k, d, a)).2.1 := by
      cases m with
      | zero => exact p.2
      | succ m => exact p.1.2
    have e : ust w (k, d, a) = (k + 1, (ust w (k, d, a)).2.1, (ust w (k, d, a)).2.2) := by rw [← u1]
    have st : L_207 N (f + m + 1) (nI d) (nI k) σ = L_207 N (f + m) (nI (ust w (k, d, a)).2.1) (nI (k + 1)) σ := by
      conv => lhs; unfold L_207
      rw [f162, ob_some]
      dsimp only
      by_cases c : kK w k = 36
      · have ed : (ust w (k, d, a)).2.1 = d + 1 := by
          unfold ust
          dsimp only
          rw [if_pos c]
        rw [if_pos (e36.mpr c), nI_1, nI_1, if_pos (show (0 : Int32) < nI (d + 1) from (nI_lti (a := 0) (by decide) (by omega)).mpr (by omega)), ed]
      · rw [if_neg (fun z => c (e36.mp z)), f162, ob_some]
        dsimp only
        have ed : (if nI (kK w k) = 37 then (nI d - 1) else nI d : Int32) = nI (ust w (k, d, a)).2.1 := by
          have := ust_d (a := a) h4 (show d < 100000 by omega) g3
          rw [if_neg (fun z => c (e36.mp z))] at this
          exact this
        rw [ed, if_pos (show (0 : Int32) < nI (ust w (k, d, a)).2.1 from (nI_lti (a := 0) (by decide) (by omega)).mpr (by omega)), nI_1]
    rw [← Nat.add_assoc, st]
    exact ih f (k + 1) _ _ k' d' a' (by rw [← e]; exact p) (by omega)
theorem F207 (h : W3 σ w) (h4 : K40 w) {so m k k' : Nat} {a a' : Int} (hN : 50000 < N) (hm : m < 40000) (h36 : kK w k = 36) (p : Pt w so 1 m (k + 1, 1, a) (k', 1, a')) (h37 : kK w k' = 37) : F_207 N (nI k) σ = some (nI k', σ) := by
  unfold F_207
  have f0 := F162 (N := N) (k := k) h (kK_lt (by omega))
  have f1 := F162 (N := N) (k := k') h (kK_lt (by omega))
  have e : N = N - m - 2 + 1 + m + 1 := by omega
  have q := L207r (N := N) h h4 m (N - m - 2 + 1) (k + 1) 1 a k' 1 a' p (by omega)
  rw [e]
  conv => lhs; unfold L_207
  rw [← e, f0, h36, ob_some]
  dsimp only
  rw [if_pos (by decide), if_pos (by decide), nI_1]
  have e1 : ((0 : Int32) + 1) = nI 1 := by decide
  rw [e1, q]
  unfold L_207
  rw [f1, h37, ob_some]
  dsimp only
  rw [if_neg (by decide), f1, h37, ob_some]
  dsimp only
  have e2 : (if nI 37 = 37 then (nI 1 - 1) else nI 1 : Int32) = 0 := by decide
  rw [e2, if_neg (show ¬ (0 : Int32) < 0 by decide)]
  congr 2
  exact Int32.add_sub_cancel _ _
/-- where a begin stands -/
theorem L200r (h : W3 σ w) (h4 : K40 w) : ∀ (m f k e : Nat), (∀ j, k ≤ j → j < k + m → kK w j ≠ 9 ∧ kK w j ≠ 0) → k + m ≤ e → e < 50000 → L_200 N (f + m) (nI e) (nI k) σ = L_200 N f (nI e) (nI (k + m)) σ := by
  intro m
  induction m with
  | zero => intro f k e _ _ _; rfl
  | succ m ih =>
    intro f k e hw he he2
    obtain ⟨n9, n0⟩ := hw k (Nat.le_refl _) (by omega)
    have f0 := F162 (N := N) (k := k) h (kK_lt n0)
    have k4 := h4 k
    rw [← Nat.add_assoc]
    conv => lhs; unfold L_200
    rw [if_neg (fun z => by have := (nI_lei (by omega) (by omega)).mp z; omega), f0, ob_some]
    dsimp only
    rw [if_neg (show ¬ nI (kK w k) = 9 from nik (m := 9) (by omega) (by decide) n9), nI_1, ih f (k + 1) e (fun j a b => hw j (by omega) (by omega)) (by omega) he2, show k + 1 + m = k + (m + 1) by omega]
theorem F200 (h : W3 σ w) (h4 : K40 w) {m k e : Nat} (hN : 50000 < N) (hw : ∀ j, k ≤ j → j < k + m → kK w j ≠ 9 ∧ kK w j ≠ 0) (he : k + m ≤ e) (he2 : e < 40000) (hz : k + m = e ∨ kK w (k + m) = 9) : F_200 N (nI k) (nI e) σ = some (nI (k + m), σ) := by
  unfold F_200
  have en : N = N - m - 1 + 1 + m := by omega
  have q := L200r (N := N) h h4 m (N - m - 1 + 1) k e hw he (by omega)
  rw [← en] at q
  rw [q]
  unfold L_200
  by_cases c : e ≤ k + m
  · rw [if_pos ((nI_lei (by omega) (by omega)).mpr c)]
  · have z9 : kK w (k + m) = 9 := by omega
    have f0 := F162 (N := N) (k := k + m) h (kK_lt (by omega))
    rw [if_neg (fun z => c ((nI_lei (by omega) (by omega)).mp z)), f0, ob_some, z9]
    rfl
end RW3
