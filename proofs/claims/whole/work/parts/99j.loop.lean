/-! the class reads all words -/
theorem okC_cst {k : Nat} {c c' : Cs} (hk : k < 40) (h0 : k ≠ 0) (h : okC c = true) (e : cst k c = some c') : okC c' = true := by
  obtain ⟨o, -, z⟩ := sim hk h0 h
  rw [e] at z
  cases o with
  | none => cases z
  | some p =>
    obtain ⟨S, v⟩ := p
    obtain ⟨c'', e1, e2, -⟩ := rel_s z
    cases e1
    exact e2
section LP
variable {N t : Nat} {σ0 σ : st_S} {X : Xs} {c : Cs} {i : Nat}
/-- a word is taken in the loop -/
theorem tk_ok (ht : t = 4 ∨ t = 20) (hN : 20000 < N) (hq : gC σ0 + 200000 < vz_M0) (hx : SX σ0 σ0 t X) (h : RX X c i) (ho : okC c = true) (hi : i ≤ 16384) (hσ : F_17 N σ = some σ0) (hK : ¬ gI σ0 2 3 = 264) : ∃ r σ', Oc σ0 σ' t (xtake (gI σ0 2 3) (gI σ0 2 4) (gI σ0 2 5) (gI σ0 2 6) X) r ∧ ∀ k, L_16 N t (k + 1) (nI i) σ = if r = 0 then some (0, σ') else L_16 N t k (nI i + 1) σ' := by
  obtain ⟨p, W, n, M⟩ := X
  obtain ⟨w, r, v, s, b⟩ := c
  obtain ⟨h1, h2, h3, h4⟩ := h
  have h1 : p 8 = nI w := h1
  have h2 : 13 ≤ w → p 9 = nI r ∧ p 12 = nI v ∧ WS W s n ∧ (r = 6 → ∃ j, j < n ∧ p 15 = nI j) ∧ 2 * n + csts s + (if w = 15 then 1 else 0) ≤ 3 * i := h2
  have h3 : w < 13 → 2 * n ≤ 3 * i := h3
  have h4 : w ≠ 0 → ∃ j, j < n ∧ p 14 = nI j ∧ (w = 1 → (M j 0 = 29 ↔ b = true)) := h4
  have p8 : gI σ0 36 8 = nI w := (hx.p (k := 8)).trans h1
  have hi' : ¬ 16384 < nI i := fun q => by
    have := (nI_lti (a := 16384) (b := i) (by decide) (by omega)).mp q
    omega
  have hn : n < 24577 := by
    by_cases q : 13 ≤ w
    · have := (h2 q).2.2.2.2; omega
    · have := h3 (by omega); omega
  have hw16 : w < 16 := by
    by_cases q : 13 ≤ w
    · have := (okC_w ho q).2.2.2.2.2.2; omega
    · omega
  have l16 : ∀ k, L_16 N t (k + 1) (nI i) σ = if gI σ0 36 8 = 15 then ((F_26 N t σ0).bind fun p_6 => if p_6.1 = 0 then some (0, p_6.2) else L_16 N t k (nI i + 1) (p_6.2))
      else if gI σ0 36 8 = 14 then ((F_45 N t σ0).bind fun p_6 => if p_6.1 = 0 then some (0, p_6.2) else L_16 N t k (nI i + 1) (p_6.2))
      else if gI σ0 36 8 = 0 then ((F_47 N t σ0).bind fun p_6 => if p_6.1 = 0 then some (0, p_6.2) else L_16 N t k (nI i + 1) (p_6.2))
      else if 5 < gI σ0 36 8 then ((F_50 N t σ0).bind fun p_6 => if p_6.1 = 0 then some (0, p_6.2) else L_16 N t k (nI i + 1) (p_6.2))
      else ((F_49 N t σ0).bind fun p_6 => if p_6.1 = 0 then some (0, p_6.2) else L_16 N t k (nI i + 1) (p_6.2)) := by
    intro k
    conv => lhs; unfold L_16
    rw [if_neg hi', hσ, ob_some, if_neg hK]
  have fin : ∀ {F : Option (Int32 × st_S)} {o : Option Xs}, Hx F σ0 t o → ∃ r σ', Oc σ0 σ' t o r ∧ ∀ G : st_S → Option (Int32 × st_S), (F.bind fun p_6 => if p_6.1 = 0 then some (0, p_6.2) else G p_6.2) = if r = 0 then some (0, σ') else G σ' := by
    intro F o hh
    obtain ⟨r, σ', e, q⟩ := hh
    exact ⟨r, σ', q, fun G => by rw [e, ob_some]⟩
  by_cases c15 : w = 15
  · subst c15
    obtain ⟨q1, q2, q3, q4, q5⟩ := h2 (by decide)
    obtain ⟨o1, o2, o3, o4, o5, o6, o7⟩ := okC_w ho (by decide)
    have hv : VX 20 (p, W, n, M) := ⟨by show n + W.length + 20 < 25000; rw [q3.len]; omega, q3.2.2⟩
    have hb : p 9 = 6 → ∃ j, j < n ∧ p 15 = nI j := fun z => q4 ((nI_eq (b := 6) (by omega) (by decide)).mp (q1.symm.trans z))
    obtain ⟨r', σ', a1, a2⟩ := fin (F26' (N := N) (by decide) ht (by omega) hq hx hv hb)
    have e : xtake (gI σ0 2 3) (gI σ0 2 4) (gI σ0 2 5) (gI σ0 2 6) (p, W, n, M) = xopr (gI σ0 2 3) (gI σ0 2 4) (p, W, n, M) := if_pos h1
    refine ⟨r', σ', by rw [e]; exact a1, fun k => ?_⟩
    rw [l16, p8, if_pos (c := nI 15 = 15) rfl]
    exact a2 _
  by_cases c14 : w = 14
  · subst c14
    obtain ⟨r', σ', a1, a2⟩ := fin (F45' (N := N) ht hq hx (by show n < 25000; omega))
    have e : xtake (gI σ0 2 3) (gI σ0 2 4) (gI σ0 2 5) (gI σ0 2 6) (p, W, n, M) = xopd (gI σ0 2 3) (gI σ0 2 4) (gI σ0 2 5) (gI σ0 2 6) (p, W, n, M) := by
      show (if p 8 = 15 then _ else if p 8 = 14 then _ else _) = _
      rw [h1]
      rfl
    refine ⟨r', σ', by rw [e]; exact a1, fun k => ?_⟩
    rw [l16, p8, if_neg (by decide), if_pos (c := nI 14 = 14) rfl]
    exact a2 _
  have n15 : ¬ nI w = 15 := nik (m := 15) (by omega) (by decide) c15
  have n14 : ¬ nI w = 14 := nik (m := 14) (by omega) (by decide) c14
  by_cases w0 : w = 0
  · subst w0
    obtain ⟨r', σ', a1, a2⟩ := fin (F47' (N := N) ht hq hx (by show n < 25000; omega))
    have e : xtake (gI σ0 2 3) (gI σ0 2 4) (gI σ0 2 5) (gI σ0 2 6) (p, W, n, M) = xitem (gI σ0 2 3) (gI σ0 2 4) (p, W, n, M) := by
      show (if p 8 = 15 then _ else if p 8 = 14 then _ else if p 8 = 0 then _ else _) = _
      rw [h1]
      rfl
    refine ⟨r', σ', by rw [e]; exact a1, fun k => ?_⟩
    rw [l16, p8, if_neg n15, if_neg n14, if_pos (c := nI 0 = 0) rfl]
    exact a2 _
  have n0 : ¬ nI w = 0 := nik (m := 0) (by omega) (by decide) w0
  have q5 : 5 < nI w ↔ 5 < w := nI_lti (a := 5) (by decide) (by omega)
  by_cases w5 : 5 < w
  · obtain ⟨r', σ', a1, a2⟩ := fin (F50' (N := N) ht hq hx (by show n < 25000; omega))
    have e : xtake (gI σ0 2 3) (gI σ0 2 4) (gI σ0 2 5) (gI σ0 2 6) (p, W, n, M) = xbra (gI σ0 2 3) (gI σ0 2 4) (gI σ0 2 5) (p, W, n, M) := by
      rw [xt_lo h1 (by omega) w0, if_pos w5]
    refine ⟨r', σ', by rw [e]; exact a1, fun k => ?_⟩
    rw [l16, p8, if_neg n15, if_neg n14, if_neg n0, if_pos (q5.mpr w5)]
    exact a2 _
  · obtain ⟨j, j1, j2, -⟩ := h4 w0
    obtain ⟨r', σ', a1, a2⟩ := fin (F49' (N := N) ht hq hx (by show n < 25000; omega) ⟨j, j1, j2⟩)
    have e : xtake (gI σ0 2 3) (gI σ0 2 4) (gI σ0 2 5) (gI σ0 2 6) (p, W, n, M) = xdef (gI σ0 2 3) (gI σ0 2 4) (gI σ0 2 5) (gI σ0 2 6) (p, W, n, M) := by
      rw [xt_lo h1 (by omega) w0, if_neg w5]
    refine ⟨r', σ', by rw [e]; exact a1, fun k => ?_⟩
    rw [l16, p8, if_neg n15, if_neg n14, if_neg n0, if_neg (fun z => w5 (q5.mp z))]
    exact a2 _
end LP
/-! size and value matter for names and numbers alone -/
theorem xopd_w {K st sz vl sz' vl' : Int32} {X : Xs} (h1 : K = 261 → sz = sz') (h2 : K = 262 → vl = vl') : xopd K st sz vl X = xopd K st sz' vl' X := by
  have e : ∀ Y : Xs, xopd0 K st sz vl Y = xopd0 K st sz' vl' Y := by
    intro Y
    unfold xopd0
    by_cases c1 : K = 261
    · rw [h1 c1]
      have : ¬ K = 262 := fun z => by rw [c1] at z; exact absurd z (by decide)
      rw [if_neg this, if_neg this]
    · rw [if_neg c1, if_neg c1]
      by_cases c2 : K = 262
      · rw [h2 c2]
      · rw [if_neg c2, if_neg c2]
  unfold xopd
  rw [e, e]
theorem xtake_w {K st sz vl sz' vl' : Int32} {X : Xs} (h1 : K = 261 → sz = sz') (h2 : K = 262 → vl = vl') : xtake K st sz vl X = xtake K st sz' vl' X := by
  unfold xtake
  rw [xopd_w h1 h2]
  have e1 : xbra K st sz X = xbra K st sz' X := by
    unfold xbra
    by_cases c1 : K = 261
    · rw [h1 c1]
    · rw [if_neg c1, if_neg c1]
  have e2 : xdef K st sz vl X = xdef K st sz' vl' X := by
    unfold xdef
    rw [xopd_w h1 h2]
    by_cases c1 : K = 261
    · rw [h1 c1]
    · rw [if_neg c1, if_neg c1]
  rw [e1, e2]
/-- a word is taken, purely -/
def xw1 (l : List Int32) (q : Nat × Nat × Nat) (X : Xs) : Option Xs := xtake (nI (κ q.1)) (nI q.2.1) (nI (q.2.2 - q.2.1)) (nv l (l.length - q.2.1) q.2.1 0) X
def xrun (l : List Int32) : List (Nat × Nat × Nat) → Xs → Option Xs
  | [], X => some X
  | q :: t, X => if q.1 = 0 then some X else (xw1 l q X).bind (xrun l t)
/-- what the reading may change -/
abbrev FL (t : Nat) (σ σ' : st_S) : Prop := Fr 0 [(2, 2), (2, 3), (2, 4), (2, 5), (2, 6), (36, 6), (36, 8), (36, 9), (36, 10), (36, 11), (36, 12), (36, 13), (36, 14), (36, 15), (36, 16), (t + 1, 8)] [] [] [37, 38, 39, 40, 41, t + 2, t + 3, t + 4, t + 5, t + 6, t + 7, t + 8, t + 9] [] σ σ'
theorem FP.fl {t : Nat} {σ σ' : st_S} (h : FP t σ σ') : FL t σ σ' := h.mo (by intro a q; simp only [List.mem_cons, List.not_mem_nil, or_false] at q ⊢; simp only [q, or_true]) (by simp) (by simp) (by simp) (by simp)
/-- the parser's state stands in the store -/
def SJ (σ : st_S) (t : Nat) (X : Xs) : Prop := ∃ L, L ≤ 50000 ∧ SI σ t L X
theorem SJ.gc {σs σ : st_S} {t : Nat} {X : Xs} (h : SJ σ t X) (f : FL t σs σ) : gC σ ≤ gC σs + 184375 := by
  obtain ⟨L, hL, h⟩ := h
  obtain ⟨h1, h2, h3, h4, h5, h6, h7⟩ := h
  have := f.gc (C := 50000) (fun a ha => by
    have w := fun c hc => h4 c hc
    have v := fun c hc => h6.2.2.2.2 c hc
    have w0 := w 0 (by decide)
    have w1 := w 1 (by decide)
    have w2 := w 2 (by decide)
    have w3 := w 3 (by decide)
    have w4 := w 4 (by decide)
    have v0 := v 0 (by decide)
    have v1 := v 1 (by decide)
    have v2 := v 2 (by decide)
    have v3 := v 3 (by decide)
    have v4 := v 4 (by decide)
    have v5 := v 5 (by decide)
    have v6 := v 6 (by decide)
    have v7 := v 7 (by decide)
    simp only [List.mem_cons, List.not_mem_nil, or_false] at ha
    rcases ha with rfl | rfl | rfl | rfl | rfl | rfl | rfl | rfl | rfl | rfl | rfl | rfl | rfl
    · exact Nat.le_trans (Nat.le_of_eq w0) (by decide)
    · exact Nat.le_trans (Nat.le_of_eq w1) (by decide)
    · exact Nat.le_trans (Nat.le_of_eq w2) (by decide)
    · exact Nat.le_trans (Nat.le_of_eq w3) (by decide)
    · exact Nat.le_trans (Nat.le_of_eq w4) (by decide)
    · exact Nat.le_trans (Nat.le_of_eq v0) hL
    · exact Nat.le_trans (Nat.le_of_eq v1) hL
    · exact Nat.le_trans (Nat.le_of_eq v2) hL
    · exact Nat.le_trans (Nat.le_of_eq v3) hL
    · exact Nat.le_trans (Nat.le_of_eq v4) hL
    · exact Nat.le_trans (Nat.le_of_eq v5) hL
    · exact Nat.le_trans (Nat.le_of_eq v6) hL
    · exact Nat.le_trans (Nat.le_of_eq v7) hL)
  omega
theorem SJ.wr {σ σ' : st_S} {t : Nat} {X : Xs} {l : List Int32} {s k e : Nat} (ht : t = 4 ∨ t = 20) (h : SJ σ t X) (w : Wr σ σ' l s k e) : SJ σ' t X := by
  obtain ⟨L, hL, h1, h2, h3, h4, h5, h6, h7⟩ := h
  obtain ⟨w1, w2, -⟩ := w
  have eN : gN σ' = gN σ := by show σ'.2.2.2.1 = σ.2.2.2.1; rw [w1]
  have eE : gE σ' = gE σ := by show σ'.2.2.2.2.1 = σ.2.2.2.2.1; rw [w1]
  refine ⟨L, hL, fun k a b => (w2 36 k (Or.inl (by decide))).trans (h1 k a b), (w2 36 6 (Or.inl (by decide))).trans h2, h3, fun c hc => by rw [eN]; exact h4 c hc, h5.fr fun c hc i _ => by rw [eE], ⟨(w2 (t + 1) 8 (Or.inl (by omega))).trans h6.1, h6.2.1, h6.2.2.1, h6.2.2.2.1, fun c hc => by rw [eN]; exact h6.2.2.2.2 c hc⟩, fun c hc i hi => by rw [eE]; exact h7 c hc i hi⟩
theorem Wr.fl {σ σ' : st_S} {t : Nat} {l : List Int32} {s k e : Nat} (w : Wr σ σ' l s k e) : FL t σ σ' := by
  obtain ⟨w1, w2, -⟩ := w
  have e2 : ∀ a j, (a, j) ∉ [(2, 2), (2, 3), (2, 4), (2, 5), (2, 6), (36, 6), (36, 8), (36, 9), (36, 10), (36, 11), (36, 12), (36, 13), (36, 14), (36, 15), (36, 16), (t + 1, 8)] → gI σ' a j = gI σ a j := by
    intro a j q
    by_cases c : a = 2
    · subst c
      by_cases d : j ≤ 1
      · exact w2 2 j (Or.inr (Or.inl d))
      · by_cases d7 : 7 ≤ j
        · exact w2 2 j (Or.inr (Or.inr d7))
        · have : j = 2 ∨ j = 3 ∨ j = 4 ∨ j = 5 ∨ j = 6 := by omega
          rcases this with rfl | rfl | rfl | rfl | rfl <;> exact absurd (by simp) q
    · exact w2 a j (Or.inl c)
  refine ⟨e2, fun a k _ => ?_, fun a k _ => ?_, fun a _ => ⟨?_, ?_⟩, fun a _ => ?_, ?_, Po.of ?_ ?_ ?_ ?_⟩
  · show σ'.2.1 a k = σ.2.1 a k; rw [w1]
  · show σ'.2.2.1 a k = σ.2.2.1 a k; rw [w1]
  · show σ'.2.2.2.1 a = σ.2.2.2.1 a; rw [w1]
  · show σ'.2.2.2.2.1 a = σ.2.2.2.2.1 a; rw [w1]
  · show σ'.2.2.2.2.2.1 a = σ.2.2.2.2.2.1 a; rw [w1]
  · show σ'.2.2.2.2.2.2.2.1 0 = σ.2.2.2.2.2.2.2.1 0; rw [w1]
  · show σ'.2.2.2.1 = σ.2.2.2.1; rw [w1]
  · show σ'.2.2.2.2.2.2.2.2.2 = σ.2.2.2.2.2.2.2.2.2; rw [w1]
  · show σ'.2.2.2.2.2.2.2.2.1 = σ.2.2.2.2.2.2.2.2.1; rw [w1]
  · show σ'.2.2.2.2.2.2.1 = σ.2.2.2.2.2.2.1; rw [w1]

theorem Wd.wr {σ σ' : st_S} {l : List Int32} {s k e : Nat} (h : Wd σ l) (w : Wr σ σ' l s k e) : Wd σ' l := by
  obtain ⟨h1, h2, h3, h4, h5⟩ := h
  obtain ⟨w1, w2, -⟩ := w
  have eN : gN σ' = gN σ := by show σ'.2.2.2.1 = σ.2.2.2.1; rw [w1]
  have eE : gE σ' = gE σ := by show σ'.2.2.2.2.1 = σ.2.2.2.2.1; rw [w1]
  exact ⟨(w2 2 1 (Or.inr (Or.inl (by decide)))).trans h1, by rw [eN]; exact h2, by rw [eN]; exact h3, h4, fun j q => by rw [eE]; exact h5 j q⟩
theorem Wd.fp {σ σ' : st_S} {t : Nat} {l : List Int32} (ht : t = 4 ∨ t = 20) (h : Wd σ l) (f : FP t σ σ') : Wd σ' l := by
  obtain ⟨h1, h2, h3, h4, h5⟩ := h
  have q : 3 ∉ [37, 38, 39, 40, 41, t + 2, t + 3, t + 4, t + 5, t + 6, t + 7, t + 8, t + 9] := by
    intro h
    simp only [List.mem_cons, List.not_mem_nil, or_false] at h
    omega
  obtain ⟨e1, e2⟩ := f.2.2.2.1 3 q
  exact ⟨(f.1 2 1 (by simp only [List.mem_cons, List.not_mem_nil, or_false, Prod.mk.injEq]; omega)).trans h1, by rw [e1]; exact h2, by rw [e1]; exact h3, h4, fun j q => by rw [e2]; exact h5 j q⟩
theorem tk_fin (l : List Int32) (s : Nat) : (tk l s).1 = 0 ↔ l.length ≤ s := by
  unfold tk
  constructor
  · intro h
    by_cases c : l.length ≤ s
    · exact c
    · rw [if_neg c] at h
      have w := wk_ge l s (rn isNm l (l.length - s) s - s)
      have g := sg_ge (ch l s) (ch l (s + 1))
      revert h
      repeat' split
      all_goals intro h
      all_goals (have h : _ = 0 := h; omega)
  · intro h
    rw [if_pos h]
theorem κ_264 : ∀ k, k < 40 → (nI (κ k) = 264 ↔ k = 0) := by decide
/-- what the reading came to -/
def Rc (l : List Int32) (t : Nat) (w : List (Nat × Nat × Nat)) (X : Xs) (i : Nat) (o : Option Nat) (r : Int32) (σ' : st_S) : Prop := match o with
  | none => r = 1 ∧ ∃ X', xrun l w X = some X' ∧ SJ σ' t X'
  | some e => r = 0 ∧ i ≤ e ∧ (∃ q, w[e - i]? = some q ∧ gI σ' 2 4 = nI q.2.1) ∧ ∃ X', SJ σ' t X'
theorem l16 {N t : Nat} {l : List Int32} {σs : st_S} (ht : t = 4 ∨ t = 20) (hN : 20000 < N) (ho : Ok l) (hl : l.length ≤ 16384) (hq : gC σs + 400000 < vz_M0) : ∀ (f a i : Nat) (c : Cs) (X : Xs) (σ : st_S) (k : Nat), l.length ≤ skp l a + f → a ≤ l.length → gI σ 2 2 = nI a → Wd σ l → FL t σs σ → SJ σ t X → RX X c i → okC c = true → i + (l.length - skp l a) ≤ 16384 → l.length - skp l a + 1 ≤ k → ∃ σ' r, L_16 N t k (nI i) σ = some (r, σ') ∧ FL t σs σ' ∧ Wd σ' l ∧ Rc l t (ws l f (skp l a)) X i (crd ((ws l f (skp l a)).map fun q => q.1) c i) r σ' := by
  have over : ∀ (a i : Nat) (c : Cs) (X : Xs) (σ : st_S) (k : Nat), l.length ≤ skp l a → a ≤ l.length → gI σ 2 2 = nI a → Wd σ l → FL t σs σ → SJ σ t X → RX X c i → okC c = true → i ≤ 16384 → 1 ≤ k → ∃ σ' r, L_16 N t k (nI i) σ = some (r, σ') ∧ FL t σs σ' ∧ Wd σ' l ∧ Rc l t [(0, skp l a, skp l a)] X i (crd ([(0, skp l a, skp l a)].map fun q => q.1) c i) r σ' := by
    intro a i c X σ k hge ha h2 hw hfr hs hx hc hi hk
    obtain ⟨k, rfl⟩ : ∃ k', k = k' + 1 := ⟨k - 1, by omega⟩
    obtain ⟨σ1, e1, w1⟩ := F17 (N := N) hw ho h2 ha hN
    have k0 : (tk l (skp l a)).1 = 0 := (tk_fin l _).mpr hge
    rw [k0] at w1
    have s1 := hs.wr ht w1
    have hi' : ¬ 16384 < nI i := fun q => by
      have := (nI_lti (a := 16384) (b := i) (by decide) (by omega)).mp q
      omega
    have K0 : gI σ1 2 3 = 264 := w1.2.2.2.1
    have w16 : c.1 < 16 := by
      obtain ⟨w, r, v, s, b⟩ := c
      by_cases q : 13 ≤ w
      · have := (okC_w hc q).2.2.2.2.2.2; show w < 16; omega
      · show w < 16; omega
    have p8 : gI σ1 36 8 = nI c.1 := by
      obtain ⟨L, hL, hS⟩ := s1
      exact (hS.1 8 (by decide) (by decide)).trans hx.1
    have hL : L_16 N t (k + 1) (nI i) σ = some ((if gI σ1 36 8 = 0 then 1 else 0 : Int32), σ1) := by
      unfold L_16
      rw [if_neg hi', e1, ob_some, if_pos K0]
    have ec : crd ([(0, skp l a, skp l a)].map fun q => q.1) c i = if c.1 = 0 then none else some i := rfl
    refine ⟨σ1, _, hL, Fr.t0 hfr w1.fl, hw.wr w1, ?_⟩
    rw [ec, p8]
    by_cases d : c.1 = 0
    · rw [if_pos d, if_pos (by rw [d]; rfl)]
      exact ⟨rfl, X, rfl, s1⟩
    · rw [if_neg d, if_neg (c := nI c.1 = 0) (nik (m := 0) (by omega) (by decide) d)]
      refine ⟨rfl, Nat.le_refl i, ⟨(0, skp l a, skp l a), ?_, w1.2.2.2.2.1⟩, X, s1⟩
      rw [Nat.sub_self]
      rfl
  intro f
  induction f with
  | zero =>
    intro a i c X σ k hf ha h2 hw hfr hs hx hc hi hk
    exact over a i c X σ k (by omega) ha h2 hw hfr hs hx hc (by omega) (by omega)
  | succ f ih =>
    intro a i c X σ k hf ha h2 hw hfr hs hx hc hi hk
    by_cases hge : l.length ≤ skp l a
    · have eu : ws l (f + 1) (skp l a) = [(0, skp l a, skp l a)] := if_pos hge
      rw [eu]
      exact over a i c X σ k hge ha h2 hw hfr hs hx hc (by omega) (by omega)
    have hlt : skp l a < l.length := by omega
    obtain ⟨k, rfl⟩ : ∃ k', k = k' + 1 := ⟨k - 1, by omega⟩
    obtain ⟨σ1, e1, w1⟩ := F17 (N := N) hw ho h2 ha hN
    obtain ⟨t1, t2⟩ := tk_in hlt
    have k40 := tk_lt l (skp l a)
    have k0 : (tk l (skp l a)).1 ≠ 0 := fun z => by have := (tk_fin l _).mp z; omega
    generalize hS : skp l a = s at *
    have eu : ws l (f + 1) s = ((tk l s).1, s, (tk l s).2) :: (if (tk l s).1 = 39 then [] else ws l f (skp l (tk l s).2)) := if_neg hge
    generalize hT : tk l s = ke at *
    obtain ⟨k1, e⟩ := ke
    dsimp only at *
    have s1 := hs.wr ht w1
    have f1 : FL t σs σ1 := Fr.t0 hfr w1.fl
    have hg := s1.gc f1
    have hx1 : SX σ1 σ1 t X := ⟨Fr.rf σ1, s1⟩
    have K0 : gI σ1 2 3 = nI (κ k1) := w1.2.2.2.1
    have S0 : gI σ1 2 4 = nI s := w1.2.2.2.2.1
    obtain ⟨r, σ', z1, z2⟩ := tk_ok (N := N) ht hN (by omega) hx1 hx hc (by omega) e1 (by rw [K0]; exact fun z => k0 ((κ_264 k1 k40).mp z))
    have ex : xtake (gI σ1 2 3) (gI σ1 2 4) (gI σ1 2 5) (gI σ1 2 6) X = xw1 l (k1, s, e) X := by
      unfold xw1
      rw [K0, S0]
      refine xtake_w (fun z => w1.2.2.2.2.2.1 ((kqq k1 k40 (m := 1) (by decide)).mp z)) (fun z => w1.2.2.2.2.2.2 ((kqq k1 k40 (m := 2) (by decide)).mp z))
    rw [ex] at z1
    have bo : Bo (xw1 l (k1, s, e) X) (cst k1 c) (i + 1) := st_all k40 hx hc (by omega)
    have ec : ∀ T : List (Nat × Nat × Nat), crd (((k1, s, e) :: T).map fun q => q.1) c i = match cst k1 c with
      | none => some i
      | some c' => crd (T.map fun q => q.1) c' (i + 1) := fun T => if_neg k0
    rw [eu, ec, z2]
    cases hcs : cst k1 c with
    | none =>
      rw [hcs] at bo
      have hn : xw1 l (k1, s, e) X = none := by
        cases hh : xw1 l (k1, s, e) X with
        | none => rfl
        | some Y => rw [hh] at bo; exact bo.elim
      rw [hn] at z1
      obtain ⟨y1, Y, y2⟩ := z1
      rw [if_pos y1]
      refine ⟨σ', 0, rfl, Fr.t0 f1 (FP.fl y2.1), (hw.wr w1).fp ht y2.1, rfl, Nat.le_refl i, ⟨(k1, s, e), ?_, (y2.w ht 4).trans S0⟩, Y, y2.2⟩
      rw [Nat.sub_self]
      rfl
    | some c' =>
      rw [hcs] at bo
      cases hh : xw1 l (k1, s, e) X with
      | none => rw [hh] at bo; exact bo.elim
      | some Y =>
        rw [hh] at bo z1
        have bo : RX Y c' (i + 1) := bo
        obtain ⟨y1, y2⟩ := z1
        have n39 : ¬ k1 = 39 := fun z => by rw [z, cst_39] at hcs; cases hcs
        have hsk1 : e ≤ skp l e := sk_le l l.length false e
        have hc' := okC_cst k40 k0 hc hcs
        rw [if_neg (by rw [y1]; decide), if_neg n39, nI_1]
        obtain ⟨σ2, r2, x1, x2, x3, x4⟩ := ih e (i + 1) c' Y σ' k (by omega) t2 ((y2.w ht 2).trans w1.2.2.1) ((hw.wr w1).fp ht y2.1) (Fr.t0 f1 (FP.fl y2.1)) y2.2 bo hc' (by omega) (by omega)
        refine ⟨σ2, r2, x1, x2, x3, ?_⟩
        dsimp only
        cases hcr : crd ((ws l f (skp l e)).map fun q => q.1) c' (i + 1) with
        | none =>
          rw [hcr] at x4
          obtain ⟨v1, X', v2, v3⟩ := x4
          refine ⟨v1, X', ?_, v3⟩
          show (if k1 = 0 then some X else (xw1 l (k1, s, e) X).bind (xrun l (ws l f (skp l e)))) = some X'
          rw [if_neg k0, hh]
          exact v2
        | some j =>
          rw [hcr] at x4
          obtain ⟨v1, v2, ⟨q, v3, v4⟩, v5⟩ := x4
          refine ⟨v1, by omega, ⟨q, ?_, v4⟩, v5⟩
          obtain ⟨m, rfl⟩ : ∃ m, j = i + 1 + m := ⟨j - (i + 1), by omega⟩
          rw [show i + 1 + m - i = m + 1 by omega]
          rw [show i + 1 + m - (i + 1) = m by omega] at v3
          exact v3
/-- the parser's state at the beginning -/
theorem F16 {N t : Nat} {l : List Int32} {σ : st_S} {X : Xs} (ht : t = 4 ∨ t = 20) (hN : 20000 < N) (ho : Ok l) (hq : gC σ + 400000 < vz_M0) (hw : Wd σ l) (hs : SJ σ t X) : ∃ σ' r, F_16 N t σ = some (r, σ') ∧ Wd σ' l ∧ (∃ p, Rc l t (wds l) (up p 8 0, X.2.1, 0, X.2.2.2) 0 (crd (kds l) c0 0) r σ') ∧ FL t (st_r σ 36 7 (t + 1)) σ' := by
  have hl := hw.2.2.2.1
  obtain ⟨L, hL, h1, h2, h3, h4, h5, h6, h7⟩ := hs
  have hsk := sk_le l l.length false 0
  have fr : FL t (st_r σ 36 7 (t + 1)) (st_i (st_i (st_i (st_r σ 36 7 (t + 1)) (t + 1) 8 0) 2 2 0) 36 8 0) := Fr.t0 (Fr.i _ _ (by simp)) (Fr.t0 (Fr.i _ _ (by simp)) (Fr.i _ _ (by simp)))
  have hs' : SJ (st_i (st_i (st_i (st_r σ 36 7 (t + 1)) (t + 1) 8 0) 2 2 0) 36 8 0) t (up X.1 8 0, X.2.1, 0, X.2.2.2) := by
    refine ⟨L, hL, fun k a b => ?_, ?_, h3, h4, Wa.fr (σ := σ) (fun _ _ _ _ => rfl) h5, ⟨?_, Nat.zero_le _, h6.2.2.1, h6.2.2.2.1, h6.2.2.2.2⟩, fun c hc i hi => absurd hi (Nat.not_lt_zero i)⟩
    · rw [gI_i]
      show _ = if k = 8 then 0 else X.1 k
      by_cases c : k = 8
      · rw [if_pos ⟨rfl, c⟩, if_pos c]
      · rw [if_neg (fun q => c q.2), if_neg c, gI_i, if_neg (by omega), gI_i, if_neg (by omega)]
        exact h1 k a b
    · rw [gI_i, if_neg (by omega), gI_i, if_neg (by omega), gI_i, if_neg (by omega)]
      exact h2
    · rw [gI_i, if_neg (by omega), gI_i, if_neg (by omega), gI_i, if_pos ⟨rfl, rfl⟩]
      rfl
  have hw' : Wd (st_i (st_i (st_i (st_r σ 36 7 (t + 1)) (t + 1) 8 0) 2 2 0) 36 8 0) l := by
    obtain ⟨a1, a2, a3, a4, a5⟩ := hw
    refine ⟨?_, a2, a3, a4, a5⟩
    rw [gI_i, if_neg (by omega), gI_i, if_neg (by omega), gI_i, if_neg (by omega)]
    exact a1
  obtain ⟨σ', r, x1, x2, x3, x4⟩ := l16 (N := N) (σs := st_r σ 36 7 (t + 1)) ht hN ho hl hq l.length 0 0 c0 (up X.1 8 0, X.2.1, 0, X.2.2.2) _ N (by omega) (Nat.zero_le _) rfl hw' fr hs' ⟨rfl, fun q => absurd q (by decide), fun _ => Nat.le_refl _, fun q => absurd rfl q⟩ rfl (by omega) (by omega)
  exact ⟨σ', r, x1, x3, ⟨X.1, x4⟩, x2⟩
