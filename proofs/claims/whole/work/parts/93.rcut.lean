/-! the reference's list of words -/
/-- one more number -/
theorem N133 {N o : Nat} {σ : st_S} {l : List Int32} {v : Int32} (hg : o + 1 ∈ gra) (h : Nu σ o (o + 1) l) (hb : gN σ (o + 1) ≤ 100000) (hq : gC σ + 188 < vz_M0) : ∃ σ', N_133 N o v σ = some σ' ∧ Nu σ' o (o + 1) (l ++ [v]) ∧ Fr 0 [(o, 1)] [] [] [o + 1] [] σ σ' ∧ gN σ' (o + 1) ≤ max (gN σ (o + 1)) (2 * l.length) ∧ gC σ' ≤ gC σ + 1 := by
  obtain ⟨h1, h2, h3, h4⟩ := h
  have hlen : (l ++ [v]).length = l.length + 1 := by rw [List.length_append]; rfl
  unfold N_133
  rw [h1]
  by_cases hlt : l.length < gN σ (o + 1)
  · rw [if_neg (fun q => absurd ((nI_eq (by omega) (by omega)).mp q) (by omega)), if_pos ⟨aB_nI hlt (by omega), by omega⟩, nI_clamp (by omega)]
    refine ⟨_, rfl, ⟨?_, ?_, h3, ?_⟩, Fr.t0 (Fr.e σ l.length v List.mem_cons_self) (Fr.i _ _ List.mem_cons_self), ?_, ?_⟩
    · rw [hlen]
      exact st_i_s _ o 1 _
    · rw [hlen]
      exact hlt
    · intro j hj
      show st_u (gE σ) (o + 1) l.length v (o + 1) j = (l ++ [v])[j]
      by_cases e : j = l.length
      · subst e
        rw [st_u_s, List.getElem_append_right (Nat.le_refl _)]
        simp
      · have hj2 : j < l.length := by omega
        rw [st_u_k _ _ _ _ e, List.getElem_append_left hj2]
        exact h4 j hj2
    · show gN σ (o + 1) ≤ _
      omega
    · show gC σ ≤ gC σ + 1
      omega
  · have hn : gN σ (o + 1) = l.length := by omega
    have h16 : 16 ≤ l.length := by omega
    rw [if_pos (by rw [hn]), if_pos ⟨by omega, by omega, hq⟩, hn]
    refine ⟨_, rfl, ⟨?_, ?_, ?_, ?_⟩, ?_, ?_, ?_⟩
    · rw [hlen]
      exact st_i_s _ o 1 _
    · rw [hlen]
      show l.length + 1 ≤ va_up (gN σ) (o + 1) (2 * l.length) (o + 1)
      rw [va_up_self]
      omega
    · show 16 ≤ va_up (gN σ) (o + 1) (2 * l.length) (o + 1)
      rw [va_up_self]
      omega
    · intro j hj
      show st_u (va_up (gE σ) (o + 1) (fun j => if j < l.length then gE σ (o + 1) j else 0)) (o + 1) l.length v (o + 1) j = (l ++ [v])[j]
      by_cases e : j = l.length
      · subst e
        rw [st_u_s, List.getElem_append_right (Nat.le_refl _)]
        simp
      · have hj2 : j < l.length := by omega
        rw [st_u_k _ _ _ _ e, va_up_self, if_pos hj2, List.getElem_append_left hj2]
        exact h4 j hj2
    · exact Fr.t0 (gw_fr hn h16 List.mem_cons_self hg) (Fr.t0 (Fr.e _ _ _ List.mem_cons_self) (Fr.i _ _ List.mem_cons_self))
    · show va_up (gN σ) (o + 1) (2 * l.length) (o + 1) ≤ _
      rw [va_up_self]
      omega
    · exact Nat.le_refl _
theorem N133' {N o b : Nat} {σ : st_S} {l : List Int32} {v : Int32} (hb' : b = o + 1) (hg : b ∈ gra) (h : Nu σ o b l) (hb : gN σ b ≤ 100000) (hq : gC σ + 188 < vz_M0) : ∃ σ', N_133 N o v σ = some σ' ∧ Nu σ' o b (l ++ [v]) ∧ Fr 0 [(o, 1)] [] [] [b] [] σ σ' ∧ gN σ' b ≤ max (gN σ b) (2 * l.length) ∧ gC σ' ≤ gC σ + 1 := by
  subst hb'
  exact N133 hg h hb hq
/-- the words from s on, s no blank: kind, begin, end; f: how many at most -/
def ws (l : List Int32) : Nat → Nat → List (Nat × Nat × Nat)
  | 0, s => [(0, s, s)]
  | f + 1, s => if l.length ≤ s then [(0, s, s)] else ((tk l s).1, s, (tk l s).2) :: (if (tk l s).1 = 39 then [] else ws l f (skp l (tk l s).2))
/-- the three lists of words hold these words -/
def W3 (σ : st_S) (w : List (Nat × Nat × Nat)) : Prop := Nu σ 71 72 (w.map fun q => nI q.1) ∧ Nu σ 73 74 (w.map fun q => nI q.2.1) ∧ Nu σ 75 76 (w.map fun q => nI q.2.2) ∧ gN σ 72 ≤ 40000 ∧ gN σ 74 ≤ 40000 ∧ gN σ 76 ≤ 40000
theorem map_sn {α β : Type} (f : α → β) (l : List α) (a : α) : (l ++ [a]).map f = l.map f ++ [f a] := by rw [List.map_append]; rfl
/-- the cells that the words change -/
abbrev Fw (σ σ' : st_S) : Prop := Fr 0 [(71, 1), (73, 1), (75, 1)] [] [] [72, 74, 76] [] σ σ'
theorem F146 {N : Nat} {σ : st_S} {w : List (Nat × Nat × Nat)} {a b c : Nat} (h : W3 σ w) (hl : w.length ≤ 20000) (hq : gC σ + 300 < vz_M0) : ∃ σ', F_146 N (nI a) (nI b) (nI c) σ = some σ' ∧ W3 σ' (w ++ [(a, b, c)]) ∧ Fw σ σ' ∧ gC σ' ≤ gC σ + 3 := by
  obtain ⟨h1, h2, h3, n1, n2, n3⟩ := h
  have lm : ∀ f : Nat × Nat × Nat → Int32, (w.map f).length = w.length := fun f => List.length_map f
  obtain ⟨σ1, e1, k1, r1, m1, c1⟩ := N133' (N := N) (o := 71) (b := 72) (v := nI a) rfl (by decide) h1 (by omega) (by omega)
  have h2' : Nu σ1 73 74 (w.map fun q => nI q.2.1) := h2.fr (r1.1 73 1 (by decide)) (r1.2.2.2.1 74 (by decide)).1 (r1.2.2.2.1 74 (by decide)).2
  have h3' : Nu σ1 75 76 (w.map fun q => nI q.2.2) := h3.fr (r1.1 75 1 (by decide)) (r1.2.2.2.1 76 (by decide)).1 (r1.2.2.2.1 76 (by decide)).2
  have g1 : gN σ1 74 = gN σ 74 := (r1.2.2.2.1 74 (by decide)).1
  have g2 : gN σ1 76 = gN σ 76 := (r1.2.2.2.1 76 (by decide)).1
  obtain ⟨σ2, e2, k2, r2, m2, c2⟩ := N133' (N := N) (o := 73) (b := 74) (v := nI b) rfl (by decide) h2' (by omega) (by omega)
  have h1'' : Nu σ2 71 72 (w.map (fun q => nI q.1) ++ [nI a]) := k1.fr (r2.1 71 1 (by decide)) (r2.2.2.2.1 72 (by decide)).1 (r2.2.2.2.1 72 (by decide)).2
  have h3'' : Nu σ2 75 76 (w.map fun q => nI q.2.2) := h3'.fr (r2.1 75 1 (by decide)) (r2.2.2.2.1 76 (by decide)).1 (r2.2.2.2.1 76 (by decide)).2
  have g3 : gN σ2 76 = gN σ1 76 := (r2.2.2.2.1 76 (by decide)).1
  have g4 : gN σ2 72 = gN σ1 72 := (r2.2.2.2.1 72 (by decide)).1
  obtain ⟨σ3, e3, k3, r3, m3, c3⟩ := N133' (N := N) (o := 75) (b := 76) (v := nI c) rfl (by decide) h3'' (by omega) (by omega)
  have h1''' := h1''.fr (r3.1 71 1 (by decide)) (r3.2.2.2.1 72 (by decide)).1 (r3.2.2.2.1 72 (by decide)).2
  have h2''' := k2.fr (r3.1 73 1 (by decide)) (r3.2.2.2.1 74 (by decide)).1 (r3.2.2.2.1 74 (by decide)).2
  have g5 : gN σ3 72 = gN σ2 72 := (r3.2.2.2.1 72 (by decide)).1
  have g6 : gN σ3 74 = gN σ2 74 := (r3.2.2.2.1 74 (by decide)).1
  rw [lm] at m1 m2 m3
  refine ⟨σ3, ?_, ⟨?_, ?_, ?_, by omega, by omega, by omega⟩, ?_, by omega⟩
  · unfold F_146
    rw [e1, ob_some, e2, ob_some, e3, ob_some]
  · rw [map_sn]
    exact h1'''
  · rw [map_sn]
    exact h2'''
  · rw [map_sn]
    exact k3
  · exact Fr.t0 (r1.mo (by decide) (by decide) (by decide) (by decide) (by decide)) (Fr.t0 (r2.mo (by decide) (by decide) (by decide) (by decide) (by decide)) (r3.mo (by decide) (by decide) (by decide) (by decide) (by decide)))
/-- the tape of the reference isn't touched -/
theorem Rd.fw {σ σ' : st_S} {x : Nat} {l : List Int32} (hx : x = 67 ∨ x = 69) (h : Rd σ x l) (r : Fw σ σ') : Rd σ' x l := by
  obtain ⟨h1, h2, h3, h4, h5⟩ := h
  have e1 : gI σ' x 1 = gI σ x 1 := by rcases hx with rfl | rfl <;> exact r.1 _ _ (by decide)
  have e2 : gN σ' (x + 1) = gN σ (x + 1) ∧ gE σ' (x + 1) = gE σ (x + 1) := by rcases hx with rfl | rfl <;> exact r.2.2.2.1 _ (by decide)
  exact ⟨e1.trans h1, by rw [e2.1]; exact h2, by rw [e2.1]; exact h3, h4, fun j q => by rw [e2.2]; exact h5 j q⟩
theorem isNm_0 : isNm 0 = false := by decide
theorem isDi_0 : isDi 0 = false := by decide
/-- how many fresh cells a run may have made: by the arrays that may have grown -/
theorem sum_up {f g : Nat → Nat} {C : Nat} (h : ∀ a, g a ≤ f a + C) : ∀ l : List Nat, (l.map g).sum ≤ (l.map f).sum + l.length * C := by
  intro l
  induction l with
  | nil => exact Nat.zero_le _
  | cons a r ih =>
    rw [List.map_cons, List.map_cons, List.sum_cons, List.sum_cons, List.length_cons, Nat.add_mul]
    have := h a
    omega
theorem Fr.gc {I J R : List (Nat × Nat)} {A L : List Nat} {σ σ' : st_S} (h : Fr 0 I J R A L σ σ') {C : Nat} (hC : ∀ a ∈ A, gN σ' a ≤ C) : 16 * gC σ' ≤ 16 * gC σ + 59 * C := by
  obtain ⟨a1, a2, a3, a4, a5, a6, p1, p2, p3⟩ := h
  have e : Ph σ' ≤ Ph σ + gra.length * C := sum_up (f := gN σ) (g := gN σ') (fun a => by
    by_cases q : a ∈ A
    · have := hC a q
      omega
    · rw [(a4 a q).1]
      omega) gra
  have e2 : gra.length = 59 := rfl
  rw [e2] at e
  generalize Ph σ' = P' at *
  generalize Ph σ = P at *
  omega
theorem rn_stop {p : Int32 → Bool} (hp : p 0 = false) {l : List Int32} : ∀ f i, l.length ≤ i + f → p (ch l (rn p l f i)) = false := by
  intro f
  induction f with
  | zero => intro i h; rw [show rn p l 0 i = i from rfl, ch_ge (by omega)]; exact hp
  | succ f ih =>
    intro i h
    unfold rn
    by_cases c : p (ch l i) = true
    · rw [if_pos c]
      exact ih (i + 1) (by omega)
    · rw [if_neg c]
      simpa using c
section RC
variable {N x : Nat} {σ : st_S} {l : List Int32}
theorem rcn_step (h : Rd σ x l) {s i k : Nat} (hi : i ≤ 40000) (c : isNm (ch l i) = true) : L_136 N x (k + 1) 60 (nI s) 0 (nI i) σ = L_136 N x k 60 (nI s) 0 (nI (i + 1)) σ := by
  have hf := F138 (N := N) h (i := i) (by omega)
  rw [L_136, if_neg (by decide), if_pos rfl, hf, ob_some]
  dsimp only
  rw [F141, ob_some]
  dsimp only
  by_cases c1 : isLe (ch l i) = true
  · rw [if_neg (by rw [c1]; decide), nI_1]
  · have c1 : isLe (ch l i) = false := by simpa using c1
    rw [if_pos (by rw [c1]; rfl), hf, ob_some]
    dsimp only
    rw [F142, ob_some]
    dsimp only
    by_cases c2 : isDi (ch l i) = true
    · rw [if_neg (by rw [c2]; decide), nI_1]
    · have c2 : isDi (ch l i) = false := by simpa using c2
      have c3 : ch l i = 95 := by
        unfold isNm at c
        rw [c1, c2] at c
        exact of_decide_eq_true c
      rw [if_pos (by rw [c2]; rfl), hf, ob_some]
      dsimp only
      rw [if_pos c3, nI_1]
theorem rcn_loop (h : Rd σ x l) {s : Nat} : ∀ f i k, i + f = l.length → f ≤ k → ∃ k', k' + (rn isNm l f i - i) = k ∧ L_136 N x k 60 (nI s) 0 (nI i) σ = L_136 N x k' 60 (nI s) 0 (nI (rn isNm l f i)) σ := by
  have h4 := h.2.2.2.1
  intro f
  induction f with
  | zero => intro i k hi hk; exact ⟨k, by show k + (i - i) = k; omega, rfl⟩
  | succ f ih =>
    intro i k hi hk
    obtain ⟨k, rfl⟩ : ∃ k', k = k' + 1 := ⟨k - 1, by omega⟩
    have e : rn isNm l (f + 1) i = if isNm (ch l i) then rn isNm l f (i + 1) else i := rfl
    by_cases c : isNm (ch l i) = true
    · obtain ⟨k', h1, h2⟩ := ih (i + 1) k (by omega) (by omega)
      have hr := (rn_le isNm l f (i + 1)).1
      exact ⟨k', by rw [e, if_pos c]; omega, by rw [rcn_step h (by omega) c, h2, e, if_pos c]⟩
    · exact ⟨k + 1, by rw [e, if_neg c]; omega, by rw [e, if_neg c]⟩
theorem rcd_step (h : Rd σ x l) {s i k : Nat} (hi : i ≤ 40000) (c : isDi (ch l i) = true) : L_136 N x (k + 1) 133 (nI s) 0 (nI i) σ = L_136 N x k 133 (nI s) 0 (nI (i + 1)) σ := by
  rw [L_136, if_neg (by decide), if_neg (by decide), F138 (N := N) h (i := i) (by omega), ob_some]
  dsimp only
  rw [F142, ob_some]
  dsimp only
  rw [if_neg (by rw [c]; decide), nI_1]
theorem rcd_loop (h : Rd σ x l) {s : Nat} : ∀ f i k, i + f = l.length → f ≤ k → ∃ k', k' + (rn isDi l f i - i) = k ∧ L_136 N x k 133 (nI s) 0 (nI i) σ = L_136 N x k' 133 (nI s) 0 (nI (rn isDi l f i)) σ := by
  have h4 := h.2.2.2.1
  intro f
  induction f with
  | zero => intro i k hi hk; exact ⟨k, by show k + (i - i) = k; omega, rfl⟩
  | succ f ih =>
    intro i k hi hk
    obtain ⟨k, rfl⟩ : ∃ k', k = k' + 1 := ⟨k - 1, by omega⟩
    have e : rn isDi l (f + 1) i = if isDi (ch l i) then rn isDi l f (i + 1) else i := rfl
    by_cases c : isDi (ch l i) = true
    · obtain ⟨k', h1, h2⟩ := ih (i + 1) k (by omega) (by omega)
      have hr := (rn_le isDi l f (i + 1)).1
      exact ⟨k', by rw [e, if_pos c]; omega, by rw [rcd_step h (by omega) c, h2, e, if_pos c]⟩
    · exact ⟨k + 1, by rw [e, if_neg c]; omega, by rw [e, if_neg c]⟩
end RC
theorem ch_nz {l : List Int32} {i : Nat} (h : ¬ ch l i = 0) : i < l.length := by
  rcases Nat.lt_or_ge i l.length with q | q
  · exact q
  · exact absurd (ch_ge q) h
/-- a word has an end behind its beginning, and within the tape -/
theorem tk_in {l : List Int32} {s : Nat} (h : s < l.length) : s < (tk l s).2 ∧ (tk l s).2 ≤ l.length := by
  unfold tk
  rw [if_neg (by omega)]
  have grow : ∀ p : Int32 → Bool, p (ch l s) = true → s < rn p l (l.length - s) s ∧ rn p l (l.length - s) s ≤ l.length := by
    intro p hp
    obtain ⟨f, hf⟩ : ∃ f, l.length - s = f + 1 := ⟨l.length - s - 1, by omega⟩
    rw [hf]
    unfold rn
    rw [if_pos hp]
    have := rn_le p l f (s + 1)
    omega
  by_cases c1 : isLe (ch l s) = true
  · rw [if_pos c1]
    exact grow isNm (by unfold isNm; rw [c1]; rfl)
  · rw [if_neg c1]
    by_cases c2 : isDi (ch l s) = true
    · rw [if_pos c2]
      exact grow isDi c2
    · rw [if_neg c2]
      dsimp only
      unfold sz
      split
      · next q =>
        have : s + 1 < l.length := by
          refine ch_nz fun e => ?_
          rw [e] at q
          exact sg_two _ q
        omega
      · omega
theorem nI_39 {k : Nat} (hk : k < 2 ^ 31) : nI k = 39 ↔ k = 39 := nI_eq (b := 39) hk (by decide)
theorem wk_lt (l : List Int32) (s n : Nat) : wk l s n < 16 ∧ 1 ≤ wk l s n := ⟨(wk_ge l s n).2.2, (wk_ge l s n).2.1⟩
theorem sg_lt (c d : Int32) : sg c d < 40 := (sg_ge c d).2
/-- one word -/
theorem rc_word {N x : Nat} (hx : x = 67 ∨ x = 69) {σ : st_S} {l : List Int32} {w : List (Nat × Nat × Nat)} (h : Rd σ x l) (hw : W3 σ w) (hN : 100000 < N) {s k : Nat} (hs : s < l.length) (hl : w.length ≤ 20000) (hq : gC σ + 300 < vz_M0) (hk : l.length - s + 2 ≤ k) : ∃ σ' k', L_136 N x k 32 (nI s) 1 0 σ = L_136 N x k' 32 (nI (skp l (tk l s).2)) (if (tk l s).1 = 39 then 0 else 1) 0 σ' ∧ k ≤ k' + ((tk l s).2 - s) + 2 ∧ W3 σ' (w ++ [((tk l s).1, s, (tk l s).2)]) ∧ Fw σ σ' := by
  have h4 := h.2.2.2.1
  obtain ⟨t1, t2⟩ := tk_in hs
  obtain ⟨k, rfl⟩ : ∃ k', k = k' + 1 := ⟨k - 1, by omega⟩
  have hf := F138 (N := N) h (i := s) (by omega)
  have ng : ¬ nI l.length ≤ nI s := fun q => absurd ((nI_lei (by omega) (by omega)).mp q) (by omega)
  have e0 : L_136 N x (k + 1) 32 (nI s) 1 0 σ = if isLe (ch l s) = true then L_136 N x k 60 (nI s) 0 (nI s) σ else if isDi (ch l s) = true then L_136 N x k 133 (nI s) 0 (nI s) σ else
      (F_145 N x (nI s) σ).bind fun p_10 =>
              (F_146 N p_10.1 (nI s) (nI s + (if (if p_10.1 < 16 then 0 else (if 20 < p_10.1 then 0 else 1) : Int32) = 0 then 1 else 2 : Int32)) (p_10.2)).bind fun p_14 =>
              (F_137 N x (nI s + (if (if p_10.1 < 16 then 0 else (if 20 < p_10.1 then 0 else 1) : Int32) = 0 then 1 else 2 : Int32)) (p_14)).bind fun p_16 =>
              L_136 N x k 32 p_16.1 (if p_10.1 = 39 then 0 else 1 : Int32) 0 (p_16.2) := by
    rw [L_136, if_pos rfl, if_neg (by decide), h.1, if_neg ng, hf, ob_some]
    dsimp only
    rw [F141, ob_some]
    dsimp only
    by_cases c1 : isLe (ch l s) = true
    · rw [if_neg (by rw [c1]; decide), if_pos c1]
    · have c1' : isLe (ch l s) = false := by simpa using c1
      rw [if_pos (by rw [c1']; rfl), if_neg c1, hf, ob_some]
      dsimp only
      rw [F142, ob_some]
      dsimp only
      by_cases c2 : isDi (ch l s) = true
      · rw [if_neg (by rw [c2]; decide), if_pos c2]
      · have c2' : isDi (ch l s) = false := by simpa using c2
        rw [if_pos (by rw [c2']; rfl), if_neg c2]
  have fin : ∀ a b : Nat, b ≤ l.length → ∃ σ', F_146 N (nI a) (nI s) (nI b) σ = some σ' ∧ F_137 N x (nI b) σ' = some (nI (skp l b), σ') ∧ W3 σ' (w ++ [(a, s, b)]) ∧ Fw σ σ' := by
    intro a b hb
    obtain ⟨σ', f1, f2, f3, f4⟩ := F146 (N := N) (a := a) (b := s) (c := b) hw hl hq
    exact ⟨σ', f1, F137 (h.fw hx f3) (by omega) hb, f2, f3⟩
  rw [e0]
  unfold tk at t1 t2 ⊢
  rw [if_neg (show ¬ l.length ≤ s by omega)] at t1 t2 ⊢
  by_cases c1 : isLe (ch l s) = true
  · rw [if_pos c1] at t1 t2 ⊢
    rw [if_pos c1]
    dsimp only at t1 t2 ⊢
    obtain ⟨k', k1, k2⟩ := rcn_loop (N := N) h (s := s) (l.length - s) s k (by omega) (by omega)
    have hst := rn_stop isNm_0 (l := l) (l.length - s) s (by omega)
    rw [k2]
    generalize rn isNm l (l.length - s) s = e at t1 t2 hst k1
    have hfe := F138 (N := N) h (i := e) (by omega)
    obtain ⟨k', rfl⟩ : ∃ k'', k' = k'' + 1 := ⟨k' - 1, by omega⟩
    unfold isNm at hst
    obtain ⟨hs1, hs3⟩ := Bool.or_eq_false_iff.mp hst
    obtain ⟨hs1, hs2⟩ := Bool.or_eq_false_iff.mp hs1
    rw [L_136, if_neg (by decide), if_pos rfl, hfe, ob_some]
    dsimp only
    rw [F141, ob_some]
    dsimp only
    rw [if_pos (by rw [hs1]; rfl), hfe, ob_some]
    dsimp only
    rw [F142, ob_some]
    dsimp only
    rw [if_pos (by rw [hs2]; rfl), hfe, ob_some]
    dsimp only
    rw [if_neg (of_decide_eq_false hs3), nI_sub (by omega)]
    by_cases c40 : e - s ≤ 40
    · rw [if_pos ((le40 (by omega)).mpr c40), if_pos c40, F143 h (by omega) (by omega) (by omega), ob_some]
      dsimp only
      obtain ⟨σ', f1, f2, f3, f4⟩ := fin (wk l s (e - s)) e t2
      rw [f1, ob_some, f2, ob_some]
      dsimp only
      have hlt := wk_lt l s (e - s)
      refine ⟨σ', k', ?_, by omega, f3, f4⟩
      rw [if_neg (fun q => absurd ((nI_39 (by omega)).mp q) (by omega)), if_neg (by omega)]
    · rw [if_neg (fun q => c40 ((le40 (by omega)).mp q)), if_neg c40]
      obtain ⟨σ', f1, f2, f3, f4⟩ := fin 39 e t2
      have f1 : F_146 N 39 (nI s) (nI e) σ = some σ' := f1
      rw [f1, ob_some, f2, ob_some]
      dsimp only
      exact ⟨σ', k', by rw [if_pos rfl], by omega, f3, f4⟩
  · rw [if_neg c1] at t1 t2 ⊢
    rw [if_neg c1]
    by_cases c2 : isDi (ch l s) = true
    · rw [if_pos c2] at t1 t2 ⊢
      rw [if_pos c2]
      dsimp only at t1 t2 ⊢
      obtain ⟨k', k1, k2⟩ := rcd_loop (N := N) h (s := s) (l.length - s) s k (by omega) (by omega)
      have hst := rn_stop isDi_0 (l := l) (l.length - s) s (by omega)
      rw [k2]
      generalize rn isDi l (l.length - s) s = e at t1 t2 hst k1
      obtain ⟨k', rfl⟩ : ∃ k'', k' = k'' + 1 := ⟨k' - 1, by omega⟩
      rw [L_136, if_neg (by decide), if_neg (by decide), F138 (N := N) h (i := e) (by omega), ob_some]
      dsimp only
      rw [F142, ob_some]
      dsimp only
      rw [if_pos (by rw [hst]; rfl), nI_sub (by omega)]
      obtain ⟨σ', f1, f2, f3, f4⟩ := fin (if e - s ≤ 9 then 2 else 39) e t2
      have e9 : (if nI (e - s) ≤ 9 then 2 else 39 : Int32) = nI (if e - s ≤ 9 then 2 else 39) := by
        by_cases c9 : e - s ≤ 9
        · rw [if_pos ((le9 (by omega)).mpr c9), if_pos c9]
          rfl
        · rw [if_neg (fun q => c9 ((le9 (by omega)).mp q)), if_neg c9]
          rfl
      rw [e9, f1, ob_some, f2, ob_some]
      dsimp only
      refine ⟨σ', k', ?_, by omega, f3, f4⟩
      by_cases c9 : e - s ≤ 9
      · rw [if_pos c9, if_neg (by decide), if_neg (by decide)]
      · rw [if_neg c9, if_pos (by decide), if_pos rfl]
    · rw [if_neg c2] at t1 t2 ⊢
      rw [if_neg c2]
      dsimp only at t1 t2 ⊢
      have hlt := sg_lt (ch l s) (ch l (s + 1))
      rw [F145 h (by omega), ob_some]
      dsimp only
      generalize sg (ch l s) (ch l (s + 1)) = g at t1 t2 hlt
      have ez : (if (if nI g < 16 then 0 else (if 20 < nI g then 0 else 1) : Int32) = 0 then 1 else 2 : Int32) = nI (sz g) := by
        have all : ∀ g, g < 40 → (if (if nI g < 16 then 0 else (if 20 < nI g then 0 else 1) : Int32) = 0 then 1 else 2 : Int32) = nI (sz g) := by decide
        exact all g hlt
      obtain ⟨σ', f1, f2, f3, f4⟩ := fin g (s + sz g) t2
      rw [ez, nI_add, f1, ob_some, f2, ob_some]
      dsimp only
      refine ⟨σ', k, ?_, by omega, f3, f4⟩
      by_cases c39 : g = 39
      · rw [if_pos ((nI_39 (by omega)).mpr c39), if_pos c39]
      · rw [if_neg (fun q => c39 ((nI_39 (by omega)).mp q)), if_neg c39]
theorem Fw.tr {σ σ' σ'' : st_S} (a : Fw σ σ') (b : Fw σ' σ'') : Fw σ σ'' := Fr.t0 a b
theorem W3.gc {σ σ' : st_S} {w : List (Nat × Nat × Nat)} (r : Fw σ σ') (h : W3 σ' w) : gC σ' ≤ gC σ + 147500 := by
  have := r.gc (C := 40000) (fun a ha => by
    obtain ⟨_, _, _, n1, n2, n3⟩ := h
    rcases List.mem_cons.mp ha with e | ha
    · rw [e]; exact n1
    rcases List.mem_cons.mp ha with e | ha
    · rw [e]; exact n2
    rcases List.mem_cons.mp ha with e | ha
    · rw [e]; exact n3
    · cases ha)
  omega
theorem sk_same {l : List Int32} : ∀ (f : Nat) (m : Bool) (i : Nat), i ≤ sk l f m i := sk_le l
/-- all words -/
theorem rc_loop {N x : Nat} (hx : x = 67 ∨ x = 69) {l : List Int32} (hN : 100000 < N) {σ0 : st_S} (hq : gC σ0 + 200000 < vz_M0) : ∀ f s σ w k, s ≤ l.length → l.length ≤ s + f → Rd σ x l → W3 σ w → Fw σ0 σ → w.length + (l.length - s) ≤ 17000 → 3 * (l.length - s) + 3 ≤ k → ∃ σ', L_136 N x k 32 (nI s) 1 0 σ = some σ' ∧ W3 σ' (w ++ ws l f s) ∧ Fw σ0 σ' := by
  have over : ∀ s σ w k, s = l.length → Rd σ x l → W3 σ w → Fw σ0 σ → w.length ≤ 17000 → 3 ≤ k → ∃ σ', L_136 N x k 32 (nI s) 1 0 σ = some σ' ∧ W3 σ' (w ++ [(0, s, s)]) ∧ Fw σ0 σ' := by
    intro s σ w k hs h hw hf hl hk
    have h4 := h.2.2.2.1
    have hgc := hw.gc hf
    obtain ⟨k, rfl⟩ : ∃ k', k = k' + 1 := ⟨k - 1, by omega⟩
    obtain ⟨σ', f1, f2, f3, f4⟩ := F146 (N := N) (a := 0) (b := s) (c := s) hw (by omega) (by omega)
    refine ⟨σ', ?_, f2, hf.tr f3⟩
    rw [L_136, if_pos rfl, if_neg (by decide), h.1, if_pos ((nI_lei (by omega) (by omega)).mpr (by omega))]
    unfold J_136_240
    have f1 : F_146 N 0 (nI s) (nI s) σ = some σ' := f1
    rw [if_neg (by decide), h.1, ← hs, f1, ob_some]
  intro f
  induction f with
  | zero =>
    intro s σ w k hs hf h hw hfr hl hk
    exact over s σ w k (by omega) h hw hfr (by omega) (by omega)
  | succ f ih =>
    intro s σ w k hs hf h hw hfr hl hk
    have h4 := h.2.2.2.1
    by_cases hlt : s < l.length
    · have hgc := hw.gc hfr
      obtain ⟨t1, t2⟩ := tk_in hlt
      obtain ⟨σ1, k', e1, k1, w1, r1⟩ := rc_word hx h hw hN hlt (by omega) (by omega) (k := k) (by omega)
      have h1 := h.fw hx r1
      have hsk1 := sk_le l l.length false (tk l s).2
      have hsk2 := sk_top l l.length false (tk l s).2 t2
      have hsk1 : (tk l s).2 ≤ skp l (tk l s).2 := hsk1
      have hsk2 : skp l (tk l s).2 ≤ l.length := hsk2
      have eu : ws l (f + 1) s = if l.length ≤ s then [(0, s, s)] else ((tk l s).1, s, (tk l s).2) :: (if (tk l s).1 = 39 then [] else ws l f (skp l (tk l s).2)) := rfl
      rw [e1, eu, if_neg (show ¬ l.length ≤ s by omega)]
      by_cases c : (tk l s).1 = 39
      · rw [if_pos c, if_pos c]
        obtain ⟨k', rfl⟩ : ∃ k'', k' = k'' + 1 := ⟨k' - 1, by omega⟩
        refine ⟨σ1, ?_, w1, hfr.tr r1⟩
        rw [L_136, if_pos rfl, if_pos rfl]
        unfold J_136_240
        rw [if_pos rfl]
      · rw [if_neg c, if_neg c]
        obtain ⟨σ', a1, a2, a3⟩ := ih (skp l (tk l s).2) σ1 (w ++ [((tk l s).1, s, (tk l s).2)]) k' hsk2 (by omega) h1 w1 (hfr.tr r1) (by rw [List.length_append]; show w.length + 1 + _ ≤ _; omega) (by omega)
        refine ⟨σ', a1, ?_, a3⟩
        rw [List.append_assoc] at a2
        exact a2
    · have eu : ws l (f + 1) s = [(0, s, s)] := if_pos (by omega)
      rw [eu]
      exact over s σ w k (by omega) h hw hfr (by omega) (by omega)
/-- the words of a tape -/
def wds (l : List Int32) : List (Nat × Nat × Nat) := ws l l.length (skp l 0)
theorem F136 {N x : Nat} (hx : x = 67 ∨ x = 69) {l : List Int32} {σ : st_S} (hN : 100000 < N) (h : Rd σ x l) (hw : gN σ 72 ≤ 40000 ∧ 16 ≤ gN σ 72 ∧ gN σ 74 ≤ 40000 ∧ 16 ≤ gN σ 74 ∧ gN σ 76 ≤ 40000 ∧ 16 ≤ gN σ 76) (hq : gC σ + 200000 < vz_M0) : ∃ σ', F_136 N x σ = some σ' ∧ W3 σ' (wds l) ∧ Fw σ σ' := by
  have h4 := h.2.2.2.1
  have r0 : Fw σ (st_i (st_i (st_i σ 71 1 0) 73 1 0) 75 1 0) := Fr.t0 (Fr.i _ _ (by decide)) (Fr.t0 (Fr.i _ _ (by decide)) (Fr.i _ _ (by decide)))
  have h1 := h.fw hx r0
  have w0 : W3 (st_i (st_i (st_i σ 71 1 0) 73 1 0) 75 1 0) [] := ⟨⟨rfl, Nat.zero_le _, hw.2.1, fun j q => absurd q (Nat.not_lt_zero j)⟩, ⟨rfl, Nat.zero_le _, hw.2.2.2.1, fun j q => absurd q (Nat.not_lt_zero j)⟩, ⟨rfl, Nat.zero_le _, hw.2.2.2.2.2, fun j q => absurd q (Nat.not_lt_zero j)⟩, hw.1, hw.2.2.1, hw.2.2.2.2.1⟩
  unfold F_136
  have e0 : F_137 N x 0 (st_i (st_i (st_i σ 71 1 0) 73 1 0) 75 1 0) = some (nI (skp l 0), st_i (st_i (st_i σ 71 1 0) 73 1 0) 75 1 0) := F137 (i := 0) h1 (by omega) (Nat.zero_le _)
  rw [e0, ob_some]
  dsimp only
  have hs : skp l 0 ≤ l.length := sk_top l _ _ _ (Nat.zero_le _)
  obtain ⟨σ', a1, a2, a3⟩ := rc_loop hx hN hq l.length (skp l 0) _ [] N hs (by omega) h1 w0 r0 (by show 0 + _ ≤ _; omega) (by omega)
  exact ⟨σ', a1, a2, a3⟩
