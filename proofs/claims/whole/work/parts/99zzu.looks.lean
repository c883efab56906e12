/-! the reference: what is to be looked at -/
/-- pairs, the last on top -/
def g2 : List (Nat × Nat) → List Int32
  | [] => []
  | (a, d) :: R => nI a :: nI d :: g2 R
theorem g2_app : ∀ R S : List (Nat × Nat), g2 (R ++ S) = g2 R ++ g2 S := by
  intro R
  induction R with
  | nil => intro S; rfl
  | cons x R ih =>
    obtain ⟨a, d⟩ := x
    intro S
    show nI a :: nI d :: g2 (R ++ S) = nI a :: nI d :: (g2 R ++ g2 S)
    rw [ih]
theorem g2_len : ∀ R : List (Nat × Nat), (g2 R).length = 2 * R.length := by
  intro R
  induction R with
  | nil => rfl
  | cons x R ih =>
    obtain ⟨a, d⟩ := x
    show (nI a :: nI d :: g2 R).length = 2 * (R.length + 1)
    rw [List.length_cons, List.length_cons, ih]
    omega
theorem g2_at : ∀ (R : List (Nat × Nat)) (i : Nat), i < R.length → (g2 R).getD (2 * i) 0 = nI (R.getD i (0, 0)).1 ∧ (g2 R).getD (2 * i + 1) 0 = nI (R.getD i (0, 0)).2 := by
  intro R
  induction R with
  | nil => intro i h; exact absurd h (Nat.not_lt_zero i)
  | cons x R ih =>
    obtain ⟨a, d⟩ := x
    intro i h
    cases i with
    | zero => exact ⟨rfl, rfl⟩
    | succ i =>
      rw [List.length_cons] at h
      obtain ⟨h1, h2⟩ := ih i (by omega)
      have e : ∀ k, (g2 ((a, d) :: R)).getD (k + 2) 0 = (g2 R).getD k 0 := fun k => rfl
      rw [show 2 * (i + 1) = 2 * i + 2 by omega, show 2 * i + 2 + 1 = 2 * i + 1 + 2 by omega, e, e]
      exact ⟨h1, h2⟩
theorem sk_nf {σ : st_S} {o : Nat} {L : List Int32} (h : Sk σ o L) : Nfw σ o L.length (fun k => L.getD k 0) := by
  obtain ⟨⟨a1, a2, a3, a4⟩, a5⟩ := h
  refine ⟨a1, a2, a3, a5, fun i hi => ?_⟩
  show gE σ (o + 1) i = L.getD i 0
  rw [a4 i hi, List.getD_eq_getElem?_getD, List.getElem?_eq_getElem hi]
  rfl
theorem nf_sk {σ : st_S} {o n b : Nat} {f : Nat → Int32} {L : List Int32} (h : Nfb b σ o n f) (hl : L.length = n) (hf : ∀ k, k < n → f k = L.getD k 0) (hb : b ≤ 100000 := by decide) : Sk σ o L := by
  obtain ⟨a1, a2, a3, a4, a5⟩ := h
  refine ⟨⟨by rw [hl]; exact a1, by rw [hl]; exact a2, a3, fun j hj => ?_⟩, Nat.le_trans a4 hb⟩
  rw [a5 j (by omega), hf j (by omega), List.getD_eq_getElem?_getD, List.getElem?_eq_getElem hj]
  rfl
/-- kids to look at -/
def kd0 (cs : List Nat) : List (Nat × Nat) := cs.map fun c => (c, 0)
section TU
variable {N : Nat} {σ : st_S}
theorem L184 {b m n : Nat} {f c : Nat → Int32} (hn : n = 2 * (b + m)) (hn2 : n ≤ 60000) (hc : ∀ j, j < m → f (2 * (b + j)) = c j) : ∀ (k i : Nat) (F : Nat → Int32) (σ : st_S) (fu : Nat), m - 2 * i ≤ k → k < fu → 1 ≤ m → i ≤ m → Nfw σ 161 n F → (∀ j, j < m → F (2 * (b + j)) = if j < i ∨ m ≤ j + i then c (m - 1 - j) else c j) → (∀ q, q < n → (q < 2 * b ∨ q % 2 = 1) → F q = f q) → ∃ σ', L_184 N fu (nI (2 * (b + i))) (nI (2 * (b + m) - 2 - 2 * i)) σ = some σ' ∧ Fr 0 [] [] [] [162] [] σ σ' ∧ ∃ F', Nfw σ' 161 n F' ∧ (∀ j, j < m → F' (2 * (b + j)) = c (m - 1 - j)) ∧ (∀ q, q < n → (q < 2 * b ∨ q % 2 = 1) → F' q = f q) := by
  have done : ∀ (i : Nat) (F : Nat → Int32) (σ : st_S) (fu : Nat), 0 < fu → 1 ≤ m → m ≤ 2 * i + 1 → i ≤ m → Nfw σ 161 n F → (∀ j, j < m → F (2 * (b + j)) = if j < i ∨ m ≤ j + i then c (m - 1 - j) else c j) → (∀ q, q < n → (q < 2 * b ∨ q % 2 = 1) → F q = f q) → ∃ σ', L_184 N fu (nI (2 * (b + i))) (nI (2 * (b + m) - 2 - 2 * i)) σ = some σ' ∧ Fr 0 [] [] [] [162] [] σ σ' ∧ ∃ F', Nfw σ' 161 n F' ∧ (∀ j, j < m → F' (2 * (b + j)) = c (m - 1 - j)) ∧ (∀ q, q < n → (q < 2 * b ∨ q % 2 = 1) → F' q = f q) := by
    intro i F σ fu hfu hm h1 h1' hF hF1 hF2
    obtain ⟨fu, rfl⟩ : ∃ k', fu = k' + 1 := ⟨fu - 1, by omega⟩
    refine ⟨σ, ?_, Fr.rf σ, F, hF, fun j hj => ?_, hF2⟩
    · unfold L_184
      rw [if_pos ((nI_lei (by omega) (by omega)).mpr (by omega))]
    · rw [hF1 j hj]
      by_cases z : j < i ∨ m ≤ j + i
      · rw [if_pos z]
      · rw [if_neg z, show m - 1 - j = j by omega]
  intro k
  induction k with
  | zero => intro i F σ fu h1 h2 hm hi hF hF1 hF2; exact done i F σ fu (by omega) hm (by omega) hi hF hF1 hF2
  | succ k ih =>
    intro i F σ fu h1 h2 hm hi hF hF1 hF2
    by_cases cd : m ≤ 2 * i + 1
    · exact done i F σ fu (by omega) hm cd hi hF hF1 hF2
    obtain ⟨fu, rfl⟩ : ∃ k', fu = k' + 1 := ⟨fu - 1, by omega⟩
    have lo : 2 * (b + i) < n := by omega
    have hi' : 2 * (b + m) - 2 - 2 * i < n := by omega
    have a1 : N_139 N 161 (nI (2 * (b + i))) σ = some (F (2 * (b + i)), σ) := nf_at hF lo
    have a2 : N_139 N 161 (nI (2 * (b + m) - 2 - 2 * i)) σ = some (F (2 * (b + m) - 2 - 2 * i), σ) := nf_at hF hi'
    obtain ⟨s1, s2, s3⟩ := nf_set (v := F (2 * (b + m) - 2 - 2 * i)) hF lo
    obtain ⟨t1, t2, t3⟩ := nf_set (v := F (2 * (b + i))) s3 hi'
    have e1 : nI (2 * (b + i)) + 2 = nI (2 * (b + (i + 1))) := by
      have := nI_add (2 * (b + i)) 2
      rw [show 2 * (b + (i + 1)) = 2 * (b + i) + 2 by omega]
      exact this
    have e2 : nI (2 * (b + m) - 2 - 2 * i) - 2 = nI (2 * (b + m) - 2 - 2 * (i + 1)) := by
      have := nI_sub (a := 2 * (b + m) - 2 - 2 * i) (b := 2) (by omega)
      rw [show 2 * (b + m) - 2 - 2 * (i + 1) = 2 * (b + m) - 2 - 2 * i - 2 by omega]
      exact this
    obtain ⟨σ', q1, q2, q3⟩ := ih (i + 1) _ _ fu (by omega) (by omega) hm (by omega) t3 (fun j hj => by
      show (if 2 * (b + j) = 2 * (b + m) - 2 - 2 * i then F (2 * (b + i)) else (if 2 * (b + j) = 2 * (b + i) then F (2 * (b + m) - 2 - 2 * i) else F (2 * (b + j)))) = _
      by_cases y1 : j = m - 1 - i
      · rw [if_pos (by omega), hF1 i (by omega), if_neg (by omega), if_pos (by omega), show m - 1 - j = i by omega]
      rw [if_neg (by omega)]
      by_cases y2 : j = i
      · have := hF1 (m - 1 - i) (by omega)
        rw [show 2 * (b + (m - 1 - i)) = 2 * (b + m) - 2 - 2 * i by omega, if_neg (by omega)] at this
        rw [if_pos (by omega), this, if_pos (by omega), show m - 1 - j = m - 1 - i by omega]
      rw [if_neg (by omega), hF1 j hj]
      by_cases y3 : j < i ∨ m ≤ j + i
      · rw [if_pos y3, if_pos (by omega)]
      · rw [if_neg y3, if_neg (by omega)]) (fun q hq hq2 => by
      show (if q = 2 * (b + m) - 2 - 2 * i then F (2 * (b + i)) else (if q = 2 * (b + i) then F (2 * (b + m) - 2 - 2 * i) else F q)) = _
      rw [if_neg (by omega), if_neg (by omega)]
      exact hF2 q hq hq2)
    refine ⟨σ', ?_, Fr.t0 (Fr.e σ _ _ (by simp)) (Fr.t0 (Fr.e _ _ _ (by simp)) q2), q3⟩
    unfold L_184
    rw [if_neg (fun z => by have := (nI_lei (by omega) (by omega)).mp z; omega), a1, ob_some]
    dsimp only
    rw [a2, ob_some]
    dsimp only
    rw [if_pos s1, if_pos (show aB (nI (2 * (b + m) - 2 - 2 * i)) (gN σ 162) from t1), e1, e2, s2, t2]
    exact q1
theorem kd0_at (cs : List Nat) (j : Nat) (h : j < cs.length) : (kd0 cs).getD j (0, 0) = (cs.getD j 0, 0) := by
  unfold kd0
  rw [List.getD_eq_getElem?_getD, List.getD_eq_getElem?_getD, List.getElem?_map, List.getElem?_eq_getElem h]
  rfl
theorem kd0_len (cs : List Nat) : (kd0 cs).length = cs.length := by unfold kd0; rw [List.length_map]
/-- the kids are turned -/
theorem F184 (hN : 50000 < N) {R : List (Nat × Nat)} {cs : List Nat} (h : Sk σ 161 (g2 (R ++ kd0 cs))) (h1 : 1 ≤ cs.length) (hb : R.length + cs.length ≤ 25000) : ∃ σ', F_184 N (nI (2 * R.length)) σ = some σ' ∧ Sk σ' 161 (g2 (R ++ kd0 cs.reverse)) ∧ Fr 0 [] [] [] [162] [] σ σ' := by
  have ll : (R ++ kd0 cs).length = R.length + cs.length := by rw [List.length_append, kd0_len]
  have lr : (R ++ kd0 cs.reverse).length = R.length + cs.length := by rw [List.length_append, kd0_len, List.length_reverse]
  have gl : (g2 (R ++ kd0 cs)).length = 2 * (R.length + cs.length) := by rw [g2_len, ll]
  have nf := sk_nf h
  rw [gl] at nf
  have at1 : ∀ (S : List Nat) (j : Nat), S.length = cs.length → j < cs.length → (R ++ kd0 S).getD (R.length + j) (0, 0) = (S.getD j 0, 0) := fun S j hS hj => by
    rw [← kd0_at S j (by omega), List.getD_eq_getElem?_getD, List.getD_eq_getElem?_getD, List.getElem?_append_right (by omega), Nat.add_sub_cancel_left]
  have at0 : ∀ (S : List Nat) (i : Nat), i < R.length → (R ++ kd0 S).getD i (0, 0) = R.getD i (0, 0) := fun S i hi => by
    rw [List.getD_eq_getElem?_getD, List.getD_eq_getElem?_getD, List.getElem?_append_left hi]
  obtain ⟨σ', q1, q2, F', q3, q4, q5⟩ := L184 (N := N) (b := R.length) (m := cs.length) (n := 2 * (R.length + cs.length)) (f := fun k => (g2 (R ++ kd0 cs)).getD k 0) (c := fun j => nI (cs.getD j 0)) rfl (by omega) (fun j hj => by
    show (g2 (R ++ kd0 cs)).getD (2 * (R.length + j)) 0 = nI (cs.getD j 0)
    rw [(g2_at (R ++ kd0 cs) (R.length + j) (by omega)).1, at1 cs j rfl hj]) cs.length 0 _ σ N (by omega) (by omega) h1 (Nat.zero_le _) nf (fun j hj => by
    rw [if_neg (by omega)]
    show (g2 (R ++ kd0 cs)).getD (2 * (R.length + j)) 0 = nI (cs.getD j 0)
    rw [(g2_at (R ++ kd0 cs) (R.length + j) (by omega)).1, at1 cs j rfl hj]) (fun q _ _ => rfl)
  refine ⟨σ', ?_, ?_, q2⟩
  · unfold F_184
    rw [nf.1]
    have e : nI (2 * (R.length + cs.length)) - 2 = nI (2 * (R.length + cs.length) - 2 - 2 * 0) := nI_sub (b := 2) (by omega)
    rw [e]
    exact q1
  · refine nf_sk q3 (by rw [g2_len, lr]) (fun k hk => ?_)
    obtain ⟨i, e | e⟩ : ∃ i, k = 2 * i ∨ k = 2 * i + 1 := ⟨k / 2, by omega⟩
    · subst e
      by_cases c : i < R.length
      · rw [q5 _ hk (Or.inl (by omega))]
        show (g2 (R ++ kd0 cs)).getD (2 * i) 0 = _
        rw [(g2_at _ i (by omega)).1, (g2_at _ i (by omega)).1, at0 _ _ c, at0 _ _ c]
      · obtain ⟨j, rfl⟩ : ∃ j, i = R.length + j := ⟨i - R.length, by omega⟩
        have hj : j < cs.length := by omega
        rw [q4 j hj, (g2_at _ (R.length + j) (by omega)).1, at1 cs.reverse j (List.length_reverse ..) hj]
        show nI (cs.getD (cs.length - 1 - j) 0) = nI (cs.reverse.getD j 0)
        congr 1
        rw [List.getD_eq_getElem?_getD, List.getD_eq_getElem?_getD, List.getElem?_reverse hj]
    · subst e
      rw [q5 _ hk (Or.inr (by omega))]
      show (g2 (R ++ kd0 cs)).getD (2 * i + 1) 0 = _
      rw [(g2_at _ i (by omega)).2, (g2_at _ i (by omega)).2]
      by_cases c : i < R.length
      · rw [at0 _ _ c, at0 _ _ c]
      · obtain ⟨j, rfl⟩ : ∃ j, i = R.length + j := ⟨i - R.length, by omega⟩
        have hj : j < cs.length := by omega
        rw [at1 cs j rfl hj, at1 cs.reverse j (List.length_reverse ..) hj]
end TU
/-- what looking may change -/
abbrev FY (g : Nat) (σ σ' : st_S) : Prop := Fr 0 [(159, 1), (161, 1), (66, 16), (66, 17)] [] [] [160, 162, g + 8] [] σ σ'
def LQ (g x : Nat) (l : List Int32) (w : List (Nat × Nat × Nat)) (E : List En) (σ0 σ : st_S) (R : List (Nat × Nat)) (Vs : List Int32) (n : Nat) (D : Nat → Nat → Int32) : Prop := FY g σ0 σ ∧ W3 σ w ∧ Rd σ x l ∧ NR σ g E ∧ Sk σ 161 (g2 R) ∧ Sk σ 159 Vs ∧ DS σ g n D
def LGv (N g x : Nat) (l : List Int32) (w : List (Nat × Nat × Nat)) (E : List En) (σ0 : st_S) : Prop := (g = 79 ∨ g = 115) ∧ (x = 67 ∨ x = 69) ∧ 100000 < N ∧ K40 w ∧ w.length ≤ 16400 ∧ gC σ0 + 400000 < vz_M0 ∧ Pw l w ∧ NW w E ∧ NU l w E
section LQS
variable {N g x n : Nat} {σ σ0 σ' : st_S} {D : Nat → Nat → Int32} {w : List (Nat × Nat × Nat)} {l : List Int32} {E : List En} {R : List (Nat × Nat)} {Vs : List Int32} {I J Rr : List (Nat × Nat)} {A L : List Nat}
theorem lq_gc (hq : gC σ0 + 400000 < vz_M0) {L1 L2 : List Int32} (h1 : FY g σ0 σ) (h2 : Sk σ 161 L1) (h3 : Sk σ 159 L2) (h4 : gN σ (g + 8) ≤ 100000) : gC σ + 1000 < vz_M0 := by
  have := Fr.gc h1 (C := 100000) (fun a ha => by
    simp only [List.mem_cons, List.not_mem_nil, or_false] at ha
    rcases ha with rfl | rfl | rfl
    · exact h3.2
    · exact h2.2
    · exact h4)
  omega
theorem NR.fr (h : NR σ g E) (fr : Fr 0 I J Rr A L σ σ') (h1 : ∀ a, 151 ≤ a → a ≤ 155 → (a, 1) ∉ I) (h2 : ∀ a, 152 ≤ a → a ≤ 156 → a ∉ A) (h3 : g + 14 ∉ A) (h4 : g + 18 ∉ A) : NR σ' g E := by
  obtain ⟨a1, a2, a3, a4, a5, a6, a7⟩ := h
  have e3 := fr.2.2.2.1 _ h3
  have e4 := fr.2.2.2.1 _ h4
  refine ⟨a1.fr fr (h1 _ (by decide) (by decide)) (h2 _ (by decide) (by decide)), a2.fr fr (h1 _ (by decide) (by decide)) (h2 _ (by decide) (by decide)), a3.fr fr (h1 _ (by decide) (by decide)) (h2 _ (by decide) (by decide)), by rw [e3.1]; exact a4, by rw [e4.1]; exact a5, a6, ?_⟩
  rw [e3.2, e4.2]
  exact a7
/-- the stack of pairs alone -/
abbrev FY1 (σ σ' : st_S) : Prop := Fr 0 [(161, 1)] [] [] [162] [] σ σ'
theorem LQ.s1 (hg : g = 79 ∨ g = 115) (hx : x = 67 ∨ x = 69) {R' : List (Nat × Nat)} (h : LQ g x l w E σ0 σ R Vs n D) (fr : FY1 σ σ') (hs : Sk σ' 161 (g2 R')) : LQ g x l w E σ0 σ' R' Vs n D := by
  obtain ⟨h1, h2, h3, h4, h5, h6, h7⟩ := h
  refine ⟨Fr.t0 h1 (fr.mo (by simp) (by simp) (by simp) (by simp) (by simp)), h2.fr fr ?_ ?_, ?_, h4.fr fr ?_ ?_ ?_ ?_, hs, h6.fr fr (by simp) (by simp), h7.fr fr ?_ ?_⟩
  · intro a z1 z2; simp only [List.mem_cons, List.not_mem_nil, or_false, Prod.mk.injEq]; omega
  · intro a z1 z2; simp only [List.mem_cons, List.not_mem_nil, or_false]; omega
  · obtain ⟨a1, a2, a3, a4, a5⟩ := h3
    obtain ⟨e1, e2⟩ := fr.2.2.2.1 (x + 1) (by simp only [List.mem_cons, List.not_mem_nil, or_false]; omega)
    exact ⟨(fr.1 x 1 (by simp only [List.mem_cons, List.not_mem_nil, or_false, Prod.mk.injEq]; omega)).trans a1, by rw [e1]; exact a2, by rw [e1]; exact a3, a4, by rw [e2]; exact a5⟩
  · intro a z1 z2; simp only [List.mem_cons, List.not_mem_nil, or_false, Prod.mk.injEq]; omega
  · intro a z1 z2; simp only [List.mem_cons, List.not_mem_nil, or_false]; omega
  · simp only [List.mem_cons, List.not_mem_nil, or_false]; omega
  · simp only [List.mem_cons, List.not_mem_nil, or_false]; omega
  · intro a z1 z2; simp only [List.mem_cons, List.not_mem_nil, or_false, Prod.mk.injEq]; omega
  · intro a z1 z2; simp only [List.mem_cons, List.not_mem_nil, or_false]; omega
/-- a pair is put on, taken -/
theorem lq_push (G : LGv N g x l w E σ0) (h : LQ g x l w E σ0 σ R Vs n D) (hR : R.length ≤ 24900) {a d : Nat} : ∃ s1 s2, N_133 N 161 (nI a) σ = some s1 ∧ N_133 N 161 (nI d) s1 = some s2 ∧ LQ g x l w E σ0 s2 (R ++ [(a, d)]) Vs n D ∧ FY1 σ s2 := by
  obtain ⟨hg, hx, -, -, -, hq, -⟩ := G
  have h' := h
  obtain ⟨h1, h2, h3, h4, h5, h6, h7⟩ := h
  have gl := g2_len R
  have h8 := Nat.le_trans (h7 3 (by decide)).2.2.2.1 (show 40000 ≤ 100000 by decide)
  have fy : ∀ {s s' : st_S}, FY1 s s' → FY g s s' := fun h => h.mo (by simp) (by simp) (by simp) (by simp) (by simp)
  obtain ⟨s1, a1, b1, r1⟩ := sk_push (N := N) (v := nI a) (o := 161) (by decide) h5 (by omega) (by have := lq_gc hq h1 h5 h6 h8; omega)
  have n8 : gN s1 (g + 8) ≤ 100000 := by
    rw [(r1.2.2.2.1 (g + 8) (by simp only [List.mem_cons, List.not_mem_nil, or_false]; omega)).1]
    exact h8
  obtain ⟨s2, a2, b2, r2⟩ := sk_push (N := N) (v := nI d) (o := 161) (by decide) b1 (by rw [List.length_append]; show _ + 1 ≤ _; omega) (by have := lq_gc hq (Fr.t0 h1 (fy r1)) b1 (h6.fr r1 (by simp) (by simp)) n8; omega)
  have e : g2 (R ++ [(a, d)]) = g2 R ++ [nI a] ++ [nI d] := by
    rw [g2_app, List.append_assoc]
    rfl
  refine ⟨s1, s2, a1, a2, h'.s1 hg hx (Fr.t0 r1 r2) (by rw [e]; exact b2), Fr.t0 r1 r2⟩
theorem lq_take (hg : g = 79 ∨ g = 115) (hx : x = 67 ∨ x = 69) {a d : Nat} (h : LQ g x l w E σ0 σ (R ++ [(a, d)]) Vs n D) : ∃ s1 s2, N_148 N 161 σ = some (nI d, s1) ∧ N_148 N 161 s1 = some (nI a, s2) ∧ LQ g x l w E σ0 s2 R Vs n D ∧ FY1 σ s2 := by
  have h5 := h.2.2.2.2.1
  have e : g2 (R ++ [(a, d)]) = g2 R ++ [nI a] ++ [nI d] := by
    rw [g2_app, List.append_assoc]
    rfl
  rw [e] at h5
  obtain ⟨a1, b1⟩ := sk_take (N := N) h5
  obtain ⟨a2, b2⟩ := sk_take (N := N) b1
  have fr : ∀ (s : st_S) (v : Int32), FY1 s (st_i s 161 1 v) := fun s v => Fr.i s v (by simp)
  have fa : FY1 σ (st_i (st_i σ 161 1 (nI (g2 R ++ [nI a]).length)) 161 1 (nI (g2 R).length)) := Fr.t0 (fr σ _) (fr _ _)
  exact ⟨_, _, a1, a2, h.s1 hg hx fa b2, fa⟩
/-- the kids are put on -/
theorem L179k (G : LGv N g x l w E σ0) {l2 l6 : Int32} : ∀ (cs : List Nat) (v : Int32) (R : List (Nat × Nat)) (σ : st_S), Pk D v cs → (∀ c ∈ cs, c < n) → n ≤ 20000 → LQ g x l w E σ0 σ R Vs n D → R.length + cs.length ≤ 24900 → ∃ σ', (∀ f, L_179 N g x (f + cs.length) 126 l2 v l6 σ = L_179 N g x f 126 l2 (-1) l6 σ') ∧ LQ g x l w E σ0 σ' (R ++ kd0 cs) Vs n D ∧ FY1 σ σ' := by
  intro cs
  induction cs with
  | nil =>
    intro v R σ hv _ _ h _
    have hv : v = -1 := hv
    subst hv
    exact ⟨σ, fun f => rfl, by rw [show kd0 [] = [] from rfl, List.append_nil]; exact h, Fr.rf σ⟩
  | cons c cs ih =>
    intro v R σ hv hc hn h hR
    obtain ⟨hv1, hv2⟩ := hv
    rw [List.length_cons] at hR
    have cn := hc c (List.mem_cons_self ..)
    obtain ⟨s1, s2, a1, a2, a3, a4⟩ := lq_push (N := N) (a := c) (d := 0) G h (by omega)
    obtain ⟨σ', b1, b2, b3⟩ := ih (D c 5) (R ++ [(c, 0)]) s2 hv2 (fun z hz => hc z (List.mem_cons_of_mem _ hz)) hn a3 (by rw [List.length_append]; show R.length + 1 + _ ≤ _; omega)
    have at5 : N_139 N (g + 11) (nI c) s2 = some (D c 5, s2) := nf_at (a3.2.2.2.2.2.2 5 (by decide)) cn
    refine ⟨σ', fun f => ?_, ?_, Fr.t0 a4 b3⟩
    · rw [List.length_cons, ← Nat.add_assoc]
      conv => lhs; unfold L_179
      rw [if_neg (by decide), hv1, if_neg (fun z => by have := (nI_lti (b := 0) (by omega) (by decide)).mp z; omega), a1, ob_some]
      have a2 : N_133 N 161 0 s1 = some s2 := a2
      rw [a2, ob_some, at5, ob_some]
      exact b1 f
    · rw [List.append_assoc] at b2
      exact b2
/-- a node is opened -/
theorem L179o (G : LGv N g x l w E σ0) {l2 : Int32} {a : Nat} {cs : List Nat} (h : LQ g x l w E σ0 σ (R ++ [(a, 0)]) Vs n D) (hf : gI σ 66 16 = 0) (ha : a < n) (hn : n ≤ 20000) (hp : Pk D (D a 4) cs) (hc : ∀ c ∈ cs, c < n) (hc1 : 1 ≤ cs.length) (hR : R.length + cs.length ≤ 24800) : ∃ σ', (∀ f, L_179 N g x (f + (cs.length + 2)) 32 l2 0 0 σ = L_179 N g x f 32 l2 0 0 σ') ∧ LQ g x l w E σ0 σ' (R ++ [(a, 1)] ++ kd0 cs.reverse) Vs n D ∧ gI σ' 66 16 = 0 ∧ FY1 σ σ' := by
  have G' := G
  obtain ⟨hg, hx, hN, -⟩ := G
  obtain ⟨s1, s2, a1, a2, a3, a4⟩ := lq_take (N := N) hg hx h
  have gs : gI σ 161 1 = nI (2 * (R.length + 1)) := by
    have := h.2.2.2.2.1.1.1
    rw [g2_len, List.length_append] at this
    exact this
  obtain ⟨s3, s4, b1, b2, b3, b4⟩ := lq_push (N := N) (a := a) (d := 1) G' a3 (by omega)
  obtain ⟨s5, c1, c2, c3⟩ := L179k (l2 := l2) (l6 := nI (2 * (R.length + 1))) G' cs (D a 4) (R ++ [(a, 1)]) s4 hp hc hn b3 (by rw [List.length_append]; show R.length + 1 + _ ≤ _; omega)
  have ll : (R ++ [(a, 1)]).length = R.length + 1 := by rw [List.length_append]; rfl
  obtain ⟨s6, d1, d2, d3⟩ := F184 (N := N) (R := R ++ [(a, 1)]) (cs := cs) (by omega) c2.2.2.2.2.1 hc1 (by rw [ll]; omega)
  have d3' : FY1 s5 s6 := d3.mo (by simp) (by simp) (by simp) (by simp) (by simp)
  have fa : FY1 σ s6 := Fr.t0 a4 (Fr.t0 b4 (Fr.t0 c3 d3'))
  have at4 : N_139 N (g + 9) (nI a) s2 = some (D a 4, s2) := nf_at (a3.2.2.2.2.2.2 4 (by decide)) ha
  obtain ⟨c, cs', rfl⟩ : ∃ c cs', cs = c :: cs' := by
    cases cs with
    | nil => exact absurd hc1 (by decide)
    | cons c cs' => exact ⟨c, cs', rfl⟩
  have p0 : D a 4 = nI c := hp.1
  have cn := hc c (List.mem_cons_self ..)
  refine ⟨s6, fun f => ?_, c2.s1 hg hx d3' d2, (fa.1 66 16 (by decide)).trans hf, fa⟩
  rw [show f + ((c :: cs').length + 2) = f + 1 + (c :: cs').length + 1 by omega]
  conv => lhs; unfold L_179
  rw [if_pos rfl, gs, if_neg (fun z => by have := (nI_lei (b := 0) (by have := hR; rw [List.length_cons] at this; omega) (by decide)).mp z; omega), if_pos hf, a1, ob_some]
  dsimp only
  rw [a2, ob_some]
  dsimp only
  rw [at4, ob_some]
  dsimp only
  rw [if_neg (show ¬ nI 0 = 1 by decide), if_pos (show (0 : Int32) ≤ D a 4 by rw [p0]; exact (nI_lei (a := 0) (by decide) (by omega)).mpr (by omega)), b1, ob_some]
  have b2 : N_133 N 161 1 s3 = some s4 := b2
  have g4 : gI s4 161 1 = nI (2 * (R.length + 1)) := by
    have := b3.2.2.2.2.1.1.1
    rw [g2_len, ll] at this
    exact this
  rw [b2, ob_some, g4, c1 (f + 1)]
  rw [ll] at d1
  conv => lhs; unfold L_179
  rw [if_neg (by decide), if_pos (show (-1 : Int32) < 0 by decide), d1, ob_some]
end LQS
