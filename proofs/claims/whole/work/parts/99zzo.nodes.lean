/-! the reference: its lists of numbers, its nodes -/
section NF
variable {N : Nat} {σ σ' : st_S} {o n : Nat} {f : Nat → Int32} {v : Int32} {I J R : List (Nat × Nat)} {A L : List Nat} {w : List (Nat × Nat × Nat)}
/-- a list of n numbers -/
def Nfb (b : Nat) (σ : st_S) (o n : Nat) (f : Nat → Int32) : Prop := gI σ o 1 = nI n ∧ n ≤ gN σ (o + 1) ∧ 16 ≤ gN σ (o + 1) ∧ gN σ (o + 1) ≤ b ∧ ∀ i, i < n → gE σ (o + 1) i = f i
abbrev Nf (σ : st_S) (o n : Nat) (f : Nat → Int32) : Prop := Nfb 40000 σ o n f
abbrev Nfw (σ : st_S) (o n : Nat) (f : Nat → Int32) : Prop := Nfb 100000 σ o n f
theorem Nf.fr (h : Nf σ o n f) (fr : Fr 0 I J R A L σ σ') (h1 : (o, 1) ∉ I) (h2 : o + 1 ∉ A) : Nf σ' o n f := by
  obtain ⟨a1, a2, a3, a4, a5⟩ := h
  obtain ⟨e1, e2⟩ := fr.2.2.2.1 (o + 1) h2
  exact ⟨(fr.1 o 1 h1).trans a1, by rw [e1]; exact a2, by rw [e1]; exact a3, by rw [e1]; exact a4, by rw [e2]; exact a5⟩
theorem W3.fr (h : W3 σ w) (fr : Fr 0 I J R A L σ σ') (h1 : ∀ a, 71 ≤ a → a ≤ 75 → (a, 1) ∉ I) (h2 : ∀ a, 72 ≤ a → a ≤ 76 → a ∉ A) : W3 σ' w := by
  obtain ⟨a1, a2, a3, a4, a5, a6⟩ := h
  have e := fun a h3 h4 => fr.2.2.2.1 a (h2 a h3 h4)
  exact ⟨a1.fr (fr.1 71 1 (h1 71 (by decide) (by decide))) (e 72 (by decide) (by decide)).1 (e 72 (by decide) (by decide)).2, a2.fr (fr.1 73 1 (h1 73 (by decide) (by decide))) (e 74 (by decide) (by decide)).1 (e 74 (by decide) (by decide)).2, a3.fr (fr.1 75 1 (h1 75 (by decide) (by decide))) (e 76 (by decide) (by decide)).1 (e 76 (by decide) (by decide)).2, by rw [(e 72 (by decide) (by decide)).1]; exact a4, by rw [(e 74 (by decide) (by decide)).1]; exact a5, by rw [(e 76 (by decide) (by decide)).1]; exact a6⟩
/-- a list as a function -/
def lf (n : Nat) (f : Nat → Int32) : List Int32 := (List.range n).map f
theorem lf_len (n : Nat) (f : Nat → Int32) : (lf n f).length = n := by unfold lf; rw [List.length_map, List.length_range]
theorem lf_at {n i : Nat} (f : Nat → Int32) (h : i < (lf n f).length) : (lf n f)[i] = f i := by
  simp [lf]
theorem Nfb.nu {b : Nat} (h : Nfb b σ o n f) : Nu σ o (o + 1) (lf n f) := by
  obtain ⟨a1, a2, a3, a4, a5⟩ := h
  refine ⟨by rw [lf_len]; exact a1, by rw [lf_len]; exact a2, a3, fun j hj => ?_⟩
  rw [lf_at]
  exact a5 j (by rw [lf_len] at hj; exact hj)
theorem Nf.nu (h : Nf σ o n f) : Nu σ o (o + 1) (lf n f) := Nfb.nu h
theorem nf_at {b : Nat} (h : Nfb b σ o n f) {k : Nat} (hk : k < n) (hb : b ≤ 100000 := by decide) : N_139 N o (nI k) σ = some (f k, σ) := by
  obtain ⟨a1, a2, a3, a4, a5⟩ := h
  unfold N_139
  rw [if_pos (aB_nI (by omega) (by omega)), nI_clamp (by omega), a5 k hk]
theorem nf_add {b : Nat} (hg : o + 1 ∈ gra) (h : Nfb b σ o n f) (hn : 2 * n ≤ b) (hq : gC σ + 188 < vz_M0) (hb : b ≤ 100000 := by decide) : ∃ σ', N_133 N o v σ = some σ' ∧ Nfb b σ' o (n + 1) (fun i => if i = n then v else f i) ∧ Fr 0 [(o, 1)] [] [] [o + 1] [] σ σ' := by
  obtain ⟨σ1, e1, k1, r1, m1, -⟩ := N133' (N := N) (v := v) rfl hg h.nu (by have := h.2.2.2.1; omega) hq
  refine ⟨σ1, e1, ?_, r1⟩
  obtain ⟨b1, b2, b3, b4⟩ := k1
  have ll : (lf n f ++ [v]).length = n + 1 := by rw [List.length_append, lf_len]; rfl
  rw [ll] at b1 b2
  rw [lf_len] at m1
  have h4 := h.2.2.2.1
  refine ⟨b1, b2, b3, by omega, fun i hi => ?_⟩
  rw [b4 i (by rw [ll]; exact hi)]
  show _ = if i = n then v else f i
  by_cases c : i = n
  · rw [if_pos c]
    subst c
    rw [List.getElem_append_right (by rw [lf_len]; exact Nat.le_refl _)]
    simp only [lf_len, Nat.sub_self, List.getElem_cons_zero]
  · rw [if_neg c, List.getElem_append_left (by rw [lf_len]; omega), lf_at]
theorem nf_set {b : Nat} (h : Nfb b σ o n f) {k : Nat} (hk : k < n) (hb : b ≤ 100000 := by decide) : aB (nI k) (gN σ (o + 1)) ∧ (nI k).toNatClampNeg = k ∧ Nfb b (st_e σ (o + 1) k v) o n (fun i => if i = k then v else f i) := by
  obtain ⟨a1, a2, a3, a4, a5⟩ := h
  refine ⟨aB_nI (by omega) (by omega), nI_clamp (by omega), a1, a2, a3, a4, fun i hi => ?_⟩
  show st_u (gE σ) (o + 1) k v (o + 1) i = if i = k then v else f i
  unfold st_u
  by_cases c : i = k
  · rw [if_pos c, if_pos ⟨rfl, c⟩]
  · rw [if_neg c, if_neg (fun z => c z.2)]
    exact a5 i hi
/-- stacks -/
def Sk (σ : st_S) (o : Nat) (l : List Int32) : Prop := Nu σ o (o + 1) l ∧ gN σ (o + 1) ≤ 100000
theorem Sk.fr {l : List Int32} (h : Sk σ o l) (fr : Fr 0 I J R A L σ σ') (h1 : (o, 1) ∉ I) (h2 : o + 1 ∉ A) : Sk σ' o l := by
  obtain ⟨e1, e2⟩ := fr.2.2.2.1 (o + 1) h2
  exact ⟨h.1.fr (fr.1 o 1 h1) e1 e2, by rw [e1]; exact h.2⟩
theorem sk_push {l : List Int32} (hg : o + 1 ∈ gra) (h : Sk σ o l) (hn : l.length ≤ 50000) (hq : gC σ + 188 < vz_M0) : ∃ σ', N_133 N o v σ = some σ' ∧ Sk σ' o (l ++ [v]) ∧ Fr 0 [(o, 1)] [] [] [o + 1] [] σ σ' := by
  obtain ⟨σ1, e1, k1, r1, m1, -⟩ := N133' (N := N) (v := v) rfl hg h.1 (by have := h.2; omega) hq
  exact ⟨σ1, e1, ⟨k1, by have := h.2; omega⟩, r1⟩
theorem sk_take {l : List Int32} (h : Sk σ o (l ++ [v])) : N_148 N o σ = some (v, st_i σ o 1 (nI l.length)) ∧ Sk (st_i σ o 1 (nI l.length)) o l := by
  obtain ⟨⟨a1, a2, a3, a4⟩, a5⟩ := h
  have ll : (l ++ [v]).length = l.length + 1 := by rw [List.length_append]; rfl
  rw [ll] at a1 a2
  have e : nI (l.length + 1) - 1 = nI l.length := by
    have := nI_sub (a := l.length + 1) (b := 1) (by omega)
    rw [Nat.add_sub_cancel] at this
    exact this
  constructor
  · unfold N_148
    rw [a1, e, if_pos (aB_nI (by omega) (by omega)), nI_clamp (by omega), a4 l.length (by rw [ll]; omega), List.getElem_append_right (Nat.le_refl _)]
    simp only [Nat.sub_self, List.getElem_cons_zero]
  · refine ⟨⟨by rw [gI_i, if_pos ⟨rfl, rfl⟩], by show l.length ≤ gN σ (o + 1); omega, a3, fun j hj => ?_⟩, a5⟩
    have := a4 j (by rw [ll]; omega)
    rw [List.getElem_append_left hj] at this
    exact this
theorem sk_at {l : List Int32} (h : Sk σ o l) {k : Nat} (hk : k < l.length) : N_139 N o (nI k) σ = some (l[k], σ) := by
  obtain ⟨⟨a1, a2, a3, a4⟩, a5⟩ := h
  unfold N_139
  rw [if_pos (aB_nI (by omega) (by omega)), nI_clamp (by omega), a4 k hk]
theorem sk_0 {l : List Int32} (h : Sk σ o l) : Sk (st_i σ o 1 0) o [] := ⟨⟨by rw [gI_i, if_pos ⟨rfl, rfl⟩]; rfl, Nat.zero_le _, h.1.2.2.1, fun j hj => absurd hj (Nat.not_lt_zero j)⟩, h.2⟩
end NF
/-- the draft's nodes: sort, place, from, value, first part, next part -/
def DS (σ : st_S) (g n : Nat) (D : Nat → Nat → Int32) : Prop := ∀ c, c < 6 → Nf σ (g + 1 + 2 * c) n (fun i => D i c)
/-- the lists that make a tree -/
abbrev FT (g : Nat) (σ σ' : st_S) : Prop := Fr 0 [(157, 1), (g + 1, 1), (g + 3, 1), (g + 5, 1), (g + 7, 1), (g + 9, 1), (g + 11, 1)] [] [] [158, g + 2, g + 4, g + 6, g + 8, g + 10, g + 12] [] σ σ'
/-- .. without the jobs -/
abbrev FTd (g : Nat) (σ σ' : st_S) : Prop := Fr 0 [(g + 1, 1), (g + 3, 1), (g + 5, 1), (g + 7, 1), (g + 9, 1), (g + 11, 1)] [] [] [g + 2, g + 4, g + 6, g + 8, g + 10, g + 12] [] σ σ'
theorem FTd.ft {g : Nat} {σ σ' : st_S} (h : FTd g σ σ') : FT g σ σ' := h.mo (by intro a q; exact List.mem_cons_of_mem _ q) (fun _ q => q) (fun _ q => q) (by intro a q; exact List.mem_cons_of_mem _ q) (fun _ q => q)
section ND2
variable {N g n : Nat} {σ σ' : st_S} {D : Nat → Nat → Int32} {w : List (Nat × Nat × Nat)} {I J R : List (Nat × Nat)} {A L : List Nat}
theorem DS.fr (h : DS σ g n D) (fr : Fr 0 I J R A L σ σ') (h1 : ∀ a, g < a → a ≤ g + 11 → (a, 1) ∉ I) (h2 : ∀ a, g < a → a ≤ g + 12 → a ∉ A) : DS σ' g n D := fun c hc => (h c hc).fr fr (h1 _ (by omega) (by omega)) (h2 _ (by omega) (by omega))
theorem W3.ft (hg : g = 79 ∨ g = 115) (h : W3 σ w) (fr : FT g σ σ') : W3 σ' w := h.fr fr (fun a h1 h2 => by
  simp only [List.mem_cons, List.not_mem_nil, or_false, Prod.mk.injEq]
  omega) (fun a h1 h2 => by
  simp only [List.mem_cons, List.not_mem_nil, or_false]
  omega)
/-- a row of a node -/
def nrw (w : List (Nat × Nat × Nat)) (s k f : Nat) (v : Int32) : Nat → Int32 := fun c => if c = 0 then nI s else if c = 1 then nI (kP w k) else if c = 2 then nI (kP w f) else if c = 3 then v else -1
theorem F174 (hg : g = 79 ∨ g = 115) (h3 : W3 σ w) (hD : DS σ g n D) (hn : n ≤ 20000) {s k f : Nat} (hk : k < w.length) (hf : f < w.length) (hq : gC σ + 400 < vz_M0) : ∃ σ', F_174 N g (nI s) (nI k) (nI f) σ = some (nI n, σ') ∧ DS σ' g (n + 1) (ndd D n (nrw w s k f 0)) ∧ FTd g σ σ' := by
  have gc : ∀ {s s' : st_S} {o m : Nat} {f f' : Nat → Int32}, Nf s o m f → Nf s' o (m + 1) f' → Fr 0 [(o, 1)] [] [] [o + 1] [] s s' → m ≤ 40000 → True := fun _ _ _ _ => trivial
  have mem : ∀ c, c < 6 → g + 1 + 2 * c + 1 ∈ gra := by
    intro c hc
    have : c = 0 ∨ c = 1 ∨ c = 2 ∨ c = 3 ∨ c = 4 ∨ c = 5 := by omega
    rcases hg with rfl | rfl <;> rcases this with rfl | rfl | rfl | rfl | rfl | rfl <;> decide
  -- one more in a list
  have one : ∀ (s1 : st_S) (m : Nat) (c : Nat) (v : Int32) (f : Nat → Int32), c < 6 → Nf s1 (g + 1 + 2 * c) n f → gC s1 ≤ gC σ + m → m < 10 → ∃ s2, N_133 N (g + 1 + 2 * c) v s1 = some s2 ∧ Nf s2 (g + 1 + 2 * c) (n + 1) (fun i => if i = n then v else f i) ∧ Fr 0 [(g + 1 + 2 * c, 1)] [] [] [g + 1 + 2 * c + 1] [] s1 s2 ∧ gC s2 ≤ gC σ + (m + 1) := by
    intro s1 m c v f hc h1 h2 hm
    obtain ⟨s2, e1, k1, r1, m1, c1⟩ := N133' (N := N) (v := v) rfl (mem c hc) h1.nu (by have := h1.2.2.2.1; omega) (by omega)
    obtain ⟨s2', e1', k1', r1'⟩ := nf_add (N := N) (v := v) (mem c hc) h1 (by omega) (by omega)
    rw [e1] at e1'
    obtain rfl := Option.some.inj e1'
    exact ⟨s2, e1, k1', r1', by omega⟩
  have ft : ∀ {s1 s2 : st_S} (c : Nat), c < 6 → Fr 0 [(g + 1 + 2 * c, 1)] [] [] [g + 1 + 2 * c + 1] [] s1 s2 → FTd g s1 s2 := by
    intro s1 s2 c hc h
    have : c = 0 ∨ c = 1 ∨ c = 2 ∨ c = 3 ∨ c = 4 ∨ c = 5 := by omega
    rcases this with rfl | rfl | rfl | rfl | rfl | rfl <;> exact h.mo (by simp) (by simp) (by simp) (by simp) (by simp)
  have fo : ∀ {s1 s2 : st_S} {m : Nat} {f : Nat → Int32} (c c' : Nat), c ≠ c' → Fr 0 [(g + 1 + 2 * c, 1)] [] [] [g + 1 + 2 * c + 1] [] s1 s2 → Nf s1 (g + 1 + 2 * c') m f → Nf s2 (g + 1 + 2 * c') m f := by
    intro s1 s2 m f c c' hne h q
    refine q.fr h ?_ ?_
    · simp only [List.mem_cons, List.not_mem_nil, or_false, Prod.mk.injEq]; omega
    · simp only [List.mem_cons, List.not_mem_nil, or_false]; omega
  obtain ⟨s1, a1, b1, c1, d1⟩ := one σ 0 0 (nI s) _ (by decide) (hD 0 (by decide)) (by omega) (by decide)
  obtain ⟨s2, a2, b2, c2, d2⟩ := one s1 1 1 (nI (kP w k)) _ (by decide) (fo 0 1 (by decide) c1 (hD 1 (by decide))) d1 (by decide)
  obtain ⟨s3, a3, b3, c3, d3⟩ := one s2 2 2 (nI (kP w f)) _ (by decide) (fo 1 2 (by decide) c2 (fo 0 2 (by decide) c1 (hD 2 (by decide)))) d2 (by decide)
  obtain ⟨s4, a4, b4, c4, d4⟩ := one s3 3 3 0 _ (by decide) (fo 2 3 (by decide) c3 (fo 1 3 (by decide) c2 (fo 0 3 (by decide) c1 (hD 3 (by decide))))) d3 (by decide)
  obtain ⟨s5, a5, b5, c5, d5⟩ := one s4 4 4 (-1) _ (by decide) (fo 3 4 (by decide) c4 (fo 2 4 (by decide) c3 (fo 1 4 (by decide) c2 (fo 0 4 (by decide) c1 (hD 4 (by decide)))))) d4 (by decide)
  obtain ⟨s6, a6, b6, c6, d6⟩ := one s5 5 5 (-1) _ (by decide) (fo 4 5 (by decide) c5 (fo 3 5 (by decide) c4 (fo 2 5 (by decide) c3 (fo 1 5 (by decide) c2 (fo 0 5 (by decide) c1 (hD 5 (by decide))))))) d5 (by decide)
  have w1 := h3.ft hg (FTd.ft (ft 0 (by decide) c1))
  have w2 := w1.ft hg (FTd.ft (ft 1 (by decide) c2))
  have g0 := fo 5 0 (by decide) c6 (fo 4 0 (by decide) c5 (fo 3 0 (by decide) c4 (fo 2 0 (by decide) c3 (fo 1 0 (by decide) c2 b1))))
  have g1 := fo 5 1 (by decide) c6 (fo 4 1 (by decide) c5 (fo 3 1 (by decide) c4 (fo 2 1 (by decide) c3 b2)))
  have g2 := fo 5 2 (by decide) c6 (fo 4 2 (by decide) c5 (fo 3 2 (by decide) c4 b3))
  have g3 := fo 5 3 (by decide) c6 (fo 4 3 (by decide) c5 b4)
  have g4 := fo 5 4 (by decide) c6 b5
  refine ⟨s6, ?_, ?_, Fr.t0 (ft 0 (by decide) c1) (Fr.t0 (ft 1 (by decide) c2) (Fr.t0 (ft 2 (by decide) c3) (Fr.t0 (ft 3 (by decide) c4) (Fr.t0 (ft 4 (by decide) c5) (ft 5 (by decide) c6)))))⟩
  · have a1 : N_133 N (g + 1) (nI s) σ = some s1 := a1
    have a2 : N_133 N (g + 3) (nI (kP w k)) s1 = some s2 := a2
    have a3 : N_133 N (g + 5) (nI (kP w f)) s2 = some s3 := a3
    have a4 : N_133 N (g + 7) 0 s3 = some s4 := a4
    have a5 : N_133 N (g + 9) (-1) s4 = some s5 := a5
    have a6 : N_133 N (g + 11) (-1) s5 = some s6 := a6
    have gs : gI s6 (g + 1) 1 = nI (n + 1) := g0.1
    have e : nI (n + 1) - 1 = nI n := by
      have := nI_sub (a := n + 1) (b := 1) (by omega)
      rw [Nat.add_sub_cancel] at this
      exact this
    unfold F_174
    rw [a1, ob_some, F159 w1 hk, ob_some]
    dsimp only
    rw [a2, ob_some, F159 w2 hf, ob_some]
    dsimp only
    rw [a3, ob_some, a4, ob_some, a5, ob_some, a6, ob_some, gs, e]
  · intro c hc
    have ce : c = 0 ∨ c = 1 ∨ c = 2 ∨ c = 3 ∨ c = 4 ∨ c = 5 := by omega
    have key : ∀ (v : Int32) (q : Nf s6 (g + 1 + 2 * c) (n + 1) (fun i => if i = n then v else D i c)), nrw w s k f 0 c = v → Nf s6 (g + 1 + 2 * c) (n + 1) (fun i => ndd D n (nrw w s k f 0) i c) := by
      intro v q hv
      obtain ⟨q1, q2, q3, q4, q5⟩ := q
      refine ⟨q1, q2, q3, q4, fun i hi => ?_⟩
      rw [q5 i hi]
      unfold ndd
      show (if i = n then v else D i c) = (if i = n then nrw w s k f 0 else D i) c
      by_cases z : i = n
      · rw [if_pos z, if_pos z, hv]
      · rw [if_neg z, if_neg z]
    rcases ce with rfl | rfl | rfl | rfl | rfl | rfl
    · exact key _ g0 rfl
    · exact key _ g1 rfl
    · exact key _ g2 rfl
    · exact key _ g3 rfl
    · exact key _ g4 rfl
    · exact key _ b6 rfl
/-- a cell of a node -/
theorem ds_set (hD : DS σ g n D) {k c : Nat} (hk : k < n) (hc : c < 6) (v : Int32) : aB (nI k) (gN σ (g + 2 + 2 * c)) ∧ (nI k).toNatClampNeg = k ∧ DS (st_e σ (g + 2 + 2 * c) k v) g n (pat D k c v) := by
  obtain ⟨a1, a2, a3⟩ := nf_set (v := v) (hD c hc) hk
  have e : g + 1 + 2 * c + 1 = g + 2 + 2 * c := by omega
  rw [e] at a1 a3
  refine ⟨a1, a2, fun c' hc' => ?_⟩
  by_cases z : c' = c
  · subst z
    obtain ⟨q1, q2, q3, q4, q5⟩ := a3
    refine ⟨q1, q2, q3, q4, fun i hi => ?_⟩
    rw [q5 i hi]
    unfold pat
    show (if i = k then v else D i c') = if i = k ∧ c' = c' then v else D i c'
    by_cases y : i = k
    · rw [if_pos y, if_pos ⟨y, rfl⟩]
    · rw [if_neg y, if_neg (fun x => y x.1)]
  · have fr : Fr 0 [] [] [] [g + 2 + 2 * c] [] σ (st_e σ (g + 2 + 2 * c) k v) := Fr.e σ k v (by simp)
    have q := (hD c' hc').fr fr (by simp) (by simp only [List.mem_cons, List.not_mem_nil, or_false]; omega)
    obtain ⟨q1, q2, q3, q4, q5⟩ := q
    refine ⟨q1, q2, q3, q4, fun i hi => ?_⟩
    rw [q5 i hi]
    unfold pat
    show D i c' = if i = k ∧ c' = c then v else D i c'
    rw [if_neg (fun x => z x.2)]
/-- the parts of a node so far -/
def Pk (D : Nat → Nat → Int32) : Int32 → List Nat → Prop
  | v, [] => v = -1
  | v, s :: S => v = nI s ∧ Pk D (D s 5) S
/-- a part is joined -/
def jnd (D : Nat → Nat → Int32) (p : Int32) (cs : List Nat) (a : Nat) : Nat → Nat → Int32 :=
  if p = -1 then D else match cs.getLast? with
  | none => pat D p.toNatClampNeg 4 (nI a)
  | some s => pat D s 5 (nI a)
theorem L175 (hD : DS σ g n D) (hn : n ≤ 40000) {a : Nat} : ∀ (S : List Nat) (s f : Nat), Pk D (D s 5) S → s < n → (∀ x ∈ S, x < n) → S.length < f → L_175 N g f (nI a) (nI s) σ = some (st_e σ (g + 12) ((s :: S).getLast (List.cons_ne_nil s S)) (nI a)) := by
  intro S
  induction S with
  | nil =>
    intro s f h hs _ hf
    obtain ⟨f, rfl⟩ : ∃ k', f = k' + 1 := ⟨f - 1, by omega⟩
    have h : D s 5 = -1 := h
    have at5 : N_139 N (g + 11) (nI s) σ = some (D s 5, σ) := nf_at (hD 5 (by decide)) hs
    obtain ⟨b1, b2, -⟩ := ds_set hD (c := 5) hs (by decide) (nI a)
    unfold L_175
    rw [at5, ob_some]
    dsimp only
    rw [h, if_pos (by decide), if_pos (show aB (nI s) (gN σ (g + 12)) from b1), b2]
    rfl
  | cons x S ih =>
    intro s f h hs hS hf
    obtain ⟨f, rfl⟩ : ∃ k', f = k' + 1 := ⟨f - 1, by omega⟩
    rw [List.length_cons] at hf
    obtain ⟨h1, h2⟩ := h
    have hx := hS x (List.mem_cons_self ..)
    have at5 : N_139 N (g + 11) (nI s) σ = some (D s 5, σ) := nf_at (hD 5 (by decide)) hs
    unfold L_175
    rw [at5, ob_some]
    dsimp only
    rw [h1, if_neg (fun z => by have := (nI_lti (b := 0) (by omega) (by decide)).mp z; omega), at5, ob_some]
    dsimp only
    rw [h1, ih x f h2 hx (fun y hy => hS y (List.mem_cons_of_mem _ hy)) (by omega), List.getLast_cons (List.cons_ne_nil x S)]
theorem F175 (hg : g = 79 ∨ g = 115) (hN : 50000 < N) (hD : DS σ g n D) (hn : n ≤ 40000) {p : Int32} {cs : List Nat} {a : Nat} (hp : p = -1 ∨ ∃ k, p = nI k ∧ k < n ∧ Pk D (D k 4) cs ∧ (∀ x ∈ cs, x < n) ∧ cs.length ≤ 40000) : ∃ σ', F_175 N g p (nI a) σ = some σ' ∧ DS σ' g n (jnd D p cs a) ∧ FTd g σ σ' := by
  rcases hp with rfl | ⟨k, rfl, hk, h1, h2, h3⟩
  · refine ⟨σ, ?_, ?_, Fr.rf σ⟩
    · unfold F_175
      rw [if_neg (by decide)]
    · unfold jnd
      rw [if_pos rfl]
      exact hD
  · have np : ¬ nI k = -1 := fun z => by
      have : (0 : Int32) ≤ nI k := (nI_lei (a := 0) (by decide) (by omega)).mpr (by omega)
      rw [z] at this
      exact absurd this (by decide)
    have at4 : N_139 N (g + 9) (nI k) σ = some (D k 4, σ) := nf_at (hD 4 (by decide)) hk
    unfold jnd
    rw [if_neg np]
    cases cs with
    | nil =>
      have h1 : D k 4 = -1 := h1
      obtain ⟨b1, b2, b3⟩ := ds_set hD (c := 4) hk (by decide) (nI a)
      refine ⟨st_e σ (g + 10) k (nI a), ?_, ?_, Fr.e σ k (nI a) (by simp)⟩
      · unfold F_175
        rw [if_pos (show (0 : Int32) ≤ nI k from (nI_lei (a := 0) (by decide) (by omega)).mpr (by omega)), at4, ob_some]
        dsimp only
        rw [h1, if_neg (by decide), if_pos (show aB (nI k) (gN σ (g + 10)) from b1), b2]
      · dsimp only [List.getLast?]
        rw [b2]
        exact b3
    | cons s S =>
      obtain ⟨h1, h1'⟩ := h1
      have hs := h2 s (List.mem_cons_self ..)
      have lm : (s :: S).getLast (List.cons_ne_nil s S) < n := h2 _ (List.getLast_mem _)
      obtain ⟨b1, b2, b3⟩ := ds_set hD (c := 5) lm (by decide) (nI a)
      refine ⟨st_e σ (g + 12) ((s :: S).getLast (List.cons_ne_nil s S)) (nI a), ?_, ?_, Fr.e σ _ (nI a) (by simp)⟩
      · unfold F_175
        rw [if_pos (show (0 : Int32) ≤ nI k from (nI_lei (a := 0) (by decide) (by omega)).mpr (by omega)), at4, ob_some]
        dsimp only
        rw [h1, if_pos (show (0 : Int32) ≤ nI s from (nI_lei (a := 0) (by decide) (by omega)).mpr (by omega)), at4, ob_some]
        dsimp only
        rw [h1]
        exact L175 hD hn S s N h1' hs (fun x hx => h2 x (List.mem_cons_of_mem _ hx)) (by rw [List.length_cons] at h3; omega)
      · rw [List.getLast?_eq_some_getLast (List.cons_ne_nil s S)]
        exact b3
end ND2
