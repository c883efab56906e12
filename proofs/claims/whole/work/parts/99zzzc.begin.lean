/-! the reference works out: what is to do -/
abbrev FW (σ σ' : st_S) : Prop := Fr 0 [(66, 16), (66, 17), (66, 23), (165, 1)] [] [] [166, 168] [163, 164, 169, 170] σ σ'
/-- a name's number in the reference -/
def rnm (E : List En) (j : Nat) : Nat := (E.getD j eN).2.2.2.2.2.2.2
/-- formulas that were met -/
def MT (l : List Int32) (w : List (Nat × Nat × Nat)) (E : List En) (vs : Nat → Int32) (m : Nat) (σ : st_S) : Prop := gN σ 168 = 60 ∧ ∀ j, j < m → (E.getD j eN).2.1 = 2 → gE σ 168 (rnm E j) = 0 ∨ fvn l w E vs j = .inr (gL σ 169 (rnm E j), gL σ 170 (rnm E j))
def WQ (l : List Int32) (w : List (Nat × Nat × Nat)) (E : List En) (vs : Nat → Int32) (m : Nat) (σ0 σ : st_S) (R : List (Nat × Nat)) (V : List (Int64 × Int64)) : Prop := FW σ0 σ ∧ Sk σ 165 (g2 R) ∧ VS σ V ∧ gI σ 66 16 = 0 ∧ MT l w E vs m σ
/-- the names as the reference keeps them, and its formulas -/
def NT (σ : st_S) (g n : Nat) (l : List Int32) (w : List (Nat × Nat × Nat)) (E : List En) (vs : Nat → Int32) (fa : Nat → Nat) (m : Nat) (D : Nat → Nat → Int32) : Prop := (gN σ (g + 13) = 60 ∧ gN σ (g + 15) = 60 ∧ gN σ (g + 16) = 60 ∧ gN σ (g + 17) = 60 ∧ gN σ (g + 18) = 12 ∧ gN σ 167 = 12 ∧ gN σ 169 = 60 ∧ gN σ 170 = 60) ∧
  (∀ j, j < E.length → (E.getD j eN).2.1 = 1 → rnm E j < 60 ∧ gE σ (g + 13) (rnm E j) = 0 ∧ gL σ (g + 16) (rnm E j) = (E.getD j eN).2.2.2.2.1.1 ∧ gL σ (g + 17) (rnm E j) = (E.getD j eN).2.2.2.2.1.2) ∧
  (∀ j, j < E.length → (E.getD j eN).2.1 = 3 → rnm E j < 12 ∧ gE σ (g + 18) (rnm E j) = (if (E.getD j eN).2.2.1 then 1 else 0) ∧ gE σ 167 (rnm E j) = vs (E.getD j eN).2.2.2.2.2.2.1) ∧
  (∀ j, j < E.length → 1 ≤ (E.getD j eN).2.1 ∧ (E.getD j eN).2.1 ≤ 3) ∧
  (∀ j, j < m → (E.getD j eN).2.1 = 2 → (rnm E j < 60 ∧ gE σ (g + 13) (rnm E j) = 1 ∧ gE σ (g + 15) (rnm E j) = nI (fa j)) ∧ Rt l w (Vx l w E) D (fTr E j) (fa j) (-1) ∧ fa j + rln (fTr E j) ≤ n ∧ Wf w (fTr E j) ∧ lev (fTr E j) ≤ 6 ∧ NBl l w E j (fTr E j) ∧ chk l w E false (fTr E j) = .inr (kdn (E.getD j eN))) ∧
  (∀ i j, i < j → j < m → (E.getD i eN).2.1 = 2 → (E.getD j eN).2.1 = 2 → rnm E i ≠ rnm E j ∧ fa i + rln (fTr E i) ≤ fa j)
/-- steps for a node, when formulas before the m-th may be named -/
def Kc : Nat → Nat
  | 0 => 2
  | m + 1 => 2 + 20000 * Kc m
theorem Kc_2 : ∀ m, 2 ≤ Kc m := by
  intro m
  cases m with
  | zero => exact Nat.le_refl _
  | succ m => exact Nat.le_add_right _ _
theorem Kc_s (m : Nat) : Kc m ≤ Kc (m + 1) := by
  show Kc m ≤ 2 + 20000 * Kc m
  omega
theorem Kc_mo {a b : Nat} (h : a ≤ b) : Kc a ≤ Kc b := by
  induction b with
  | zero => rw [Nat.le_zero.mp h]; exact Nat.le_refl _
  | succ b ih =>
    by_cases c : a = b + 1
    · rw [c]; exact Nat.le_refl _
    · exact Nat.le_trans (ih (by omega)) (Kc_s b)
def GW (N g n : Nat) (l : List Int32) (w : List (Nat × Nat × Nat)) (E : List En) (vs : Nat → Int32) (fa : Nat → Nat) (cc : Bool) (m : Nat) (σ0 : st_S) (D : Nat → Nat → Int32) : Prop := (g = 79 ∨ g = 115) ∧ 100000 < N ∧ 20000 * Kc m < N ∧ gC σ0 + 400000 < vz_M0 ∧ n ≤ 16400 ∧ m ≤ E.length ∧ Nvk l w ∧ DS σ0 g n D ∧ NT σ0 g n l w E vs fa m D ∧ (∀ j, j < E.length → (cc = true → (E.getD j eN).2.1 = 1) → ∀ v, fvn l w E vs j = .inr v → okv (if (E.getD j eN).2.2.1 then 2 else 1) v)
section WK
variable {N g n : Nat} {σ σ0 σ' : st_S} {D : Nat → Nat → Int32} {w : List (Nat × Nat × Nat)} {l : List Int32} {E : List En} {vs : Nat → Int32} {fa : Nat → Nat} {cc : Bool} {m : Nat} {R : List (Nat × Nat)} {V ks : List (Int64 × Int64)} {I J Rr : List (Nat × Nat)} {A L : List Nat}
theorem MT.fr (h : MT l w E vs m σ) (fr : Fr 0 I J Rr A L σ σ') (h1 : 168 ∉ A) (h2 : 169 ∉ L) (h3 : 170 ∉ L) : MT l w E vs m σ' := by
  obtain ⟨a1, a2⟩ := h
  obtain ⟨e1, e2⟩ := fr.2.2.2.1 168 h1
  refine ⟨by rw [e1]; exact a1, ?_⟩
  rw [e2, fr.2.2.2.2.1 169 h2, fr.2.2.2.2.1 170 h3]
  exact a2
theorem wq_gc (hq : gC σ0 + 400000 < vz_M0) (h : WQ l w E vs m σ0 σ R V) : gC σ + 1000 < vz_M0 := by
  obtain ⟨h1, h2, h3, h4, h5⟩ := h
  have := Fr.gc h1 (C := 100000) (fun a ha => by
    simp only [List.mem_cons, List.not_mem_nil, or_false] at ha
    rcases ha with rfl | rfl
    · exact h2.2
    · rw [h5.1]; decide)
  omega
theorem wq_len (h : WQ l w E vs m σ0 σ R V) : R.length ≤ 50000 := by
  have h1 := h.2.1.1.2.1
  have h2 := h.2.1.2
  rw [g2_len] at h1
  have e : gN σ (165 + 1) = gN σ 166 := rfl
  omega
/-- a value is put on -/
theorem wq_puo {V' : List (Int64 × Int64)} {pl : Nat} {o : Nat ⊕ (Int64 × Int64)} {r : Option st_S} (h : WQ l w E vs m σ0 σ R V') (p : PuO σ V pl o r) : ∃ σ', r = some σ' ∧ match o with
    | .inl f => gI σ' 66 16 = nI f ∧ gI σ' 66 17 = nI pl ∧ FW σ0 σ' ∧ gN σ' 168 = 60 ∧ ∃ L, Sk σ' 165 L
    | .inr z => WQ l w E vs m σ0 σ' R (V ++ [z]) := by
  obtain ⟨h1, h2, h3, h4, h5⟩ := h
  obtain ⟨σ', a1, a2, a3⟩ := p
  have fw : FW σ0 σ' := Fr.t0 h1 (a2.mo (by simp) (by simp) (by simp) (by simp) (by simp))
  refine ⟨σ', a1, ?_⟩
  cases o with
  | inl f => exact ⟨a3.1, a3.2, fw, by rw [(a2.2.2.2.1 168 (by simp)).1]; exact h5.1, _, h2.fr a2 (by simp) (by simp)⟩
  | inr z => exact ⟨fw, h2.fr a2 (by simp) (by simp), a3.1, a3.2.trans h4, h5.fr a2 (by simp) (by simp) (by simp)⟩
/-- something to do is put on, taken -/
theorem wq_push (hq : gC σ0 + 400000 < vz_M0) (h : WQ l w E vs m σ0 σ R V) (hR : R.length ≤ 24990) (a d : Nat) : ∃ σ', F_186 N (nI a) (nI d) σ = some σ' ∧ WQ l w E vs m σ0 σ' (R ++ [(a, d)]) V := by
  have gc := wq_gc hq h
  have h' := h
  obtain ⟨h1, h2, h3, h4, h5⟩ := h
  have gl := g2_len R
  obtain ⟨s1, a1, b1, r1⟩ := sk_push (N := N) (v := nI a) (o := 165) (by decide) h2 (by omega) (by omega)
  have q1 : FW σ s1 := r1.mo (by simp) (by simp) (by simp) (by simp) (by simp)
  have gc1 : gC s1 + 188 < vz_M0 := by
    have := Fr.gc (Fr.t0 h1 q1) (C := 100000) (fun a ha => by
      simp only [List.mem_cons, List.not_mem_nil, or_false] at ha
      rcases ha with rfl | rfl
      · exact b1.2
      · rw [(r1.2.2.2.1 168 (by simp)).1, h5.1]; decide)
    omega
  obtain ⟨s2, a2, b2, r2⟩ := sk_push (N := N) (v := nI d) (o := 165) (by decide) b1 (by rw [List.length_append]; show _ + 1 ≤ _; omega) gc1
  have rr := Fr.t0 r1 r2
  have e : g2 (R ++ [(a, d)]) = g2 R ++ [nI a] ++ [nI d] := by
    rw [g2_app, List.append_assoc]
    rfl
  refine ⟨s2, ?_, Fr.t0 h1 (rr.mo (by simp) (by simp) (by simp) (by simp) (by simp)), by rw [e]; exact b2, h3.fr rr (by simp) (by simp) (by simp) (by simp) (by simp), (rr.1 66 16 (by simp)).trans h4, h5.fr rr (by simp) (by simp) (by simp)⟩
  unfold F_186
  rw [a1, ob_some, a2, ob_some]
theorem wq_take {a d : Nat} (h : WQ l w E vs m σ0 σ (R ++ [(a, d)]) V) : ∃ s1 s2, N_148 N 165 σ = some (nI d, s1) ∧ N_148 N 165 s1 = some (nI a, s2) ∧ WQ l w E vs m σ0 s2 R V := by
  obtain ⟨h1, h2, h3, h4, h5⟩ := h
  have e : g2 (R ++ [(a, d)]) = g2 R ++ [nI a] ++ [nI d] := by
    rw [g2_app, List.append_assoc]
    rfl
  rw [e] at h2
  obtain ⟨a1, b1⟩ := sk_take (N := N) h2
  obtain ⟨a2, b2⟩ := sk_take (N := N) b1
  have fr : Fr 0 [(165, 1)] [] [] [] [] σ (st_i (st_i σ 165 1 (nI (g2 R ++ [nI a]).length)) 165 1 (nI (g2 R).length)) := Fr.t0 (Fr.i σ _ (by simp)) (Fr.i _ _ (by simp))
  exact ⟨_, _, a1, a2, Fr.t0 h1 (fr.mo (by simp) (by simp) (by simp) (by simp) (by simp)), b2, h3.fr fr (by simp) (by simp) (by simp) (by simp) (by simp), (fr.1 66 16 (by simp)).trans h4, h5.fr fr (by simp) (by simp) (by simp)⟩
/-- a turn of the loop -/
theorem L185s {a d : Nat} (h : WQ l w E vs m σ0 σ (R ++ [(a, d)]) V) : ∃ s2, WQ l w E vs m σ0 s2 R V ∧ (a = 0 → ∀ σ', F_187 N g (nI d) s2 = some σ' → ∀ f, L_185 N g (f + 1) σ = L_185 N g f σ') ∧ (a = 1 → ∀ σ', F_192 N g (nI d) s2 = some σ' → ∀ f, L_185 N g (f + 1) σ = L_185 N g f σ') ∧ (a = 2 → ∀ σ', F_197 N g (nI d) s2 = some σ' → ∀ f, L_185 N g (f + 1) σ = L_185 N g f σ') ∧ (a = 3 → ∀ (V' : List (Int64 × Int64)) (v : Int64 × Int64), V = V' ++ [v] → V.length ≤ 16400 → d < 60 → gN s2 169 = 60 → gN s2 170 = 60 → ∀ f, L_185 N g (f + 1) σ = L_185 N g f (st_E (st_E (st_e s2 168 d 1) 169 d v.1) 170 d v.2)) := by
  obtain ⟨s1, s2, a1, a2, a3⟩ := wq_take (N := N) h
  have ll := wq_len h
  have gs : gI σ 165 1 = nI (2 * (R.length + 1)) := by
    have := h.2.1.1.1
    rw [g2_len, List.length_append] at this
    exact this
  rw [List.length_append] at ll
  have hf := h.2.2.2.1
  have e0 : ∀ f, L_185 N g (f + 1) σ = (fun (p_5 : Int32 × st_S) => if p_5.1 = 0 then (F_187 N g (nI d) (p_5.2)).bind fun p_7 => L_185 N g f (p_7)
          else if p_5.1 = 1 then (F_192 N g (nI d) (p_5.2)).bind fun p_9 => L_185 N g f (p_9)
          else if p_5.1 = 2 then (F_197 N g (nI d) (p_5.2)).bind fun p_11 => L_185 N g f (p_11)
          else if aB (nI d) (gN p_5.2 168) then
                if aB ((gI p_5.2 66 23) - 1) (gN p_5.2 163) then
                if aB (nI d) (gN p_5.2 169) then
                if aB ((gI p_5.2 66 23) - 1) (gN p_5.2 164) then
                if aB (nI d) (gN p_5.2 170) then
                L_185 N g f (st_E (st_E (st_e (p_5.2) 168 ((nI d : Int32).toNatClampNeg) (vp_nar .boolean 1)) 169 ((nI d : Int32).toNatClampNeg) (gL (p_5.2) 163 (((gI p_5.2 66 23) - 1) : Int32).toNatClampNeg)) 170 ((nI d : Int32).toNatClampNeg) (gL (p_5.2) 164 (((gI p_5.2 66 23) - 1) : Int32).toNatClampNeg))
                else none
                else none
                else none
                else none
                else none) (nI a, s2) := fun f => by
    conv => lhs; unfold L_185
    rw [gs, if_neg (fun z => by have := (nI_lei (b := 0) (by omega) (by decide)).mp z; omega), if_pos hf, a1, ob_some]
    dsimp only
    rw [a2, ob_some]
  refine ⟨s2, a3, fun ha σ' h1 f => ?_, fun ha σ' h1 f => ?_, fun ha σ' h1 f => ?_, fun ha V' v hV hV2 hd n9 n0 f => ?_⟩
  · subst ha
    rw [e0]
    dsimp only
    rw [if_pos (by decide), h1, ob_some]
  · subst ha
    rw [e0]
    dsimp only
    rw [if_neg (by decide), if_pos (by decide), h1, ob_some]
  · subst ha
    rw [e0]
    dsimp only
    rw [if_neg (by decide), if_neg (by decide), if_pos (by decide), h1, ob_some]
  · subst ha
    obtain ⟨w1, w2, w3, w4, w5⟩ := a3
    subst hV
    obtain ⟨v1, v2, v3⟩ := w3.off
    rw [List.length_append] at hV2
    have hV2 : V'.length + 1 ≤ 16400 := hV2
    have c : gI s2 66 23 - 1 = nI V'.length := by
      rw [v2]
      exact nI_sub (a := V'.length + 1) (b := 1) (by omega)
    have r1 : gL s2 163 V'.length = v.1 := (v3 0 (show 0 < 1 by decide)).1
    have r2 : gL s2 164 V'.length = v.2 := (v3 0 (show 0 < 1 by decide)).2
    rw [e0]
    dsimp only
    rw [if_neg (by decide), if_neg (by decide), if_neg (by decide)]
    rw [c, if_pos (by rw [w5.1]; exact aB_nI hd (by decide)), if_pos (by rw [w3.2.1]; exact aB_nI (by omega) (by decide)), if_pos (by rw [n9]; exact aB_nI hd (by decide)), if_pos (by rw [w3.2.2.1]; exact aB_nI (by omega) (by decide)), if_pos (by rw [n0]; exact aB_nI hd (by decide)), nI_clamp (by omega), nI_clamp (by omega), r1, r2]
    rfl
/-- a fault ends it -/
theorem L185f (hf : ¬ gI σ 66 16 = 0) : ∀ f, L_185 N g (f + 1) σ = some σ := fun f => by
  unfold L_185
  by_cases c : gI σ 165 1 ≤ 0
  · rw [if_pos c]
  · rw [if_neg c, if_neg hf]
/-- parts are put on -/
theorem L187k (hq : gC σ0 + 400000 < vz_M0) (hg : g = 79 ∨ g = 115) (hD : DS σ0 g n D) (hn : n ≤ 16400) {l5 : Int32} : ∀ (cs : List Nat) (v : Int32) (R : List (Nat × Nat)) (σ : st_S), Pk D v cs → (∀ c ∈ cs, c < n) → WQ l w E vs m σ0 σ R V → R.length + cs.length ≤ 24900 → ∃ σ', (∀ f, L_187 N g (f + cs.length) l5 v σ = L_187 N g f l5 (-1) σ') ∧ WQ l w E vs m σ0 σ' (R ++ kz cs) V := by
  intro cs
  induction cs with
  | nil =>
    intro v R σ hv _ h _
    have hv : v = -1 := hv
    subst hv
    exact ⟨σ, fun f => rfl, by rw [show kz [] = [] from rfl, List.append_nil]; exact h⟩
  | cons c cs ih =>
    intro v R σ hv hc h hR
    obtain ⟨hv1, hv2⟩ := hv
    rw [List.length_cons] at hR
    have cn := hc c (List.mem_cons_self ..)
    obtain ⟨s1, a1, a3⟩ := wq_push (N := N) hq h (by omega) 0 c
    obtain ⟨σ', b1, b2⟩ := ih (D c 5) (R ++ [(0, c)]) s1 hv2 (fun z hz => hc z (List.mem_cons_of_mem _ hz)) a3 (by rw [List.length_append]; show R.length + 1 + _ ≤ _; omega)
    have hD1 : DS s1 g n D := hD.fr a3.1 (fun a z1 z2 => by simp only [List.mem_cons, List.not_mem_nil, or_false, Prod.mk.injEq]; omega) (fun a z1 z2 => by simp only [List.mem_cons, List.not_mem_nil, or_false]; omega)
    have at5 : N_139 N (g + 11) (nI c) s1 = some (D c 5, s1) := nf_at (hD1 5 (by decide)) cn
    refine ⟨σ', fun f => ?_, ?_⟩
    · rw [List.length_cons, ← Nat.add_assoc]
      conv => lhs; unfold L_187
      have a1 : F_186 N 0 (nI c) σ = some s1 := a1
      rw [hv1, if_neg (fun z => by have := (nI_lti (b := 0) (by omega) (by decide)).mp z; omega), a1, ob_some, at5, ob_some]
      exact b1 f
    · rw [List.append_assoc] at b2
      exact b2
theorem DS.fw (hg : g = 79 ∨ g = 115) (h : DS σ g n D) (fr : FW σ σ') : DS σ' g n D := h.fr fr (fun a z1 z2 => by simp only [List.mem_cons, List.not_mem_nil, or_false, Prod.mk.injEq]; omega) (fun a z1 z2 => by simp only [List.mem_cons, List.not_mem_nil, or_false]; omega)
/-- a node is begun: its parts are to do -/
theorem F187d (G : GW N g n l w E vs fa cc m σ0 D) {a s : Nat} {cs : List Nat} (h : WQ l w E vs m σ0 σ R V) (ha : a < n) (h0 : D a 0 = nI s) (hs : s < 46) (hs1 : s ≠ 1 ∧ s ≠ 2 ∧ s ≠ 12 ∧ s ≠ 13 ∧ s ≠ 29 ∧ s ≠ 30 ∧ s ≠ 32) (hp : Pk D (D a 4) cs) (hc : ∀ c ∈ cs, c < n) (hc1 : 1 ≤ cs.length) (hR : R.length + cs.length ≤ 24800) : ∃ σ', F_187 N g (nI a) σ = some σ' ∧ WQ l w E vs m σ0 σ' (R ++ [(1, a)] ++ kz cs.reverse) V := by
  obtain ⟨hg, hN, -, hq, hn, -, -, hD, -⟩ := G
  have hD1 : DS σ g n D := hD.fw hg h.1
  have b0 : N_139 N (g + 1) (nI a) σ = some (D a 0, σ) := nf_at (hD1 0 (by decide)) ha
  have b4 : N_139 N (g + 9) (nI a) σ = some (D a 4, σ) := nf_at (hD1 4 (by decide)) ha
  obtain ⟨s1, a1, a2⟩ := wq_push (N := N) hq h (by omega) 1 a
  have a1 : F_186 N 1 (nI a) σ = some s1 := a1
  have gs : gI s1 165 1 = nI (2 * (R ++ [(1, a)]).length) := by
    have := a2.2.1.1.1
    rw [g2_len] at this
    exact this
  obtain ⟨s2, c1, c2⟩ := L187k (N := N) hq hg hD hn (l5 := gI s1 165 1) cs (D a 4) (R ++ [(1, a)]) s1 hp hc a2 (by rw [List.length_append]; show R.length + 1 + _ ≤ _; omega)
  obtain ⟨e1, e2, e3, e4, e5⟩ := c2
  obtain ⟨s3, d1, d2, d3⟩ := F191 (N := N) (by omega) e2 hc1 (by rw [List.length_append]; show R.length + 1 + _ ≤ _; omega)
  have ne : ∀ k, k < 46 → s ≠ k → ¬ nI s = nI k := fun k hk h z => h ((nI_eq (by omega) (by omega)).mp z)
  refine ⟨s3, ?_, Fr.t0 e1 (d3.mo (by simp) (by simp) (by simp) (by simp) (by simp)), d2, e3.fr d3 (by simp) (by simp) (by simp) (by simp) (by simp), (d3.1 66 16 (by simp)).trans e4, e5.fr d3 (by simp) (by simp) (by simp)⟩
  unfold F_187
  rw [b0, ob_some]
  dsimp only
  rw [b4, ob_some]
  dsimp only
  rw [h0, if_neg (show ¬ nI s = 1 from ne 1 (by decide) hs1.1), if_neg (show ¬ nI s = 2 from ne 2 (by decide) hs1.2.1), if_neg (show ¬ nI s = 12 from ne 12 (by decide) hs1.2.2.1), if_neg (show ¬ nI s = 13 from ne 13 (by decide) hs1.2.2.2.1), if_neg (show ¬ nI s = 29 from ne 29 (by decide) hs1.2.2.2.2.1), if_neg (show ¬ nI s = 30 from ne 30 (by decide) hs1.2.2.2.2.2.1), if_neg (show ¬ nI s = 32 from ne 32 (by decide) hs1.2.2.2.2.2.2), a1, ob_some]
  have := c1 (N - cs.length)
  rw [show N - cs.length + cs.length = N by omega] at this
  rw [this]
  obtain ⟨f, hf⟩ : ∃ f, N - cs.length = f + 1 := ⟨N - cs.length - 1, by omega⟩
  rw [hf]
  unfold L_187
  rw [if_pos (by decide), gs, d1, ob_some]
/-- .. its first part is to do, then a choice -/
theorem F187c (G : GW N g n l w E vs fa cc m σ0 D) {a s c : Nat} (h : WQ l w E vs m σ0 σ R V) (ha : a < n) (h0 : D a 0 = nI s) (hs : s = 29 ∨ s = 30 ∨ s = 32) (h4 : D a 4 = nI c) (hR : R.length ≤ 24800) : ∃ σ', F_187 N g (nI a) σ = some σ' ∧ WQ l w E vs m σ0 σ' (R ++ [(2, a)] ++ [(0, c)]) V := by
  obtain ⟨hg, hN, -, hq, hn, -, -, hD, -⟩ := G
  have hD1 : DS σ g n D := hD.fw hg h.1
  have b0 : N_139 N (g + 1) (nI a) σ = some (D a 0, σ) := nf_at (hD1 0 (by decide)) ha
  have b4 : N_139 N (g + 9) (nI a) σ = some (D a 4, σ) := nf_at (hD1 4 (by decide)) ha
  obtain ⟨s1, a1, a2⟩ := wq_push (N := N) hq h (by omega) 2 a
  obtain ⟨s2, a3, a4⟩ := wq_push (N := N) hq a2 (by rw [List.length_append]; show R.length + 1 ≤ _; omega) 0 c
  have a1 : F_186 N 2 (nI a) σ = some s1 := a1
  have a3 : F_186 N 0 (nI c) s1 = some s2 := a3
  refine ⟨s2, ?_, a4⟩
  unfold F_187
  rw [b0, ob_some]
  dsimp only
  rw [b4, ob_some]
  dsimp only
  rw [h0, h4]
  rcases hs with rfl | rfl | rfl
  · rw [if_neg (by decide), if_neg (by decide), if_neg (by decide), if_neg (by decide), if_pos (by decide), a1, ob_some, a3, ob_some]
  · rw [if_neg (by decide), if_neg (by decide), if_neg (by decide), if_neg (by decide), if_neg (by decide), if_pos (by decide), a1, ob_some, a3, ob_some]
  · rw [if_neg (by decide), if_neg (by decide), if_neg (by decide), if_neg (by decide), if_neg (by decide), if_neg (by decide), if_pos (by decide), a1, ob_some, a3, ob_some]
end WK
