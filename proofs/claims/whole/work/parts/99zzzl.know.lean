/-! the reference's items: one more name -/
section KN
variable {N g x n n' : Nat} {σ σ0 σ' : st_S} {D D' : Nat → Nat → Int32} {w : List (Nat × Nat × Nat)} {l : List Int32} {X : Tx} {E : List En} {e : En} {fa fa' : Nat → Nat} {I J Rr : List (Nat × Nat)} {A L : List Nat}
theorem Nfb.fr {o n b : Nat} {f : Nat → Int32} {I J R : List (Nat × Nat)} {A L : List Nat} (h : Nfb b σ o n f) (fr : Fr 0 I J R A L σ σ') (h1 : (o, 1) ∉ I) (h2 : o + 1 ∉ A) : Nfb b σ' o n f := by
  obtain ⟨a1, a2, a3, a4, a5⟩ := h
  obtain ⟨e1, e2⟩ := fr.2.2.2.1 (o + 1) h2
  exact ⟨(fr.1 o 1 h1).trans a1, by rw [e1]; exact a2, by rw [e1]; exact a3, by rw [e1]; exact a4, by rw [e2]; exact a5⟩
theorem nf_cg {o m b : Nat} {f f' : Nat → Int32} (h : Nfb b σ o m f) (hf : ∀ i, i < m → f' i = f i) : Nfb b σ o m f' := by
  obtain ⟨h1, h2, h3, h4, h5⟩ := h
  exact ⟨h1, h2, h3, h4, fun i hi => by rw [h5 i hi, hf i hi]⟩
theorem nf_skx {o m b : Nat} {f : Nat → Int32} (h : Nfb b σ o m f) (hb : b ≤ 100000 := by decide) : Skx σ o := by
  refine ⟨(List.range m).map f, nf_sk h (by rw [List.length_map, List.length_range]) (fun k hk => ?_) hb⟩
  rw [List.getD_eq_getElem?_getD, List.getElem?_map, List.getElem?_range hk]
  rfl
theorem swd_sy {a b : Nat} (h : swd l w a b = true) : swd l w b a = true := by
  rw [swd_iff] at *
  exact ⟨h.1.symm, fun j hj => (h.2 j (by omega)).symm⟩
theorem NU_app (h : NU l w E) (hf : fnd l w E e.1 = none) : NU l w (E ++ [e]) := by
  have no : ∀ j, j < E.length → ¬ swd l w (E.getD j eN).1 e.1 = true := fun j hj z => by
    have hf : E.findIdx? (fun q => swd l w q.1 e.1) = none := hf
    rw [List.findIdx?_eq_none_iff] at hf
    have := hf (E.getD j eN) (by rw [List.getD_eq_getElem?_getD, List.getElem?_eq_getElem hj]; exact List.getElem_mem hj)
    rw [z] at this
    cases this
  intro i j hi hj hs
  rw [len_app] at hi hj
  by_cases ci : i < E.length
  · rw [gD_app ci] at hs
    by_cases cj : j < E.length
    · rw [gD_app cj] at hs
      exact h i j ci cj hs
    · have : j = E.length := by omega
      subst this
      rw [gD_new] at hs
      exact absurd hs (no i ci)
  · have : i = E.length := by omega
    subst this
    rw [gD_new] at hs
    by_cases cj : j < E.length
    · rw [gD_app cj] at hs
      exact absurd (swd_sy hs) (no j cj)
    · omega
theorem NW_app (h : NW w E) (he : e.1 < w.length) : NW w (E ++ [e]) := by
  intro j hj
  rw [len_app] at hj
  by_cases c : j < E.length
  · rw [gD_app c]; exact h j c
  · have : j = E.length := by omega
    subst this
    rw [gD_new]; exact he
/-- a name is known -/
theorem F198 (hg : g = 79 ∨ g = 115) (hx : x = 67 ∨ x = 69) (hq : gC σ0 + 770000 < vz_M0) (h : RM g x l w E σ0 σ n D) (hl : E.length + 1 ≤ 72) (hs : 1 ≤ e.2.1 ∧ e.2.1 ≤ 3) (h3 : e.2.1 = 3 → e.2.2.2.2.2.2.2 < 12 ∧ gE σ (g + 18) e.2.2.2.2.2.2.2 = if e.2.2.1 then 1 else 0) (h1 : e.2.1 ≠ 3 → e.2.2.2.2.2.2.2 < 60 ∧ gE σ (g + 14) e.2.2.2.2.2.2.2 = if e.2.2.1 then 1 else 0) : ∃ σ', F_198 N (nI e.1) (nI e.2.1) (nI e.2.2.2.2.2.2.2) σ = some σ' ∧ RM g x l w (E ++ [e]) σ0 σ' n D ∧ Fr 0 [(151, 1), (153, 1), (155, 1)] [] [] [152, 154, 156] [] σ σ' := by
  obtain ⟨⟨b1, b2, b3, b4, b5, ⟨L7, b6⟩, ⟨L9, b7⟩, ⟨L1, b8⟩⟩, h2, hk1, hk2, hk3, hk4⟩ := h
  obtain ⟨n1, n2, n3, n4, n5, n6, n7⟩ := b4
  have gc := b1.gc hq
  obtain ⟨s1, a1, c1, r1⟩ := nf_add (N := N) (v := nI e.1) (o := 151) (by decide) n1 (by omega) (by omega)
  have g1 := Fr.gc r1 (C := 100000) (fun a ha => by
    simp only [List.mem_cons, List.not_mem_nil, or_false] at ha
    subst ha
    exact Nat.le_trans c1.2.2.2.1 (by decide))
  have m2 := n2.fr r1 (by simp) (by simp)
  have m3 := n3.fr r1 (by simp) (by simp)
  have e1 : vz_M0 = 1000000 := rfl
  have q1 : Fr 0 [(151, 1), (153, 1), (155, 1)] [] [] [152, 154, 156] [] σ s1 := r1.mo (by simp) (by simp) (by simp) (by simp) (by simp)
  have rb1 : RB g σ0 s1 := b1.mo r1 (by simp [RIf]) (by simp [RAf]) (by simp) (fun a ha => by
    simp only [List.mem_cons, List.not_mem_nil, or_false] at ha
    subst ha
    exact Nat.le_trans c1.2.2.2.1 (by decide))
  obtain ⟨s2, a2, c2, r2⟩ := nf_add (N := N) (v := nI e.2.1) (o := 153) (by decide) m2 (by omega) (by have := rb1.gc hq; omega)
  have rb2 : RB g σ0 s2 := rb1.mo r2 (by simp [RIf]) (by simp [RAf]) (by simp) (fun a ha => by
    simp only [List.mem_cons, List.not_mem_nil, or_false] at ha
    subst ha
    exact Nat.le_trans c2.2.2.2.1 (by decide))
  have m3 := m3.fr r2 (by simp) (by simp)
  obtain ⟨s3, a3, c3, r3⟩ := nf_add (N := N) (v := nI e.2.2.2.2.2.2.2) (o := 155) (by decide) m3 (by omega) (by have := rb2.gc hq; omega)
  have rb3 : RB g σ0 s3 := rb2.mo r3 (by simp [RIf]) (by simp [RAf]) (by simp) (fun a ha => by
    simp only [List.mem_cons, List.not_mem_nil, or_false] at ha
    subst ha
    exact Nat.le_trans c3.2.2.2.1 (by decide))
  have fr : Fr 0 [(151, 1), (153, 1), (155, 1)] [] [] [152, 154, 156] [] σ s3 := Fr.t0 q1 (Fr.t0 (r2.mo (by simp) (by simp) (by simp) (by simp) (by simp)) (r3.mo (by simp) (by simp) (by simp) (by simp) (by simp)))
  have c1 := (c1.fr r2 (by simp) (by simp)).fr r3 (by simp) (by simp)
  have c2 := c2.fr r3 (by simp) (by simp)
  have eA := fun a (z : a ∉ [152, 154, 156]) => fr.2.2.2.1 a z
  have x14 := eA (g + 14) (by simp only [List.mem_cons, List.not_mem_nil, or_false]; omega)
  have x18 := eA (g + 18) (by simp only [List.mem_cons, List.not_mem_nil, or_false]; omega)
  have up : ∀ (F : En → Int32) (i : Nat), i < E.length + 1 → F ((E ++ [e]).getD i eN) = if i = E.length then F e else F (E.getD i eN) := fun F i hi => by
    by_cases c : i = E.length
    · subst c
      rw [if_pos rfl, gD_new]
    · rw [if_neg c, gD_app (by omega)]
  refine ⟨s3, ?_, ⟨⟨rb3, b2.fr fr ?_ ?_, b3.fr fr ?_ ?_, ⟨?_, ?_, ?_, by rw [x14.1]; exact n4, by rw [x18.1]; exact n5, by rw [len_app]; exact hl, fun j hj => ?_⟩, b5.fr fr ?_ ?_, ⟨L7, b6.fr fr (by simp) (by simp)⟩, ⟨L9, b7.fr fr (by simp) (by simp)⟩, ⟨L1, b8.fr fr (by simp) (by simp)⟩⟩, h2.fr fr ?_ (by simp), hk1.fr fr (by simp) (by simp), hk2.fr fr ?_ ?_, hk3.fr fr ?_ ?_, hk4.fr fr ?_ ?_⟩, fr⟩
  · unfold F_198
    rw [a1, ob_some, a2, ob_some, a3, ob_some]
  · intro a z1 z2; simp only [List.mem_cons, List.not_mem_nil, or_false, Prod.mk.injEq]; omega
  · intro a z1 z2; simp only [List.mem_cons, List.not_mem_nil, or_false]; omega
  · simp only [List.mem_cons, List.not_mem_nil, or_false, Prod.mk.injEq]; omega
  · simp only [List.mem_cons, List.not_mem_nil, or_false]; omega
  · rw [len_app]
    exact nf_cg c1 (fun i hi => up (fun q => nI q.1) i hi)
  · rw [len_app]
    exact nf_cg c2 (fun i hi => up (fun q => nI q.2.1) i hi)
  · rw [len_app]
    exact nf_cg c3 (fun i hi => up (fun q => nI q.2.2.2.2.2.2.2) i hi)
  · rw [x14.2, x18.2]
    rw [len_app] at hj
    by_cases c : j < E.length
    · rw [gD_app c]; exact n7 j c
    · have : j = E.length := by omega
      subst this
      rw [gD_new]
      exact ⟨hs.1, hs.2, h3, h1⟩
  · intro a z1 z2; simp only [List.mem_cons, List.not_mem_nil, or_false, Prod.mk.injEq]; omega
  · intro a z1 z2; simp only [List.mem_cons, List.not_mem_nil, or_false]; omega
  · intro a z1 z2; simp only [List.mem_cons, List.not_mem_nil, or_false]; omega
  · simp only [List.mem_cons, List.not_mem_nil, or_false, Prod.mk.injEq]; omega
  · simp only [List.mem_cons, List.not_mem_nil, or_false]; omega
  · simp only [List.mem_cons, List.not_mem_nil, or_false, Prod.mk.injEq]; omega
  · simp only [List.mem_cons, List.not_mem_nil, or_false]; omega
  · simp only [List.mem_cons, List.not_mem_nil, or_false, Prod.mk.injEq]; omega
  · simp only [List.mem_cons, List.not_mem_nil, or_false]; omega
/-- the tables stay where they are not written -/
theorem RN.fr (h : RN g x l w σ0 σ X n D fa) (hM : RM g x l w X.1 σ0 σ' n' D') (fr : Fr 0 I J Rr A L σ σ') (hn : n ≤ n') (hD : ∀ i, i < n → D' i = D i) (h17 : (g, 17) ∉ I) (hA : ∀ a, g + 13 ≤ a → a ≤ g + 35 → a ∉ A) (hL : g + 16 ∉ L ∧ g + 17 ∉ L) : RN g x l w σ0 σ' X n' D' fa := by
  obtain ⟨-, h2, h3, h4, h5, h6, h7⟩ := h
  have eA := fun a z1 z2 => (fr.2.2.2.1 a (hA a z1 z2)).2
  refine ⟨hM, h2.fr hn hD (fun a ha j _ _ => by rw [eA a (by omega) (by omega)]) (fun a ha j _ _ => by rw [eA a (by omega) (by omega)]) (fun a ha j _ _ => ?_), h3, h4, by rw [fr.1 g 17 h17]; exact h5.fr hn hD, ?_, by omega⟩
  · rcases ha with rfl | rfl
    · rw [fr.2.2.2.2.1 _ hL.1]
    · rw [fr.2.2.2.2.1 _ hL.2]
  · exact CosR.mo (mc := X.2.2.length) (m := nsc X.2.2) (fun kd T a q => q.fr hn hD) (fun _ _ _ q => q) (fun a z1 z2 i _ => by rw [eA a (by omega) (by omega)]) (fun a z1 z2 i _ => by rw [eA a (by omega) (by omega)]) (fun a ha i _ => by rw [eA a (by omega) (by omega)]) (Nat.le_refl _) (Nat.le_refl _) h6
theorem NCt.fr (h : NCt σ g X) (fr : Fr 0 I J Rr A L σ σ') (hI : (g, 6) ∉ I ∧ (g, 12) ∉ I ∧ (g, 18) ∉ I ∧ (g + 30, 1) ∉ I ∧ (g + 32, 1) ∉ I ∧ (g + 34, 1) ∉ I) : NCt σ' g X := by
  obtain ⟨h1, h2, h3, h4, h5, h6, h7, h8, h9⟩ := h
  obtain ⟨z1, z2, z3, z4, z5, z6⟩ := hI
  exact ⟨(fr.1 _ _ z1).trans h1, (fr.1 _ _ z2).trans h2, (fr.1 _ _ z3).trans h3, h4, h5, h6, (fr.1 _ _ z4).trans h7, (fr.1 _ _ z5).trans h8, (fr.1 _ _ z6).trans h9⟩
theorem RN.fz (hg : g = 79 ∨ g = 115) (h : RN g x l w σ0 σ X n D fa) (hM : RM g x l w X.1 σ0 σ' n' D') (fr : FZ g σ σ') (hn : n ≤ n') (hD : ∀ i, i < n → D' i = D i) : RN g x l w σ0 σ' X n' D' fa := h.fr hM fr hn hD (by simp only [List.mem_cons, List.not_mem_nil, or_false, Prod.mk.injEq]; omega) (fun a z1 z2 => by simp only [List.mem_cons, List.not_mem_nil, or_false]; omega) (by simp)
theorem RN.fw (hg : g = 79 ∨ g = 115) (h : RN g x l w σ0 σ X n D fa) (hM : RM g x l w X.1 σ0 σ' n D) (fr : FW σ σ') : RN g x l w σ0 σ' X n D fa := h.fr hM fr (Nat.le_refl _) (fun _ _ => rfl) (by simp only [List.mem_cons, List.not_mem_nil, or_false, Prod.mk.injEq]; omega) (fun a z1 z2 => by simp only [List.mem_cons, List.not_mem_nil, or_false]; omega) (by simp only [List.mem_cons, List.not_mem_nil, or_false]; omega)
theorem NCt.fz (hg : g = 79 ∨ g = 115) (h : NCt σ g X) (fr : FZ g σ σ') : NCt σ' g X := h.fr fr (by simp only [List.mem_cons, List.not_mem_nil, or_false, Prod.mk.injEq]; omega)
theorem NCt.fw (hg : g = 79 ∨ g = 115) (h : NCt σ g X) (fr : FW σ σ') : NCt σ' g X := h.fr fr (by simp only [List.mem_cons, List.not_mem_nil, or_false, Prod.mk.injEq]; omega)
/-- the tables with one more name -/
theorem know (G : RG0 N g x l w σ0) (h : RN g x l w σ0 σ X n D fa) (hl : X.1.length + 1 ≤ 72) (hs : e.2.1 = 1 ∨ e.2.1 = 2 ∨ e.2.1 = 3) (hw : e.1 < w.length) (hfn : fnd l w X.1 e.1 = none) (h18 : e.2.1 = 3 → e.2.2.2.2.2.2.2 < 12 ∧ gE σ (g + 18) e.2.2.2.2.2.2.2 = if e.2.2.1 then 1 else 0) (h14 : e.2.1 ≠ 3 → e.2.2.2.2.2.2.2 < 60 ∧ gE σ (g + 14) e.2.2.2.2.2.2.2 = if e.2.2.1 then 1 else 0) (hok : e.2.1 = 1 → okv (if e.2.2.1 then 2 else 1) e.2.2.2.2.1) (h1 : e.2.1 = 1 → gE σ (g + 13) e.2.2.2.2.2.2.2 = 0 ∧ gL σ (g + 16) e.2.2.2.2.2.2.2 = e.2.2.2.2.1.1 ∧ gL σ (g + 17) e.2.2.2.2.2.2.2 = e.2.2.2.2.1.2) (h3 : e.2.1 = 3 → e.2.2.2.2.2.2.2 = cnt X.1 3 ∧ e.2.2.2.2.2.2.2 = e.2.2.2.2.2.2.1 ∧ gE σ (g + 19) e.2.2.2.2.2.2.2 = e.2.2.2.2.2.1.1 ∧ gE σ (g + 20) e.2.2.2.2.2.2.2 = e.2.2.2.2.2.1.2.1 ∧ gE σ (g + 21) e.2.2.2.2.2.2.2 = e.2.2.2.2.2.1.2.2) (h0 : e.2.1 ≠ 3 → e.2.2.2.2.2.2.2 = cnt X.1 1 + cnt X.1 2) (hf : ∀ j, j < X.1.length → fa' j = fa j) (h2 : e.2.1 = 2 → (gE σ (g + 13) e.2.2.2.2.2.2.2 = 1 ∧ gE σ (g + 15) e.2.2.2.2.2.2.2 = nI (fa' X.1.length)) ∧ Rt l w (Vx l w X.1) D e.2.2.2.1 (fa' X.1.length) (-1) ∧ fa' X.1.length + rln e.2.2.2.1 ≤ n ∧ Wf w e.2.2.2.1 ∧ lev e.2.2.2.1 ≤ 6 ∧ NBl l w X.1 X.1.length e.2.2.2.1 ∧ chk l w X.1 false e.2.2.2.1 = .inr (kdn e) ∧ ∀ j, j < X.1.length → (X.1.getD j eN).2.1 = 2 → fa j + rln (fTr X.1 j) ≤ fa' X.1.length) : ∃ σ', F_198 N (nI e.1) (nI e.2.1) (nI e.2.2.2.2.2.2.2) σ = some σ' ∧ RN g x l w σ0 σ' (X.1 ++ [e], X.2) n D fa' ∧ Fr 0 [(151, 1), (153, 1), (155, 1)] [] [] [152, 154, 156] [] σ σ' := by
  obtain ⟨hg, hx, -, -, -, hq, -⟩ := G
  obtain ⟨q1, q2, q3, q4, q5, q6, q7⟩ := h
  obtain ⟨σ', a1, a2, a3⟩ := F198 (N := N) (e := e) hg hx hq q1 hl (by omega) h18 h14
  have eA := fun a (z : a ∉ [152, 154, 156]) => (a3.2.2.2.1 a z).2
  have ns : NS σ g n l w (X.1 ++ [e]) fa' D := NS.app (fa := fa) q2 (fun s => by rw [rnm_new]; exact h1 s) (fun s => by rw [rnm_new]; exact h3 s) (fun s => by rw [rnm_new]; exact h0 s) hs hf (fun s => by rw [rnm_new]; exact h2 s)
  refine ⟨σ', a1, ⟨a2, ?_, Cok_app q3 hok, ⟨NW_app q4.1 hw, NU_app q4.2 hfn⟩, ?_, ?_, q7⟩, a3⟩
  · exact ns.fr (Nat.le_refl _) (fun _ _ => rfl) (fun a ha j _ _ => by rw [eA a (by simp only [List.mem_cons, List.not_mem_nil, or_false]; omega)]) (fun a ha j _ _ => by rw [eA a (by simp only [List.mem_cons, List.not_mem_nil, or_false]; omega)]) (fun a ha j _ _ => by rw [a3.2.2.2.2.1 a (by simp)])
  · rw [a3.1 g 17 (by simp only [List.mem_cons, List.not_mem_nil, or_false, Prod.mk.injEq]; omega)]
    exact q5.app hf
  · exact CosR.mo (mc := X.2.2.length) (m := nsc X.2.2) (fun kd T a q => q.app hf) (fun _ _ _ q => q.app) (fun a z1 z2 i _ => by rw [eA a (by simp only [List.mem_cons, List.not_mem_nil, or_false]; omega)]) (fun a z1 z2 i _ => by rw [eA a (by simp only [List.mem_cons, List.not_mem_nil, or_false]; omega)]) (fun a ha i _ => by rw [eA a (by simp only [List.mem_cons, List.not_mem_nil, or_false]; omega)]) (Nat.le_refl _) (Nat.le_refl _) q6
/-- a rule is made and looked at; any kind -/
theorem rm_look (G : RG N g x l w E σ0) {T : Tr} {co : Bool} (hw : Wf w T) (hl6 : lev T ≤ 6) (h : RM g x l w E σ0 σ n D) (hf : gI σ 66 16 = 0) (hn : n + rln T < 20000) : match chk l w E co T with
    | .inl e => ∃ s1 σ' n' D' v, F_168 N g x (nI (bw T)) (nI (ew T)) σ = some (nI n, s1) ∧ F_179 N g x (nI n) (if co = true then 1 else 0) s1 = some (v, σ') ∧ gI σ' 66 16 = nI e.1 ∧ gI σ' 66 17 = nI e.2 ∧ RM g x l w E σ0 σ' n' D'
    | .inr kd => ∃ s1 σ' D', F_168 N g x (nI (bw T)) (nI (ew T)) σ = some (nI n, s1) ∧ F_179 N g x (nI n) (if co = true then 1 else 0) s1 = some ((if kd = 2 then 1 else 0 : Int32), σ') ∧ gI σ' 66 16 = 0 ∧ RM g x l w E σ0 σ' (n + rln T) D' ∧ (∀ i, i < n → D' i = D i) ∧ Rt l w (Vx l w E) D' T n (-1) ∧ FZ g σ σ' := by
  have hg := G.1
  obtain ⟨s1, D1, a1, a2, a3, a4, a5⟩ := F168' G hw hl6 h.1 hn
  have hf1 : gI s1 66 16 = 0 := (a5.1 66 16 (by simp only [List.mem_cons, List.not_mem_nil, or_false, Prod.mk.injEq]; omega)).trans hf
  have K := F179 (co := co) G hw hl6 a2 hf1 a4 (Nat.le_refl _) hn
  have fz1 : FZ g σ s1 := a5.mo (by intro q z; simp only [List.mem_cons, List.not_mem_nil, or_false] at z ⊢; rcases z with z | z | z | z | z | z | z <;> simp [z]) (by simp) (by simp) (by intro q z; simp only [List.mem_cons, List.not_mem_nil, or_false] at z ⊢; omega) (by simp)
  have fz2 : ∀ {s : st_S}, FY g s1 s → FZ g σ s := fun {s} f => Fr.t0 fz1 (f.mo (by simp) (by simp) (by simp) (by intro q z; simp only [List.mem_cons, List.not_mem_nil, or_false] at z ⊢; omega) (by simp))
  cases hc : chk l w E co T with
  | inl e =>
    rw [hc] at K
    obtain ⟨s2, D2, v, k1, k2, k3, k4, k5⟩ := K
    exact ⟨s1, s2, _, D2, v, a1, k1, k2, k3, h.fz hg k4 (fz2 k5)⟩
  | inr kd =>
    rw [hc] at K
    obtain ⟨s2, D2, k1, k2, k4, k5, k6, k7⟩ := K
    exact ⟨s1, s2, D2, a1, k1, k2, h.fz hg k4 (fz2 k7), fun i hi => by rw [k5 i (Or.inl hi), a3 i hi], k6, fz2 k7⟩
end KN
