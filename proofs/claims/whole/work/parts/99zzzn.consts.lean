/-! the reference's items: consts and formulas -/
section CF
variable {N g x n k e op : Nat} {σ σ0 : st_S} {D : Nat → Nat → Int32} {w : List (Nat × Nat × Nat)} {l : List Int32} {X : Tx} {fa : Nat → Nat} {R : List (Nat × Tr)}
theorem rul_0 {E : List En} {T : Tr} : rul l w E op k [(0, T)] = match chk l w E (cOn op) T with
    | .inl e => some e
    | .inr _ => none := by
  unfold rul
  have e0 : rul l w E op k [] = none := rfl
  have e1 : ahd l w E [] 0 T = none := rfl
  have e2 : wkd l w E k 0 T = 0 := rfl
  rw [e0, e1, e2]
  dsimp only
  cases chk l w E (cOn op) T with
  | inl e => rfl
  | inr kd => exact if_pos (Or.inl rfl)
theorem RFl.st (G : RG0 N g x l w σ0) {E : List En} (h : RM g x l w E σ0 σ n D) {q f : Nat} (hq : q < w.length) : RFl g x l w σ0 (f, kP w q) ((F_159 N (nI q) σ).bind fun p => (F_165 N (nI f) p.1 p.2).bind fun r => some r) := by
  obtain ⟨σ', a1, a2, a3, a4⟩ := h.st (N := N) G.1 G.2.1 f (kP w q)
  refine ⟨σ', E, n, D, ?_, a2, a3, a4⟩
  rw [F159 h.1.2.1 hq, ob_some]
  dsimp only
  rw [a1, ob_some]
theorem F164 (G : RG0 N g x l w σ0) (h : RS g x l w σ0 σ X n D fa) (hop : op = 27 ∨ op = 28) (ho : opw op (kK w k)) (hC : Ch w op k R) (hF : Fi w op k R e) (hn : n ≤ k) : ItR g x l w σ0 (e + 1) (itk l w X op k R) (F_164 N g x (nI k) (nI e) σ) := by
  have G' := G
  obtain ⟨hg, hx, hN, h40, hwl, hq, hP, hm, hnv⟩ := G
  have h' := h
  obtain ⟨hR, hf, hc⟩ := h
  have hR' := hR
  obtain ⟨r1, r2, r3, r4, r5, r6, r7⟩ := hR
  have rg := G'.rg r4
  obtain ⟨T, rfl⟩ := one_r (r := 0) hC hF (by omega) (by rw [if_neg (by omega)])
  obtain ⟨-, hw, h6, hB⟩ := hC
  have hb : bw T = k + 3 ∧ kK w (k + 1) = 1 ∧ kK w (k + 2) = 23 := by
    rcases hB with ⟨-, h1, h2, h3, h4, h5⟩ | ⟨-, h1, -⟩ | ⟨-, h1, -⟩ | ⟨-, h1, -⟩ | ⟨-, h1, -⟩ | ⟨T', R1, h1, -⟩ | ⟨T', R1, h1, -⟩ | ⟨T', R1, h1, -⟩ | ⟨T', R1, h1, -⟩ | ⟨T', R1, h1, -⟩ | ⟨h1, -⟩
    · exact ⟨h3, h4, h5⟩
    · omega
    · omega
    · omega
    · omega
    · cases h1
    · cases h1
    · cases h1
    · cases h1
    · cases h1
    · omega
  obtain ⟨b3, k1, k2⟩ := hb
  have he : e = ew T := by
    obtain ⟨-, ⟨z, -⟩ | ⟨r, T', R1, z, hz⟩⟩ := hF
    · cases z
    · injection z with z
      injection z with z z'
      subst z z'
      rcases hz with ⟨-, q⟩ | ⟨q, -⟩ | ⟨q, -⟩
      · exact q
      · omega
      · omega
  have kl : k < w.length := kK_lt (by unfold opw at ho; omega)
  have k1l : k + 1 < w.length := kK_lt (by omega)
  have rl := rln_le hw
  have rp := rln_pos T
  obtain ⟨el, bl⟩ := ew_le hw
  obtain ⟨n6, n12, n18, b60, b12, b60', n30, n32, n34⟩ := hc
  have f162 := F162 (N := N) (k := k) r1.1.2.1 kl
  have kk : kK w k = 3 ∧ op = 27 ∨ kK w k = 6 ∧ op = 28 := by unfold opw at ho; omega
  unfold itk hdk
  rw [if_pos (by omega)]
  unfold F_164
  rw [f162, ob_some]
  dsimp only
  generalize hfb : (if nI (kK w k) = 6 then (1 : Int32) else 0) = fb
  rw [n6]
  by_cases c60 : 60 ≤ cnt X.1 1 + cnt X.1 2
  · rw [if_pos c60, show cnt X.1 1 + cnt X.1 2 = 60 by omega, if_pos (by decide)]
    exact RFl.st (f := 5) G' r1 kl
  rw [if_neg c60, if_neg (show ¬ nI (cnt X.1 1 + cnt X.1 2) = 60 from fun z => by have := (nI_eq (b := 60) (by omega) (by decide)).mp z; omega), nI_1, F166 (by omega) hP r1.1.2.2.1 r1.1.2.1 r1.1.2.2.2.1 r4.1 r4.2 k1l, ob_some]
  dsimp only
  cases hfn : fnd l w X.1 (k + 1) with
  | some j =>
    dsimp only
    have := fnd_lt hfn
    have j72 := r1.1.2.2.2.1.2.2.2.2.2.1
    rw [if_neg (show ¬ nI j < 0 from fun z => by have := (nI_lti (b := 0) (by omega) (by decide)).mp z; omega)]
    exact RFl.st (f := 2) G' r1 k1l
  | none =>
    dsimp only
    rw [if_pos (by decide), rul_0, n6]
    have e3 : nI k + 3 = nI (bw T) := by
      have := nI_add k 3
      rw [b3]
      exact this
    rw [e3, he]
    have K := rm_look (N := N) (co := cOn op) rg hw h6 r1 hf (by omega)
    have fl : (if fb = 0 then 1 else 0 : Int32) = if cOn op = true then 1 else 0 := by
      rw [← hfb]
      rcases kk with ⟨z1, z2⟩ | ⟨z1, z2⟩ <;> (rw [z1, z2]; rfl)
    rw [fl]
    cases hck : chk l w X.1 (cOn op) T with
    | inl er =>
      rw [hck] at K
      obtain ⟨s1, s2, n', D', v, a1, a2, a3, a4, a5⟩ := K
      dsimp only
      refine ⟨s2, X.1, n', D', ?_, a3, a4, a5⟩
      rw [a1, ob_some]
      dsimp only
      rw [a2, ob_some]
      dsimp only
      rw [if_neg (by rw [a3]; rcases chk_er hck with z | z <;> (rw [z]; decide))]
    | inr kd =>
      rw [hck] at K
      obtain ⟨s1, s2, D1, a1, a2, a3, a4, a5, a6, a7⟩ := K
      dsimp only
      have kd2 := (chk_3 T kd hw hck).2 h6
      have q1 : RN g x l w σ0 s2 X (n + rln T) D1 fa := hR'.fz hg a4 a7 (by omega) a5
      have c1 : NCt s2 g X := (show NCt σ g X from ⟨n6, n12, n18, b60, b12, b60', n30, n32, n34⟩).fz hg a7
      obtain ⟨l1, l2, l3', l4, l163, l164, -⟩ := a4.2.1
      have aB60 : aB (nI (cnt X.1 1 + cnt X.1 2)) 60 := aB_nI (by omega) (by decide)
      have cl : (nI (cnt X.1 1 + cnt X.1 2)).toNatClampNeg = cnt X.1 1 + cnt X.1 2 := nI_clamp (by omega)
      rw [a1, ob_some]
      dsimp only
      rw [a2, ob_some]
      dsimp only
      rw [if_pos a3, l1 (g + 13) (by omega) (by omega), l1 (g + 14) (by omega) (by omega), l1 (g + 15) (by omega) (by omega), if_pos aB60, if_pos aB60, if_pos aB60]
      simp only [cl]
      have ev : vp_nar .boolean (if kd = 2 then 1 else 0 : Int32) = if kd = 2 then 1 else 0 := by
        rcases kd2 with z | z <;> (rw [z]; rfl)
      rw [ev]
      have q2 := ((q1.e1 hg hx (r := cnt X.1 1 + cnt X.1 2) (vp_nar .boolean fb) (Or.inl rfl) rfl).e1 hg hx (r := cnt X.1 1 + cnt X.1 2) (if kd = 2 then 1 else 0 : Int32) (Or.inr (Or.inl rfl)) rfl).e1 hg hx (r := cnt X.1 1 + cnt X.1 2) (nI n) (Or.inr (Or.inr rfl)) rfl
      have e13 : ∀ (y1 y2 y3 : Int32), gE (st_e (st_e (st_e s2 (g + 13) (cnt X.1 1 + cnt X.1 2) y1) (g + 14) (cnt X.1 1 + cnt X.1 2) y2) (g + 15) (cnt X.1 1 + cnt X.1 2) y3) (g + 13) (cnt X.1 1 + cnt X.1 2) = y1 := fun y1 y2 y3 => by
        rw [gE_e, if_neg (by omega), gE_e, if_neg (by omega), gE_e, if_pos ⟨rfl, rfl⟩]
      have e14 : ∀ (y1 y2 y3 : Int32), gE (st_e (st_e (st_e s2 (g + 13) (cnt X.1 1 + cnt X.1 2) y1) (g + 14) (cnt X.1 1 + cnt X.1 2) y2) (g + 15) (cnt X.1 1 + cnt X.1 2) y3) (g + 14) (cnt X.1 1 + cnt X.1 2) = y2 := fun y1 y2 y3 => by
        rw [gE_e, if_neg (by omega), gE_e, if_pos ⟨rfl, rfl⟩]
      have e15 : ∀ (y1 y2 y3 : Int32), gE (st_e (st_e (st_e s2 (g + 13) (cnt X.1 1 + cnt X.1 2) y1) (g + 14) (cnt X.1 1 + cnt X.1 2) y2) (g + 15) (cnt X.1 1 + cnt X.1 2) y3) (g + 15) (cnt X.1 1 + cnt X.1 2) = y3 := fun y1 y2 y3 => by
        rw [gE_e, if_pos ⟨rfl, rfl⟩]
      have gi66 : ∀ (s : st_S) (v : Int32) (j : Nat), j ≠ 6 → gI (st_i s g 6 v) 66 j = gI s 66 j := fun s v j hj => by
        rw [gI_i, if_neg (fun z => hj z.2)]
      have len : X.1.length + 1 ≤ 72 := by
        have := cnt_all (E := X.1) (fun j hj => ⟨(r1.1.2.2.2.1.2.2.2.2.2.2 j hj).1, (r1.1.2.2.2.1.2.2.2.2.2.2 j hj).2.1⟩)
        omega
      have kt : (if kd = 2 then 1 else 0 : Int32) = if decide (kd = 2) = true then 1 else 0 := by
        rcases kd2 with z | z <;> (rw [z]; rfl)
      have eT2 : kdT l w X.1 (cOn op) T = decide (kd = 2) := by unfold kdT; rw [hck]
      rcases kk with ⟨z1, z2⟩ | ⟨z1, z2⟩
      · -- a const
        subst z2
        have f0 : fb = 0 := by rw [← hfb, z1]; rfl
        rw [f0] at q2 ⊢
        have y0 : vp_nar .boolean 0 = 0 := by decide
        rw [y0] at q2 ⊢
        rw [if_pos rfl]
        generalize hs3 : (st_e (st_e (st_e s2 (g + 13) (cnt X.1 1 + cnt X.1 2) 0) (g + 14) (cnt X.1 1 + cnt X.1 2) (if kd = 2 then 1 else 0)) (g + 15) (cnt X.1 1 + cnt X.1 2) (nI n)) = s3 at q2 ⊢
        have f13 : gE s3 (g + 13) (cnt X.1 1 + cnt X.1 2) = 0 := by rw [← hs3]; exact e13 _ _ _
        have f14 : gE s3 (g + 14) (cnt X.1 1 + cnt X.1 2) = if kd = 2 then 1 else 0 := by rw [← hs3]; exact e14 _ _ _
        have f16 : gI s3 66 16 = 0 := by rw [← hs3]; exact a3
        have cS : NCt s3 g X := by rw [← hs3]; exact c1
        have K := F185c rg hnv r3 q2.1 q2.2.1 f16 (by omega) hw h6 hck a6 (Nat.le_refl _)
        have fn1 : ∀ (e : En), e.1 = k + 1 → e.2.1 = 1 → e.2.2.1 = decide (kd = 2) → e.2.2.2.2.2.2.2 = cnt X.1 1 + cnt X.1 2 → ∀ s : st_S, (gE s (g + 14) (cnt X.1 1 + cnt X.1 2) = if kd = 2 then 1 else 0) → RM g x l w X.1 σ0 s (n + rln T) D1 → ∃ s', F_198 N (nI (k + 1)) 1 (nI (cnt X.1 1 + cnt X.1 2)) s = some s' ∧ RM g x l w (X.1 ++ [e]) σ0 s' (n + rln T) D1 ∧ Fr 0 [(151, 1), (153, 1), (155, 1)] [] [] [152, 154, 156] [] s s' := fun e x1 x2 x3 x4 s hs hM => by
          have := F198 (N := N) (e := e) hg hx hq hM len (by omega) (fun z => by omega) (fun _ => by rw [x3, x4]; exact ⟨by omega, hs.trans kt⟩)
          rw [x1, x2, x4] at this
          exact this
        unfold fin
        rw [if_pos rfl]
        show ItR g x l w σ0 (ew T + 1) (sbd (eT l w X.1 T) fun v => .inr (X.1 ++ [(k + 1, 1, kdT l w X.1 true T, T, v, (0, 0, 0), 0, cnt X.1 1 + cnt X.1 2)], X.2.1, X.2.2)) _
        cases hv : eT l w X.1 T with
        | inl er =>
          rw [hv] at K
          obtain ⟨s4, k3, k4, k5, k6, k7⟩ := K
          rw [sbd_l]
          obtain ⟨m1, -, -, -, m163, m164, -⟩ := k6.2.1
          have hM5 := ((k6.eL hg hx (k := cnt X.1 1 + cnt X.1 2) (gL s4 163 0) (Or.inl rfl)).eL hg hx (k := cnt X.1 1 + cnt X.1 2) (gL s4 164 0) (Or.inr rfl)).i hg hx (nI (cnt X.1 1 + cnt X.1 2 + 1)) (Or.inl ⟨rfl, Or.inl rfl⟩)
          obtain ⟨s5, u1, u2, u3⟩ := fn1 (k + 1, 1, decide (kd = 2), T, (0, 0), (0, 0, 0), 0, cnt X.1 1 + cnt X.1 2) rfl rfl rfl rfl _ (by
            show gE s4 (g + 14) (cnt X.1 1 + cnt X.1 2) = _
            rw [(k7.2.2.2.1 (g + 14) (by simp only [List.mem_cons, List.not_mem_nil, or_false]; omega)).2]
            exact f14) hM5
          refine ⟨s5, _, _, _, ?_, (u3.1 66 16 (by simp)).trans ((gi66 _ _ _ (by decide)).trans k4), (u3.1 66 17 (by simp)).trans ((gi66 _ _ _ (by decide)).trans k5), u2⟩
          rw [k3, ob_some, m163, m164, m1 (g + 16) (by omega) (by omega), m1 (g + 17) (by omega) (by omega), if_pos (by decide), if_pos aB60, if_pos (by decide), if_pos aB60]
          unfold J_164_187
          rw [if_pos rfl, nI_1, nI_1]
          have c0 : (0 : Int32).toNatClampNeg = 0 := by decide
          rw [c0, u1, ob_some]
        | inr v =>
          rw [hv] at K
          obtain ⟨ok, s4, k3, k4, k5, k6, k7, k8⟩ := K
          rw [sbd_r]
          obtain ⟨m1, -, -, -, m163, m164, -⟩ := k7.2.1
          have q4 : RN g x l w σ0 s4 X (n + rln T) D1 fa := q2.fw hg k7 k8
          have q5 := ((q4.eL hg hx (r := cnt X.1 1 + cnt X.1 2) v.1 (Or.inl rfl) rfl).eL hg hx (r := cnt X.1 1 + cnt X.1 2) v.2 (Or.inr rfl) rfl).i hg hx (nI (cnt X.1 1 + cnt X.1 2 + 1)) (Or.inl ⟨rfl, Or.inl rfl⟩)
          have ke : kdT l w X.1 true T = decide (kd = 2) := eT2
          have g14 : gE s4 (g + 14) (cnt X.1 1 + cnt X.1 2) = if kd = 2 then 1 else 0 := by
            rw [(k8.2.2.2.1 (g + 14) (by simp only [List.mem_cons, List.not_mem_nil, or_false]; omega)).2]
            exact f14
          have g13 : gE s4 (g + 13) (cnt X.1 1 + cnt X.1 2) = 0 := by
            rw [(k8.2.2.2.1 (g + 13) (by simp only [List.mem_cons, List.not_mem_nil, or_false]; omega)).2]
            exact f13
          obtain ⟨s5, u1, u2, u3⟩ := know (N := N) (fa' := fa) (e := (k + 1, 1, kdT l w X.1 true T, T, v, (0, 0, 0), 0, cnt X.1 1 + cnt X.1 2)) G' q5 len (Or.inl rfl) k1l hfn (fun z => absurd z (by show ¬ 1 = 3; decide)) (fun _ => ⟨by show cnt X.1 1 + cnt X.1 2 < 60; omega, by
            show gE s4 (g + 14) (cnt X.1 1 + cnt X.1 2) = if kdT l w X.1 true T = true then 1 else 0
            rw [g14, ke]
            exact kt⟩) (fun _ => by
            show okv (if kdT l w X.1 true T = true then 2 else 1) v
            rw [ke]
            rcases kd2 with z | z
            · rw [z] at ok ⊢; exact ok
            · rw [z] at ok ⊢; exact ok) (fun _ => ⟨g13, by
            show gL (st_E (st_E s4 (g + 16) (cnt X.1 1 + cnt X.1 2) v.1) (g + 17) (cnt X.1 1 + cnt X.1 2) v.2) (g + 16) (cnt X.1 1 + cnt X.1 2) = v.1
            rw [gL_E, if_neg (by omega), gL_E, if_pos ⟨rfl, rfl⟩], by
            show gL (st_E (st_E s4 (g + 16) (cnt X.1 1 + cnt X.1 2) v.1) (g + 17) (cnt X.1 1 + cnt X.1 2) v.2) (g + 17) (cnt X.1 1 + cnt X.1 2) = v.2
            rw [gL_E, if_pos ⟨rfl, rfl⟩]⟩) (fun z => absurd z (by show ¬ 1 = 3; decide)) (fun _ => rfl) (fun _ _ => rfl) (fun z => absurd z (by show ¬ 1 = 2; decide))
          have cF : NCt s5 g (X.1 ++ [(k + 1, 1, kdT l w X.1 true T, T, v, (0, 0, 0), 0, cnt X.1 1 + cnt X.1 2)], X.2) := by
            have c4 : NCt s4 g X := cS.fw hg k8
            obtain ⟨d1, d2, d3, d4, d5, d6, d7, d8, d9⟩ := c4
            have gi : ∀ a b, (a, b) ∉ [(151, 1), (153, 1), (155, 1)] → ¬ (a = g ∧ b = 6) → gI s5 a b = gI s4 a b := fun a b z1 z2 => by
              rw [u3.1 a b z1]
              show (if a = g ∧ b = 6 then _ else gI s4 a b) = _
              rw [if_neg z2]
            have no : ∀ a b, a < 151 → (a, b) ∉ [(151, 1), (153, 1), (155, 1)] := fun a b z => by simp only [List.mem_cons, List.not_mem_nil, or_false, Prod.mk.injEq]; omega
            have ca := cnt_app (E := X.1) (e := ((k + 1, 1, kdT l w X.1 true T, T, v, (0, 0, 0), 0, cnt X.1 1 + cnt X.1 2) : En))
            unfold NCt
            dsimp only
            rw [ca 1, ca 2, ca 3]
            dsimp only
            rw [if_pos rfl, if_neg (by decide), if_neg (by decide)]
            refine ⟨?_, (gi _ _ (no _ _ (by omega)) (by omega)).trans d2, (gi _ _ (no _ _ (by omega)) (by omega)).trans d3, by omega, by omega, d6, (gi _ _ (no _ _ (by omega)) (by omega)).trans d7, (gi _ _ (no _ _ (by omega)) (by omega)).trans d8, (gi _ _ (no _ _ (by omega)) (by omega)).trans d9⟩
            rw [u3.1 g 6 (no _ _ (by omega))]
            show (if g = g ∧ 6 = 6 then nI (cnt X.1 1 + cnt X.1 2 + 1) else _) = _
            rw [if_pos ⟨rfl, rfl⟩]
            congr 1
            omega
          refine ⟨s5, n + rln T, D1, fa, ?_, ⟨u2, (u3.1 66 16 (by simp)).trans ((gi66 _ _ _ (by decide)).trans k4), cF⟩, by omega⟩
          rw [k3, ob_some, m163, m164, m1 (g + 16) (by omega) (by omega), m1 (g + 17) (by omega) (by omega), if_pos (by decide), if_pos aB60, if_pos (by decide), if_pos aB60]
          unfold J_164_187
          rw [if_pos rfl, nI_1, nI_1]
          have c0 : (0 : Int32).toNatClampNeg = 0 := by decide
          rw [c0, k5, k6]
          have u1 : F_198 N (nI (k + 1)) 1 (nI (cnt X.1 1 + cnt X.1 2)) (st_i (st_E (st_E s4 (g + 16) (cnt X.1 1 + cnt X.1 2) v.1) (g + 17) (cnt X.1 1 + cnt X.1 2) v.2) g 6 (nI (cnt X.1 1 + cnt X.1 2 + 1))) = some s5 := u1
          rw [u1, ob_some]
      · -- a formula
        subst z2
        have f0 : fb = 1 := by rw [← hfb, z1]; rfl
        rw [f0] at q2 ⊢
        have y0 : vp_nar .boolean 1 = 1 := by decide
        rw [y0] at q2 ⊢
        rw [if_neg (show ¬ (1 : Int32) = 0 by decide)]
        generalize hs3 : (st_e (st_e (st_e s2 (g + 13) (cnt X.1 1 + cnt X.1 2) 1) (g + 14) (cnt X.1 1 + cnt X.1 2) (if kd = 2 then 1 else 0)) (g + 15) (cnt X.1 1 + cnt X.1 2) (nI n)) = s3 at q2 ⊢
        have f13 : gE s3 (g + 13) (cnt X.1 1 + cnt X.1 2) = 1 := by rw [← hs3]; exact e13 _ _ _
        have f14 : gE s3 (g + 14) (cnt X.1 1 + cnt X.1 2) = if kd = 2 then 1 else 0 := by rw [← hs3]; exact e14 _ _ _
        have f15 : gE s3 (g + 15) (cnt X.1 1 + cnt X.1 2) = nI n := by rw [← hs3]; exact e15 _ _ _
        have f16 : gI s3 66 16 = 0 := by rw [← hs3]; exact a3
        have cS : NCt s3 g X := by rw [← hs3]; exact c1
        have q5 := q2.i hg hx (nI (cnt X.1 1 + cnt X.1 2 + 1)) (Or.inl ⟨rfl, Or.inl rfl⟩)
        have ke : kdT l w X.1 false T = decide (kd = 2) := eT2
        have kdne : kdn ((k + 1, 2, kdT l w X.1 false T, T, (0, 0), (0, 0, 0), cnt X.1 2, cnt X.1 1 + cnt X.1 2) : En) = kd := by
          unfold kdn
          dsimp only
          rw [ke]
          rcases kd2 with z | z <;> (rw [z]; rfl)
        unfold fin
        rw [if_neg (by decide), if_pos rfl]
        show ItR g x l w σ0 (ew T + 1) (.inr (X.1 ++ [(k + 1, 2, kdT l w X.1 false T, T, (0, 0), (0, 0, 0), cnt X.1 2, cnt X.1 1 + cnt X.1 2)], X.2.1, X.2.2)) _
        obtain ⟨s5, u1, u2, u3⟩ := know (N := N) (fa' := upf fa X.1.length n) (e := (k + 1, 2, kdT l w X.1 false T, T, (0, 0), (0, 0, 0), cnt X.1 2, cnt X.1 1 + cnt X.1 2)) G' q5 len (Or.inr (Or.inl rfl)) k1l hfn (fun z => absurd z (by show ¬ 2 = 3; decide)) (fun _ => ⟨by show cnt X.1 1 + cnt X.1 2 < 60; omega, by
          show gE s3 (g + 14) (cnt X.1 1 + cnt X.1 2) = if kdT l w X.1 false T = true then 1 else 0
          rw [f14, ke]
          exact kt⟩) (fun z => absurd z (by show ¬ 2 = 1; decide)) (fun z => absurd z (by show ¬ 2 = 1; decide)) (fun z => absurd z (by show ¬ 2 = 3; decide)) (fun _ => rfl) (fun j hj => upf_o (by omega)) (fun _ => ⟨⟨f13, by rw [upf_s]; exact f15⟩, by rw [upf_s]; exact a6, by rw [upf_s]; exact Nat.le_refl _, hw, h6, chk_nbl hw hck, by rw [kdne]; exact hck, fun j hj sj => by
          rw [upf_s]
          exact (r2.2.2.2.1 j hj sj).2.2.1⟩)
        have cF : NCt s5 g (X.1 ++ [(k + 1, 2, kdT l w X.1 false T, T, (0, 0), (0, 0, 0), cnt X.1 2, cnt X.1 1 + cnt X.1 2)], X.2) := by
          obtain ⟨d1, d2, d3, d4, d5, d6, d7, d8, d9⟩ := cS
          have gi : ∀ a b, (a, b) ∉ [(151, 1), (153, 1), (155, 1)] → ¬ (a = g ∧ b = 6) → gI s5 a b = gI s3 a b := fun a b z1 z2 => by
            rw [u3.1 a b z1]
            show (if a = g ∧ b = 6 then _ else gI s3 a b) = _
            rw [if_neg z2]
          have no : ∀ a b, a < 151 → (a, b) ∉ [(151, 1), (153, 1), (155, 1)] := fun a b z => by simp only [List.mem_cons, List.not_mem_nil, or_false, Prod.mk.injEq]; omega
          have ca := cnt_app (E := X.1) (e := ((k + 1, 2, kdT l w X.1 false T, T, (0, 0), (0, 0, 0), cnt X.1 2, cnt X.1 1 + cnt X.1 2) : En))
          unfold NCt
          dsimp only
          rw [ca 1, ca 2, ca 3]
          dsimp only
          rw [if_neg (by decide), if_pos rfl, if_neg (by decide)]
          refine ⟨?_, (gi _ _ (no _ _ (by omega)) (by omega)).trans d2, (gi _ _ (no _ _ (by omega)) (by omega)).trans d3, by omega, by omega, d6, (gi _ _ (no _ _ (by omega)) (by omega)).trans d7, (gi _ _ (no _ _ (by omega)) (by omega)).trans d8, (gi _ _ (no _ _ (by omega)) (by omega)).trans d9⟩
          rw [u3.1 g 6 (no _ _ (by omega))]
          show (if g = g ∧ 6 = 6 then nI (cnt X.1 1 + cnt X.1 2 + 1) else _) = _
          rw [if_pos ⟨rfl, rfl⟩]
          congr 1
        refine ⟨s5, n + rln T, D1, upf fa X.1.length n, ?_, ⟨u2, (u3.1 66 16 (by simp)).trans ((gi66 _ _ _ (by decide)).trans f16), cF⟩, by omega⟩
        unfold J_164_187
        rw [if_neg (show ¬ (1 : Int32) = 0 by decide), nI_1, nI_1]
        have u1 : F_198 N (nI (k + 1)) 2 (nI (cnt X.1 1 + cnt X.1 2)) (st_i s3 g 6 (nI (cnt X.1 1 + cnt X.1 2 + 1))) = some s5 := u1
        rw [u1, ob_some]
end CF
