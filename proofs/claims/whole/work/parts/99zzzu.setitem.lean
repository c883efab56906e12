/-! the reference's items: a set, as a whole -/
/-- behind a set -/
def C7 (N g x e c b f f' pk : Nat) (σ : st_S) : Option st_S := ((F_162 N (nI pk) σ).bind fun p => L_205 N g x f' (nI c) (nI b) (nI (8 * c + b)) (if (if p.1 = 29 then 1 else 0 : Int32) = 0 then nI pk else (nI pk + 1) : Int32) (if p.1 = 29 then 1 else 0 : Int32) p.2).bind fun p => L_204 N g x f (nI e) (nI c) (p.1 + 1) p.2
section SI7
variable {N g x n k e f f' : Nat} {σ σ0 : st_S} {D : Nat → Nat → Int32} {w : List (Nat × Nat × Nat)} {l : List Int32} {X : Tx} {fa : Nat → Nat} {R0 : List (Nat × Tr)} {T : Tr} {b : Tr × List Tr} {B : List (Tr × List Tr)} {j0 : Nat}
theorem F206 (G : RG0 N g x l w σ0) (h : CmO g x l w σ0 X fa k σ n D R0 b B) (h0 : rul l w X.1 31 k R0 = none) (hC : Ch w 31 k ((7, T) :: R0)) (hj : kK w j0 = 36 ∧ kK w (j0 + 1) = 1 ∧ kK w (j0 + 2) = 38 ∧ kK w (j0 + 3) = 23 ∧ bw T = j0 + 4) (h37 : kK w (ew T) = 37) (hn : n ≤ j0) : match rul l w X.1 31 k ((7, T) :: R0) with
    | some er => ∃ σ' z n' D', F_206 N g x (nI j0) (nI (nsc X.2.2 + nsb B)) σ = some (nI z, σ') ∧ z ≤ ew T + 1 ∧ gI σ' 66 16 = nI er.1 ∧ gI σ' 66 17 = nI er.2 ∧ ¬ nI er.1 = 0 ∧ RM g x l w X.1 σ0 σ' n' D'
    | none => ∃ σ' D', F_206 N g x (nI j0) (nI (nsc X.2.2 + nsb B)) σ = some (nI (ew T + 1), σ') ∧ CmO g x l w σ0 X fa k σ' (n + rln T) D' ((7, T) :: R0) (b.1, T :: b.2) B := by
  have G' := G
  obtain ⟨hg, hx, hN, h40, hwl, hq, hP, hm, hnv⟩ := G
  obtain ⟨hb0, ⟨h1, h2, ⟨h3, h4, h5, h6, h6', hc60⟩, ⟨h7, h8, h9⟩, ⟨h10, h11⟩, ⟨ag, h12, h12'⟩, h14, h15, h16⟩, hB, hbr⟩ := h
  have w3 := h1.1.1.2.1
  have rg := G'.rg h1.2.2.2.1
  have o7 := (Ch_op hC).2.2.2.2.2.2.2.1 rfl
  obtain ⟨hC0, hw, hl6, -⟩ := hC
  obtain ⟨el, bl⟩ := ew_le hw
  have rl := rln_le hw
  have rd := hw.wd.1
  obtain ⟨j36, j1, j38, j23, jb⟩ := hj
  have j1l : j0 + 1 < w.length := kK_lt (by omega)
  have j0l : j0 < w.length := kK_lt (by omega)
  have nsE : nsb (bsr R0) = b.2.length + nsb B := by rw [hb0]; rfl
  have ebj : bw T - 3 = j0 + 1 := by omega
  have f207 : F_207 N (nI j0) σ = some (nI (ew T), σ) := by
    have p1 : Pt w 34 1 1 (j0 + 1, 1, 0) (j0 + 2, 1, 0) := pt_o (Nat.le_refl _) (by omega) (by omega) (by omega)
    have p2 : Pt w 34 1 1 (j0 + 2, 1, 0) (j0 + 3, 1, 0) := pt_o (Nat.le_refl _) (by omega) (by omega) (by omega)
    have p3 : Pt w 34 1 1 (j0 + 3, 1, 0) (j0 + 4, 1, 0) := pt_o (Nat.le_refl _) (by omega) (by omega) (by omega)
    have p4 := tr_p (w := w) (so := 34) (fl := 1) (Or.inl rfl) hw (by omega) 1 0 (Nat.le_refl _) (fun z => absurd z (by decide))
    rw [jb] at p4
    exact F207 w3 h40 (by omega) (by omega) j36 (((p1.tr p2).tr p3).tr p4) h37
  have f166 := F166 (N := N) (by omega) hP h1.1.1.2.2.1 w3 h1.1.1.2.2.2.1 h1.2.2.2.1.1 h1.2.2.2.1.2 j1l
  have ea : ahd l w X.1 R0 7 T = match fnd l w X.1 (j0 + 1) with
      | none => some (2, kP w (j0 + 1))
      | some j => if (X.1.getD j eN).2.1 ≠ 3 then some (2, kP w (j0 + 1)) else if (sts l w X.1 R0).contains j then some (4, kP w (j0 + 1)) else none := by
    unfold ahd
    rw [if_neg (by decide), if_pos rfl, ebj]
    rfl
  have wk : ∀ j, fnd l w X.1 (j0 + 1) = some j → wkd l w X.1 k 7 T = kdn (X.1.getD j eN) := fun j hj => by
    unfold wkd
    rw [if_neg (by decide), if_neg (by decide), if_neg (by decide), if_pos rfl, ebj, hj]
    rfl
  have kd12 : ∀ en : En, kdn en = 1 ∨ kdn en = 2 := fun en => by unfold kdn; cases en.2.2.1 <;> decide
  rw [rul_c h0 (fun z => by
    rw [ea] at z
    cases hfn : fnd l w X.1 (j0 + 1) with
    | none => rw [hfn] at z; cases z
    | some j => rw [wk j hfn]; have := kd12 (X.1.getD j eN); omega), ea]
  have f2 : ∀ s, RM g x l w X.1 σ0 s n D → ∀ fl : Nat, ∃ σ', (F_159 N (nI (j0 + 1)) s).bind (fun p => (F_165 N (nI fl) p.1 p.2).bind fun r => some (nI (ew T), r)) = some (nI (ew T), σ') ∧ gI σ' 66 16 = nI fl ∧ gI σ' 66 17 = nI (kP w (j0 + 1)) ∧ RM g x l w X.1 σ0 σ' n D := fun s hM fl => by
    obtain ⟨σ', a1, a2, a3, a4⟩ := hM.st (N := N) hg hx fl (kP w (j0 + 1))
    refine ⟨σ', ?_, a2, a3, a4⟩
    rw [F159 hM.1.2.1 j1l, ob_some]
    dsimp only
    rw [a1, ob_some]
  have bad2 : ∃ σ' z n' D', J_206_33 N g x (nI j0) (nI (ew T)) σ = some (nI z, σ') ∧ z ≤ ew T + 1 ∧ gI σ' 66 16 = nI 2 ∧ gI σ' 66 17 = nI (kP w (j0 + 1)) ∧ ¬ nI 2 = 0 ∧ RM g x l w X.1 σ0 σ' n' D' := by
    obtain ⟨σ', a1, a2, a3, a4⟩ := f2 σ h1.1 2
    refine ⟨σ', ew T, n, D, ?_, by omega, a2, a3, by decide, a4⟩
    unfold J_206_33
    rw [nI_1]
    exact a1
  have code : F_206 N g x (nI j0) (nI (nsc X.2.2 + nsb B)) σ = match fnd l w X.1 (j0 + 1) with
      | none => J_206_33 N g x (nI j0) (nI (ew T)) σ
      | some j => if (X.1.getD j eN).2.1 = 3 then L_206 N g x N (nI j0) (nI (ew T)) (nI (rnm X.1 j)) (nI (nsc X.2.2 + nsb B)) σ else J_206_33 N g x (nI j0) (nI (ew T)) σ := by
    unfold F_206
    rw [f207, ob_some]
    dsimp only
    rw [nI_1, f166, ob_some]
    dsimp only
    cases hfn : fnd l w X.1 (j0 + 1) with
    | none =>
      dsimp only
      rw [if_pos (by decide)]
    | some j =>
      dsimp only
      have jl := fnd_lt hfn
      obtain ⟨n1, n2, n3, n4, n5, n6, n7⟩ := h1.1.1.2.2.2.1
      have s3 := n7 j jl
      rw [if_neg (show ¬ nI j < 0 from fun z => by have := (nI_lti (b := 0) (by omega) (by decide)).mp z; omega), nf_at n2 jl, ob_some]
      dsimp only
      by_cases c : (X.1.getD j eN).2.1 = 3
      · rw [if_pos c, if_pos (by rw [c]; decide), nf_at n3 jl, ob_some]
        rfl
      · rw [if_neg c, if_neg (show ¬ nI (X.1.getD j eN).2.1 = 3 from fun z => c ((nI_eq (b := 3) (by omega) (by decide)).mp z))]
  rw [code]
  cases hfn : fnd l w X.1 (j0 + 1) with
  | none => exact bad2
  | some j =>
    dsimp only
    have jl := fnd_lt hfn
    by_cases c3 : (X.1.getD j eN).2.1 ≠ 3
    · rw [if_pos c3, if_neg c3]
      exact bad2
    have c3 : (X.1.getD j eN).2.1 = 3 := Decidable.byContradiction c3
    rw [if_neg (fun z => z c3), if_pos c3]
    have ct := sts_b (l := l) (E := X.1) hC0 (show bsr R0 = (b.1, b.2) :: B from hb0) o7
    have mem := st_mem (j := j) h1.2.1 jl c3 h6' hbr.2.2.2
    have tot : gI σ (g + 30) 1 = nI (nsc X.2.2 + nsb B + b.2.length) := by rw [h7, nsE]; congr 1; omega
    rw [ct]
    by_cases cm : (b.2.map fun T => (fnd l w X.1 (bw T - 3)).getD 0).contains j = true
    · rw [if_pos cm]
      dsimp only
      obtain ⟨N', hN'⟩ : ∃ N', N = N' + 1 := ⟨N - 1, by omega⟩
      have L := L206y (N := N) (z := ew T) h1.1 j1l tot (by omega) b.2.length (nsc X.2.2 + nsb B) N' (by omega) (mem.mpr cm) (by omega)
      rw [← hN'] at L
      obtain ⟨σ', a1, a2, a3, a4⟩ := h1.1.st (N := N) hg hx 4 (kP w (j0 + 1))
      refine ⟨σ', ew T, n, D, ?_, by omega, a2, a3, by decide, a4⟩
      rw [L]
      have a1 : F_165 N 4 (nI (kP w (j0 + 1))) σ = some σ' := a1
      rw [a1, ob_some]
    rw [if_neg cm]
    dsimp only
    rw [wk j hfn]
    have L := L206n (N := N) (l1 := nI j0) (l3 := nI (ew T)) (v := rnm X.1 j) h1.1 tot (by omega) b.2.length (nsc X.2.2 + nsb B) (N - b.2.length) (Nat.le_refl _) (fun q hq z => cm (mem.mp ⟨q, hq, z⟩))
    rw [show N - b.2.length + b.2.length = N by omega] at L
    rw [L]
    obtain ⟨N', hN'⟩ : ∃ N', N - b.2.length = N' + 1 := ⟨N - b.2.length - 1, by omega⟩
    have hv := (h1.2.1.2.1 j jl c3).1
    have aV : aB (nI (rnm X.1 j)) 12 := aB_nI (by omega) (by decide)
    have cV : (nI (rnm X.1 j)).toNatClampNeg = rnm X.1 j := nI_clamp (by omega)
    have tr : gE σ (g + 18) (rnm X.1 j) = if kdn (X.1.getD j eN) = 2 then 1 else 0 := by
      have := ((h1.1.1.2.2.2.1.2.2.2.2.2.2 j jl).2.2.1 c3).2
      have this : gE σ (g + 18) (rnm X.1 j) = if (X.1.getD j eN).2.2.1 = true then 1 else 0 := this
      rw [this]
      unfold kdn
      cases (X.1.getD j eN).2.2.1 <;> rfl
    have e4 : nI j0 + 4 = nI (bw T) := by rw [jb]; exact nI_add j0 4
    have K := rm_rule (N := N) (co := false) (kw := kdn (X.1.getD j eN)) rg (kd12 _) hw hl6 h1.1 h2 (by omega)
    have last : ∀ (s1 : st_S) (n' : Nat) (D' : Nat → Nat → Int32) (r : Int32), F_201 N g x (nI (bw T)) (nI (ew T)) (if kdn (X.1.getD j eN) = 2 then 1 else 0) 0 σ = some (r, s1) → RM g x l w X.1 σ0 s1 n' D' → FZ g σ s1 → ∃ s4, L_206 N g x (N - b.2.length) (nI j0) (nI (ew T)) (nI (rnm X.1 j)) (nI (nsc X.2.2 + nsb B + b.2.length)) σ = some (nI (ew T + 1), s4) ∧ RM g x l w X.1 σ0 s4 n' D' ∧ Fr 0 [(g + 30, 1), (g + 32, 1), (g + 34, 1)] [] [] [g + 31, g + 33, g + 35] [] s1 s4 ∧ (gI s4 (g + 30) 1 = nI (nsc X.2.2 + nsb B + b.2.length + 1) ∧ gI s4 (g + 32) 1 = nI (nsc X.2.2 + nsb B + b.2.length + 1) ∧ gI s4 (g + 34) 1 = nI (nsc X.2.2 + nsb B + b.2.length + 1)) ∧ (gE s4 (g + 31) (nsc X.2.2 + nsb B + b.2.length) = nI (rnm X.1 j) ∧ gE s4 (g + 33) (nsc X.2.2 + nsb B + b.2.length) = nI (kP w j0) ∧ gE s4 (g + 35) (nsc X.2.2 + nsb B + b.2.length) = r) ∧ ∀ a, a = g + 31 ∨ a = g + 33 ∨ a = g + 35 → ∀ i, i < nsc X.2.2 + nsb B + b.2.length → gE s4 a i = gE s1 a i := by
      intro s1 n' D' r hr hM1 fz
      have eI : ∀ a, a = g + 30 ∨ a = g + 32 ∨ a = g + 34 → gI s1 a 1 = gI σ a 1 := fun a z => fz.1 a 1 (by clear mem; simp only [List.mem_cons, List.not_mem_nil, or_false, Prod.mk.injEq]; omega)
      have en : nsc X.2.2 + nsb (bsr R0) = nsc X.2.2 + nsb B + b.2.length := by omega
      obtain ⟨u1, u2, u3, p1, p2, p3, p4, p5, p6, p7, p8, p9⟩ := hM1.pu3 (N := N) hg hx hq (m := nsc X.2.2 + nsb B + b.2.length) (by rw [eI _ (by omega), h7, en]) (by rw [eI _ (by omega), h8, en]) (by rw [eI _ (by omega), h9, en]) (by omega) (nI (rnm X.1 j)) (nI (kP w j0)) r
      refine ⟨u3, ?_, p5, p6, p7, p8, p9⟩
      rw [hN']
      unfold L_206
      rw [tot, if_pos ((nI_lei (by omega) (by omega)).mpr (Nat.le_refl _)), h1.1.2.1.2.1 (g + 18) (by omega) (by omega), if_pos aV]
      simp only [cV]
      rw [tr, e4, hr, ob_some]
      dsimp only
      rw [p1, ob_some, F159 p4 j0l, ob_some]
      dsimp only
      rw [p2, ob_some, p3, ob_some, nI_1]
    cases hr : rok l w X.1 false (kdn (X.1.getD j eN)) T with
    | inl er =>
      rw [hr] at K
      obtain ⟨s1, n', D', a1, a2, a3, a4, a5⟩ := K
      obtain ⟨s4, q1, q2, q3, -⟩ := last s1 n' D' _ a1 a4 a5
      show ∃ σ' z n' D', _
      exact ⟨s4, ew T + 1, n', D', q1, Nat.le_refl _, (q3.1 66 16 (by simp only [List.mem_cons, List.not_mem_nil, or_false, Prod.mk.injEq]; omega)).trans a2, (q3.1 66 17 (by simp only [List.mem_cons, List.not_mem_nil, or_false, Prod.mk.injEq]; omega)).trans a3, rok_e hr, q2⟩
    | inr kd =>
      rw [hr] at K
      have hkd := rok_k hr
      rw [hkd] at hr
      obtain ⟨s1, D1, a1, a2, a3, a4, a5, a6⟩ := K
      obtain ⟨s4, q1, q2, q3, q4, q5, q6⟩ := last s1 _ D1 _ a1 a3 a6
      show ∃ σ' D', _
      refine ⟨s4, D1, q1, ?_⟩
      have ru : RuR l w X.1 fa D1 (n + rln T) (kdn (X.1.getD j eN)) T n := rur_new h1.2.1 hw hl6 hr a5
      have cb : CmB g x l w σ0 X fa k σ n D R0 B.length := ⟨h1, h2, ⟨h3, h4, h5, h6, h6', hc60⟩, ⟨h7, h8, h9⟩, ⟨h10, h11⟩, ⟨ag, h12, h12'⟩, h14, h15, h16⟩
      obtain ⟨e1, e2, ⟨e3, e4', e5, e6, e6', e60⟩, ⟨e7, e8, e9⟩, ⟨e10, e11⟩, ⟨ag', e12, e12'⟩, e14, e15, e16⟩ := cb.fz hg a3 a6 (by omega) a4 a2
      have B2 := hB.fz hg a6 (n' := n + rln T) (by omega) a4
      have br2 := hbr.fz hg a6 (n' := n + rln T) (by omega) a4
      have gi : ∀ a i, a = g ∨ a = 66 → gI s4 a i = gI s1 a i := fun a i z => q3.1 a i (by clear mem; simp only [List.mem_cons, List.not_mem_nil, or_false, Prod.mk.injEq]; omega)
      have ge : ∀ a, a ≠ g + 31 → a ≠ g + 33 → a ≠ g + 35 → gE s4 a = gE s1 a := fun a z1 z2 z3 => (q3.2.2.2.1 a (by simp only [List.mem_cons, List.not_mem_nil, or_false]; omega)).2
      have b7 : bsr ((7, T) :: R0) = (b.1, T :: b.2) :: B := by
        show (if 7 = 6 then _ else if 7 = 7 then (match bsr R0 with
          | [] => []
          | (c, S) :: B => (c, T :: S) :: B) else _) = _
        rw [if_neg (by decide), if_pos rfl, hb0]
      have nb7 : nsb (bsr ((7, T) :: R0)) = nsb B + b.2.length + 1 := by
        rw [b7, nsb_c]
        show b.2.length + 1 + nsb B = _
        omega
      have rn : RN g x l w σ0 s4 X (n + rln T) D1 fa := by
        obtain ⟨r1, r2, r3, r4, r5, r6, r7⟩ := e1
        refine ⟨q2, r2.fr (Nat.le_refl _) (fun _ _ => rfl) (fun a ha j _ _ => by rw [ge a (by omega) (by omega) (by omega)]) (fun a ha j _ _ => by rw [ge a (by omega) (by omega) (by omega)]) (fun a ha j _ _ => by rw [q3.2.2.2.2.1 a (by simp)]), r3, r4, by rw [gi _ _ (Or.inl rfl)]; exact r5, ?_, r7⟩
        exact CosR.mo (mc := X.2.2.length) (m := nsc X.2.2) (fun kd T a q => q) (fun _ _ _ q => q) (fun a z1 z2 i _ => by rw [ge a (by omega) (by omega) (by omega)]) (fun a z1 z2 i _ => by rw [ge a (by omega) (by omega) (by omega)]) (fun a ha i hi => q6 a ha i (by omega)) (Nat.le_refl _) (Nat.le_refl _) r6
      have tot7 : nsc X.2.2 + nsb (bsr ((7, T) :: R0)) = nsc X.2.2 + nsb B + b.2.length + 1 := by rw [nb7]; omega
      have rp := rln_pos T
      refine ⟨b7, ⟨rn, (gi _ _ (Or.inr rfl)).trans e2, ⟨(gi _ _ (Or.inl rfl)).trans e3, (gi _ _ (Or.inl rfl)).trans e4', (gi _ _ (Or.inl rfl)).trans e5, e6, e6', e60⟩, ⟨by rw [tot7]; exact q4.1, by rw [tot7]; exact q4.2.1, by rw [tot7]; exact q4.2.2⟩, ⟨by rw [ge _ (by omega) (by omega) (by omega)]; exact e10, by rw [ge _ (by omega) (by omega) (by omega)]; exact e11⟩, ⟨ag', by rw [ge _ (by omega) (by omega) (by omega)]; exact e12, e12'⟩, by rw [ge _ (by omega) (by omega) (by omega)]; exact e14, by rw [tot7]; omega, by rw [b7]; rw [hb0] at h16; exact h16⟩, ?_, ?_⟩
      · exact BrsR.mo (mb := 8 * X.2.2.length + B.length) (m := nsc X.2.2 + nsb B) (fun kd T a q => q) (fun _ _ _ q => q) (fun a z1 z2 i hi => by rw [ge a (by omega) (by omega) (by omega)]) (fun a ha i hi => q6 a ha i (by omega)) (Nat.le_refl _) (Nat.le_refl _) B2
      · have br3 := BrR.mo (m := nsc X.2.2 + nsb B + b.2.length) (tb' := gE s4) (P' := RuR l w X.1 fa D1 (n + rln T)) (VN' := VNm l w X.1) br2 (fun kd T a q => q) (fun _ _ _ q => q) (fun a z1 z2 => by rw [ge a (by omega) (by omega) (by omega)]) (fun a ha i hi => q6 a ha i hi) (Nat.le_refl _)
        obtain ⟨y1, y2, y3, y4⟩ := br3
        refine ⟨y1, y2, y3, y4, n, kdn (X.1.getD j eN), ⟨j, by rw [ebj]; exact hfn, c3, q5.1, rfl⟩, ?_, q5.2.2, ru⟩
        rw [show bw T - 4 = j0 by omega]
        exact q5.2.1
/-- a set, in the loop over sets -/
theorem st7 (G : RG0 N g x l w σ0) (h : CmO g x l w σ0 X fa k σ n D R0 b B) (h0 : rul l w X.1 31 k R0 = none) (hC : Ch w 31 k ((7, T) :: R0)) (hj : kK w j0 = 36 ∧ kK w (j0 + 1) = 1 ∧ kK w (j0 + 2) = 38 ∧ kK w (j0 + 3) = 23 ∧ bw T = j0 + 4) (h37 : kK w (ew T) = 37) (hn : n ≤ j0) (he : ew T < e) (hel : e < w.length) : match rul l w X.1 31 k ((7, T) :: R0) with
    | some er => RFl g x l w σ0 er ((L_205 N g x (f' + 1 + 1) (nI X.2.2.length) (nI B.length) (nI (8 * X.2.2.length + B.length)) (nI j0) 1 σ).bind fun p => L_204 N g x (f + 1) (nI e) (nI X.2.2.length) (p.1 + 1) p.2)
    | none => ∃ σ' D', ((L_205 N g x (f' + 1 + 1) (nI X.2.2.length) (nI B.length) (nI (8 * X.2.2.length + B.length)) (nI j0) 1 σ).bind fun p => L_204 N g x (f + 1) (nI e) (nI X.2.2.length) (p.1 + 1) p.2) = C7 N g x e X.2.2.length B.length (f + 1) (f' + 1) (ew T + 1) σ' ∧ CmO g x l w σ0 X fa k σ' (n + rln T) D' ((7, T) :: R0) (b.1, T :: b.2) B := by
  have K := F206 G h h0 hC hj h37 hn
  obtain ⟨hb0, ⟨h1, h2, ⟨h3, h4, h5, h6, h6', hc60⟩, -, -, -, h14, h15, h16⟩, hB, hbr⟩ := h
  have hb8 : B.length + 1 ≤ 8 := by rw [hb0] at h16; exact h16
  obtain ⟨-, -, l3, l4, -⟩ := h1.1.2.1
  have aA : aB (nI (8 * X.2.2.length + B.length)) 480 := aB_nI (by omega) (by decide)
  have cA : (nI (8 * X.2.2.length + B.length)).toNatClampNeg = 8 * X.2.2.length + B.length := nI_clamp (by omega)
  have first : gE σ (g + 28) (8 * X.2.2.length + B.length) = nI (nsc X.2.2 + nsb B) := hbr.2.2.1
  have step : L_205 N g x (f' + 1 + 1) (nI X.2.2.length) (nI B.length) (nI (8 * X.2.2.length + B.length)) (nI j0) 1 σ = (F_206 N g x (nI j0) (nI (nsc X.2.2 + nsb B)) σ).bind fun p_16 => (F_162 N p_16.1 (p_16.2)).bind fun p_17 => L_205 N g x (f' + 1) (nI X.2.2.length) (nI B.length) (nI (8 * X.2.2.length + B.length)) (if (if p_17.1 = 29 then 1 else 0 : Int32) = 0 then p_16.1 else (p_16.1 + 1) : Int32) (if p_17.1 = 29 then 1 else 0 : Int32) (p_17.2) := by
    conv => lhs; unfold L_205
    rw [if_neg (by decide), if_pos h2, l4 (g + 28) (by omega) (by omega), if_pos aA]
    simp only [cA]
    rw [first]
  rw [step]
  cases hr : rul l w X.1 31 k ((7, T) :: R0) with
  | some er =>
    rw [hr] at K
    obtain ⟨σ', z, n', D', k1, k2, k3, k4, k5, k6⟩ := K
    dsimp only
    rw [k1, ob_some]
    dsimp only
    rw [F162 k6.1.2.1 (show z < w.length by omega), ob_some]
    dsimp only
    exact L205f G k6 k3 k5 k4 hc60 (by omega)
  | none =>
    rw [hr] at K
    obtain ⟨σ', D', k1, k2⟩ := K
    refine ⟨σ', D', ?_, k2⟩
    rw [k1, ob_some]
    rfl
end SI7
