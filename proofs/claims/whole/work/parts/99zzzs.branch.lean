/-! the reference's items: a branch of a command -/
/-- the words behind rules of a command -/
def A33 (w : List (Nat × Nat × Nat)) : List (Nat × Tr) → Prop
  | [] => True
  | (r, T) :: R => A33 w R ∧ (r = 5 → kK w (ew T) = 17) ∧ (r = 6 → kK w (ew T) = 33) ∧ (r = 7 → kK w (ew T) = 37)
/-- behind a chance -/
def C6 (N g x e c b f pc : Nat) (σ : st_S) : Option st_S := ((F_162 N (nI pc) σ).bind fun p => if p.1 = 10 then J_205_195 N g x (nI c) (nI b) (nI (8 * c + b)) (nI pc + 1) p.2 else L_205 N g x N (nI c) (nI b) (nI (8 * c + b)) (nI pc) 1 p.2).bind fun p => L_204 N g x f (nI e) (nI c) (p.1 + 1) p.2
section BC
variable {N g x n k e f : Nat} {σ σ0 : st_S} {D : Nat → Nat → Int32} {w : List (Nat × Nat × Nat)} {l : List Int32} {X : Tx} {fa : Nat → Nat} {R0 : List (Nat × Tr)} {T : Tr}
theorem A33_t : ∀ {R : List (Nat × Tr)} {r : Nat} {T : Tr}, Ch w 31 k ((r, T) :: R) → A33 w R := by
  intro R
  induction R with
  | nil => intro r T _; trivial
  | cons y R ih =>
    obtain ⟨r', T'⟩ := y
    intro r T h
    obtain ⟨hC, hw, h6, hB⟩ := h
    refine ⟨ih hC, ?_⟩
    have o := Ch_op hC
    rcases hB with ⟨h1, -⟩ | ⟨h1, -⟩ | ⟨h1, -⟩ | ⟨h1, -⟩ | ⟨h1, -⟩ | ⟨T1, R1, h1, h2, h3, h4⟩ | ⟨T1, R1, h1, h2, h3, h4⟩ | ⟨T1, R1, h1, h2, h3, h4⟩ | ⟨T1, R1, h1, h2, h3, h4, h5, h7⟩ | ⟨T1, R1, h1, h2, h3, h4, h5⟩ | ⟨h2, j0, h1, h3, h4, h5, h7, h8⟩
    · cases h1
    · cases h1
    · cases h1
    · cases h1
    · cases h1
    · injection h1 with h1
      injection h1 with h1 h1'
      omega
    · injection h1 with h1
      injection h1 with h1 h1'
      omega
    · injection h1 with h1
      injection h1 with h1 h1'
      subst h1'
      exact ⟨fun _ => h3, fun z => by omega, fun z => by omega⟩
    · injection h1 with h1
      injection h1 with h1 h1'
      subst h1'
      exact ⟨fun z => by omega, fun _ => h3, fun z => by omega⟩
    · injection h1 with h1
      injection h1 with h1 h1'
      subst h1'
      exact ⟨fun z => by omega, fun z => by omega, fun _ => h3⟩
    · rcases h1 with ⟨z1, z2, z3⟩ | ⟨z1, z2, z3, z4⟩
      · exact ⟨fun z => by omega, fun _ => z2, fun z => by omega⟩
      · exact ⟨fun z => by omega, fun z => by omega, fun _ => z2⟩
theorem A33_a {R : List (Nat × Tr)} (hC : Ch w 31 k R) (hF : Fi w 31 k R e) : A33 w R := by
  obtain ⟨-, ⟨-, z, -⟩ | ⟨r, T, R1, rfl, hF⟩⟩ := hF
  · omega
  · refine ⟨A33_t hC, ?_⟩
    have o := Ch_op hC
    rcases hF with ⟨h1, h2⟩ | ⟨h1, h2, h3, h4⟩ | ⟨h1, h2, h3⟩
    · omega
    · exact ⟨fun z => by omega, fun _ => h2, fun z => by omega⟩
    · exact ⟨fun z => by omega, fun z => by omega, fun _ => h2⟩
theorem bsr_len : ∀ {R : List (Nat × Tr)}, Ch w 31 k R → (bsr R).length = brs R := by
  intro R
  induction R with
  | nil => intro _; rfl
  | cons y R ih =>
    obtain ⟨r, T⟩ := y
    intro h
    have i := ih h.1
    have o := Ch_op h
    show (if r = 6 then (T, []) :: bsr R else if r = 7 then (match bsr R with
    | [] => []
    | (c, S) :: B => (c, T :: S) :: B) else bsr R).length = if r = 6 then brs R + 1 else brs R
    by_cases c6 : r = 6
    · rw [if_pos c6, if_pos c6, List.length_cons, i]
    · rw [if_neg c6, if_neg c6]
      by_cases c7 : r = 7
      · rw [if_pos c7]
        cases hb : bsr R with
        | nil => rw [hb] at i; exact i
        | cons y B => obtain ⟨c, S⟩ := y; rw [hb] at i; exact i
      · rw [if_neg c7, i]
/-- one more rule -/
theorem rul_c {E : List En} {r : Nat} {T : Tr} (h0 : rul l w E 31 k R0 = none) (hw0 : ahd l w E R0 r T = none → wkd l w E k r T ≠ 0) : rul l w E 31 k ((r, T) :: R0) = match ahd l w E R0 r T with
    | some e => some e
    | none => orE none (rok l w E false (wkd l w E k r T) T) := by
  conv => lhs; unfold rul
  rw [h0]
  dsimp only
  cases ha : ahd l w E R0 r T with
  | some e => rfl
  | none =>
    dsimp only
    unfold rok orE
    have h0 := hw0 ha
    show (match chk l w E false T with
      | .inl e => some e
      | .inr kd => if wkd l w E k r T = 0 ∨ kd = wkd l w E k r T then none else some (3, kP w (bw T))) = _
    cases chk l w E false T with
    | inl e => rfl
    | inr kd =>
      dsimp only
      by_cases c : kd = wkd l w E k r T
      · rw [if_pos (Or.inr c), if_pos c]
      · rw [if_neg (fun z => z.elim h0 c), if_neg c]
theorem nI_8 (c b : Nat) : 8 * nI c + nI b = nI (8 * c + b) := by
  have h : 8 * nI c = nI (8 * c) := (Int32.ofNat_mul 8 c).symm
  rw [h]
  exact nI_add _ _
/-- a rule that is made, looked at and found right -/
theorem rur_new {fa : Nat → Nat} {E : List En} {kw : Nat} {D' : Nat → Nat → Int32} (hS : NS σ g n l w E fa D) (hw : Wf w T) (h6 : lev T ≤ 6) (hr : rok l w E false kw T = .inr kw) (hR : Rt l w (Vx l w E) D' T n (-1)) : RuR l w E fa D' (n + rln T) kw T n :=
  ⟨hw, h6, hR, Nat.le_refl _, rok_i hr, E.length, Nat.le_refl _, chk_nbl hw (rok_i hr), fun j hj s => (hS.2.2.2.1 j hj s).2.2.1⟩
theorem rok_k {E : List En} {co : Bool} {kw kd : Nat} (h : rok l w E co kw T = .inr kd) : kd = kw := by
  unfold rok at h
  cases hc : chk l w E co T with
  | inl e => rw [hc] at h; cases h
  | inr k' =>
    rw [hc] at h
    dsimp only at h
    by_cases c : k' = kw
    · rw [if_pos c] at h; injection h with h; omega
    · rw [if_neg c] at h; cases h
/-- a branch is opened -/
theorem st6 (G : RG0 N g x l w σ0) (h : CmC g x l w σ0 X fa k σ n D R0) (h0 : rul l w X.1 31 k R0 = none) (hC : Ch w 31 k ((6, T) :: R0)) (h33 : kK w (ew T) = 33) (he : ew T < e) (hel : e < w.length) (hn : n ≤ bw T) : match rul l w X.1 31 k ((6, T) :: R0) with
    | some er => RFl g x l w σ0 er (L_204 N g x (f + 1 + 1) (nI e) (nI X.2.2.length) (nI (bw T)) σ)
    | none => ∃ σ' D', L_204 N g x (f + 1 + 1) (nI e) (nI X.2.2.length) (nI (bw T)) σ = C6 N g x e X.2.2.length (bsr R0).length (f + 1) (ew T + 1) σ' ∧ CmO g x l w σ0 X fa k σ' (n + rln T) D' ((6, T) :: R0) (T, []) (bsr R0) := by
  have G' := G
  obtain ⟨hg, hx, hN, h40, hwl, hq, hP, hm, hnv⟩ := G
  have hcm := h
  obtain ⟨⟨h1, h2, ⟨h3, h4, h5, h6, h6', hc60⟩, ⟨h7, h8, h9⟩, ⟨h10, h11⟩, hga, h14, h15, h16⟩, hB⟩ := h
  have w3 := h1.1.1.2.1
  have rg := G'.rg h1.2.2.2.1
  obtain ⟨hC0, hw, hl6, -⟩ := hC
  obtain ⟨el, bl⟩ := ew_le hw
  have rl := rln_le hw
  have rd := hw.wd.1
  have bl8 := bsr_len hC0
  obtain ⟨-, -, l3, l4, -⟩ := h1.1.2.1
  have aC : aB (nI X.2.2.length) 60 := aB_nI hc60 (by decide)
  have cC : (nI X.2.2.length).toNatClampNeg = X.2.2.length := nI_clamp (by omega)
  have w1 : wkd l w X.1 k 6 T = 1 := by unfold wkd; rw [if_pos (by omega)]
  have ea : ahd l w X.1 R0 6 T = if 8 ≤ brs R0 then some (5, kP w (bw T)) else none := by unfold ahd; rw [if_pos rfl]
  rw [rul_c h0 (fun _ => by rw [w1]; decide), ea, w1]
  have step : L_204 N g x (f + 1 + 1) (nI e) (nI X.2.2.length) (nI (bw T)) σ = (F_205 N g x (nI X.2.2.length) (nI (bw T)) (nI e) σ).bind fun p => L_204 N g x (f + 1) (nI e) (nI X.2.2.length) (p.1 + 1) p.2 := by
    conv => lhs; unfold L_204
    rw [if_pos h2, if_neg (fun z => by have := (nI_lei (by omega) (by omega)).mp z; omega)]
  rw [step]
  by_cases c8 : 8 ≤ brs R0
  · rw [if_pos c8]
    dsimp only
    have e8 : (bsr R0).length = 8 := by omega
    obtain ⟨σ', a1, a2, a3, a4⟩ := h1.1.st (N := N) hg hx 5 (kP w (bw T))
    have f5 : F_205 N g x (nI X.2.2.length) (nI (bw T)) (nI e) σ = some (nI e, σ') := by
      unfold F_205
      rw [l3 (g + 25) (by omega) (by omega), if_pos aC]
      simp only [cC]
      rw [h14, e8, if_pos (by decide), F159 w3 bl, ob_some]
      dsimp only
      have a1 : F_165 N 5 (nI (kP w (bw T))) σ = some σ' := a1
      rw [a1, ob_some]
    rw [f5, ob_some]
    exact L204f (er := (5, kP w (bw T))) G' a4 a2 (by show ¬ nI 5 = 0; decide) a3
  rw [if_neg c8]
  dsimp only
  have b8 : (bsr R0).length < 8 := by omega
  have aA : aB (nI (8 * X.2.2.length + (bsr R0).length)) 480 := aB_nI (by omega) (by decide)
  have cA : (nI (8 * X.2.2.length + (bsr R0).length)).toNatClampNeg = 8 * X.2.2.length + (bsr R0).length := nI_clamp (by omega)
  have f163 : F_163 N (nI (bw T)) 33 σ = some (nI (ew T), σ) := F163 (N := N) (so := 33) (fl := 0) (m := ew T - bw T) (k := bw T) (k' := ew T) (a' := 0) w3 h40 (by decide) (by decide) (by omega) (by omega) (tr_p (Or.inr (Or.inr (Or.inr rfl))) hw (by omega) 0 0 (Nat.le_refl _) (fun _ => Or.inr (Int.le_refl _))) (by decide) (by decide) h33
  have K := rm_rule (N := N) (co := false) (kw := 1) rg (Or.inl rfl) hw hl6 h1.1 h2 (by omega)
  -- the code of a branch
  have f5 : ∀ (s1 : st_S) (r : Int32), F_201 N g x (nI (bw T)) (nI (ew T)) 0 0 σ = some (r, s1) → W3 s1 w → RLn s1 g → F_205 N g x (nI X.2.2.length) (nI (bw T)) (nI e) σ = (F_162 N (nI (ew T + 1)) (st_e (st_e (st_e s1 (g + 26) (8 * X.2.2.length + (bsr R0).length) r) (g + 27) (8 * X.2.2.length + (bsr R0).length) (nI (kP w (bw T)))) (g + 28) (8 * X.2.2.length + (bsr R0).length) (gI s1 (g + 30) 1))).bind fun p => if p.1 = 10 then J_205_195 N g x (nI X.2.2.length) (nI (bsr R0).length) (nI (8 * X.2.2.length + (bsr R0).length)) (nI (ew T + 1) + 1) p.2 else L_205 N g x N (nI X.2.2.length) (nI (bsr R0).length) (nI (8 * X.2.2.length + (bsr R0).length)) (nI (ew T + 1)) 1 p.2 := by
    intro s1 r hr hw3 hl1
    obtain ⟨-, -, -, m4, -⟩ := hl1
    have w3' : W3 (st_e s1 (g + 26) (8 * X.2.2.length + (bsr R0).length) r) w := hw3.fr (Fr.e (A := [g + 26]) (L := []) (I := []) (J := []) (R := []) s1 _ _ (by simp)) (by simp) (fun a z1 z2 => by simp only [List.mem_cons, List.not_mem_nil, or_false]; omega)
    unfold F_205
    rw [l3 (g + 25) (by omega) (by omega), if_pos aC]
    simp only [cC]
    rw [h14, if_neg (show ¬ nI (bsr R0).length = 8 from fun z => by have := (nI_eq (b := 8) (by omega) (by decide)).mp z; omega), f163, ob_some]
    dsimp only
    rw [hr, ob_some]
    dsimp only
    rw [nI_8, m4 (g + 26) (by omega) (by omega), if_pos aA]
    simp only [cA]
    rw [F159 w3' bl, ob_some]
    dsimp only
    have gN1 : gN (st_e s1 (g + 26) (8 * X.2.2.length + (bsr R0).length) r) = gN s1 := rfl
    have gI1 : gI (st_e s1 (g + 26) (8 * X.2.2.length + (bsr R0).length) r) = gI s1 := rfl
    rw [gN1, gI1, m4 (g + 27) (by omega) (by omega), m4 (g + 28) (by omega) (by omega), if_pos aA, if_pos aA, nI_1]
  cases hr : rok l w X.1 false 1 T with
  | inl er =>
    rw [hr] at K
    obtain ⟨s1, n', D', a1, a2, a3, a4, a5⟩ := K
    have a1 : F_201 N g x (nI (bw T)) (nI (ew T)) 0 0 σ = some (nI n, s1) := a1
    show RFl g x l w σ0 er _
    have z := rok_e hr
    have hM2 := ((a4.e hg hx (a := g + 26) (k := 8 * X.2.2.length + (bsr R0).length) (nI n) (by omega)).e hg hx (a := g + 27) (k := 8 * X.2.2.length + (bsr R0).length) (nI (kP w (bw T))) (by omega)).e hg hx (a := g + 28) (k := 8 * X.2.2.length + (bsr R0).length) (gI s1 (g + 30) 1) (by omega)
    have pcl : ew T + 1 < w.length := by omega
    rw [f5 s1 _ a1 a4.1.2.1 a4.2.1, F162 hM2.1.2.1 pcl, ob_some]
    dsimp only
    by_cases c10 : nI (kK w (ew T + 1)) = 10
    · rw [if_pos c10]
      exact J205f G' hM2 a2 z a3 hc60 (by omega)
    · rw [if_neg c10]
      obtain ⟨N', hN'⟩ : ∃ N', N = N' + 1 := ⟨N - 1, by omega⟩
      have := L205f (N := N) (f := f) (f' := N') G' hM2 a2 z a3 hc60 (show 8 * X.2.2.length + (bsr R0).length < 480 by omega) (y1 := nI e) (y2 := nI X.2.2.length) (y4 := nI (bsr R0).length) (y7 := nI (ew T + 1)) (y8 := 1)
      rw [← hN'] at this
      exact this
  | inr kd =>
    rw [hr] at K
    have kd1 := rok_k hr
    subst kd1
    obtain ⟨s1, D1, a1, a2, a3, a4, a5, a6⟩ := K
    have a1 : F_201 N g x (nI (bw T)) (nI (ew T)) 0 0 σ = some (nI n, s1) := a1
    show ∃ σ' D', _
    have q1 := hcm.1.fz hg a3 a6 (by omega) a4 a2
    have q2 := hB.fz hg a6 (n' := n + rln T) (by omega) a4
    have ru : RuR l w X.1 fa D1 (n + rln T) 1 T n := rur_new h1.2.1 hw hl6 hr a5
    obtain ⟨e1, e2, ⟨e3, e4, e5, e6, e6', e60⟩, ⟨e7, e8, e9⟩, ⟨e10, e11⟩, ⟨ag, e12, e12'⟩, e14, e15, e16⟩ := q1
    have q := ((e1.ec hg hx (a := g + 26) (r := 8 * X.2.2.length + (bsr R0).length) (nI n) (by omega)).ec hg hx (a := g + 27) (r := 8 * X.2.2.length + (bsr R0).length) (nI (kP w (bw T))) (by omega)).ec hg hx (a := g + 28) (r := 8 * X.2.2.length + (bsr R0).length) (gI s1 (g + 30) 1) (by omega)
    refine ⟨st_e (st_e (st_e s1 (g + 26) (8 * X.2.2.length + (bsr R0).length) (nI n)) (g + 27) (8 * X.2.2.length + (bsr R0).length) (nI (kP w (bw T)))) (g + 28) (8 * X.2.2.length + (bsr R0).length) (gI s1 (g + 30) 1), D1, ?_, ?_⟩
    · rw [f5 s1 _ a1 a3.1.2.1 a3.2.1]
      rfl
    · have ge : ∀ a i, (¬ (g + 26 ≤ a ∧ a ≤ g + 28)) ∨ i ≠ 8 * X.2.2.length + (bsr R0).length → gE (st_e (st_e (st_e s1 (g + 26) (8 * X.2.2.length + (bsr R0).length) (nI n)) (g + 27) (8 * X.2.2.length + (bsr R0).length) (nI (kP w (bw T)))) (g + 28) (8 * X.2.2.length + (bsr R0).length) (gI s1 (g + 30) 1)) a i = gE s1 a i := fun a i z => by
        rw [gE_e, if_neg (by omega), gE_e, if_neg (by omega), gE_e, if_neg (by omega)]
      have b6 : bsr ((6, T) :: R0) = (T, []) :: bsr R0 := rfl
      have nb6 : nsb (bsr ((6, T) :: R0)) = nsb (bsr R0) := by rw [b6, nsb_c]; exact Nat.zero_add _
      refine ⟨b6, ⟨q, e2, ⟨e3, e4, e5, e6, e6', e60⟩, ⟨by rw [nb6]; exact e7, by rw [nb6]; exact e8, by rw [nb6]; exact e9⟩, ⟨(ge _ _ (by omega)).trans e10, (ge _ _ (by omega)).trans e11⟩, ⟨ag, (ge _ _ (by omega)).trans e12, e12'⟩, (ge _ _ (by omega)).trans e14, by rw [nb6]; exact e15, by rw [b6]; exact b8⟩, ?_, ⟨⟨n, ?_, ru⟩, ?_, ?_, trivial⟩⟩
      · exact BrsR.mo (mb := 8 * X.2.2.length + (bsr R0).length) (m := nsc X.2.2 + nsb (bsr R0)) (fun kd T a q => q) (fun _ _ _ q => q) (fun a z1 z2 i hi => ge _ _ (by omega)) (fun a ha i _ => ge _ _ (by omega)) (Nat.le_refl _) (Nat.le_refl _) q2
      · rw [gE_e, if_neg (by omega), gE_e, if_neg (by omega), gE_e, if_pos ⟨rfl, rfl⟩]
      · rw [gE_e, if_neg (by omega), gE_e, if_pos ⟨rfl, rfl⟩]
      · rw [gE_e, if_pos ⟨rfl, rfl⟩]
        exact e7
end BC
