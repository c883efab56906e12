/-! the reference's items: a command, a target -/
section CA
variable {N g x n k e : Nat} {σ σ0 : st_S} {D : Nat → Nat → Int32} {w : List (Nat × Nat × Nat)} {l : List Int32} {X : Tx} {fa : Nat → Nat} {R : List (Nat × Tr)} {T : Tr}
theorem chw_lt : ∀ {R : List (Nat × Tr)} {r : Nat} {T : Tr}, Ch w 31 k ((r, T) :: R) → ∀ y ∈ R, ew y.2 < bw T := by
  intro R
  induction R with
  | nil => intro r T _ y hy; cases hy
  | cons z R ih =>
    obtain ⟨r', T'⟩ := z
    intro r T h y hy
    obtain ⟨hC, hw, h6, hB⟩ := h
    have lt : ew T' < bw T := by
      rcases hB with ⟨h1, -⟩ | ⟨h1, -⟩ | ⟨h1, -⟩ | ⟨h1, -⟩ | ⟨h1, -⟩ | ⟨T1, R1, h1, h2, h3, h4⟩ | ⟨T1, R1, h1, h2, h3, h4⟩ | ⟨T1, R1, h1, h2, h3, h4⟩ | ⟨T1, R1, h1, h2, h3, h4, h5, h7⟩ | ⟨T1, R1, h1, h2, h3, h4, h5⟩ | ⟨h2, j0, h1, h3, h4, h5, h7, h8⟩
      · cases h1
      · cases h1
      · cases h1
      · cases h1
      · cases h1
      · injection h1 with h1; injection h1 with h1 h1'; subst h1'; omega
      · injection h1 with h1; injection h1 with h1 h1'; subst h1'; omega
      · injection h1 with h1; injection h1 with h1 h1'; subst h1'; omega
      · injection h1 with h1; injection h1 with h1 h1'; subst h1'; omega
      · injection h1 with h1; injection h1 with h1 h1'; subst h1'; omega
      · rcases h1 with ⟨z1, z2, z3⟩ | ⟨z1, z2, z3, z4⟩ <;> omega
    have d := hC.2.1.wd.1
    rcases List.mem_cons.mp hy with rfl | hy
    · exact lt
    · have := ih hC y hy
      omega
theorem ch_end (hC : Ch w 31 k R) (hF : Fi w 31 k R e) : ∀ y ∈ R, ew y.2 < e := by
  obtain ⟨-, ⟨-, z, -⟩ | ⟨r, T, R1, rfl, hF⟩⟩ := hF
  · omega
  · intro y hy
    have o := Ch_op hC
    have d := hC.2.1.wd.1
    have te : ew T < e := by
      rcases hF with ⟨h1, h2⟩ | ⟨h1, h2, h3, h4⟩ | ⟨h1, h2, h3⟩ <;> omega
    rcases List.mem_cons.mp hy with rfl | hy
    · exact te
    · have := chw_lt hC y hy
      omega
/-- the guard -/
theorem F204s (G : RG0 N g x l w σ0) (h : RS g x l w σ0 σ X n D fa) (hk : kK w k = 7 ∨ kK w k = 8) (hc60 : X.2.2.length < 60) (hw : Wf w T) (hl6 : lev T ≤ 6) (hb : bw T = k + 1) (h17 : kK w (ew T) = 17) (hn : n ≤ k) : match rul l w X.1 31 k [(5, T)] with
    | some er => RFl g x l w σ0 er (F_204 N g x (nI k) (nI e) σ)
    | none => ∃ σ' D', F_204 N g x (nI k) (nI e) σ = L_204 N g x N (nI e) (nI X.2.2.length) (nI (ew T + 1)) σ' ∧ CmC g x l w σ0 X fa k σ' (n + rln T) D' [(5, T)] := by
  have G' := G
  obtain ⟨hg, hx, hN, h40, hwl, hq, hP, hm, hnv⟩ := G
  obtain ⟨h1, h2, n6, n12, n18, b60, b12, b60', n30, n32, n34⟩ := h
  have w3 := h1.1.1.2.1
  have rg := G'.rg h1.2.2.2.1
  obtain ⟨el, bl⟩ := ew_le hw
  have rl := rln_le hw
  have rd := hw.wd.1
  have kl : k < w.length := by omega
  obtain ⟨-, -, l3, l4, -⟩ := h1.1.2.1
  have aC : aB (nI X.2.2.length) 60 := aB_nI hc60 (by decide)
  have cC : (nI X.2.2.length).toNatClampNeg = X.2.2.length := nI_clamp (by omega)
  have w2 : wkd l w X.1 k 5 T = 2 := rfl
  have ea : ahd l w X.1 [] 5 T = none := rfl
  have r0 : rul l w X.1 31 k [] = none := rfl
  rw [rul_c r0 (fun _ => by rw [w2]; decide), ea, w2]
  dsimp only
  have f163 : F_163 N (nI k + 1) 17 σ = some (nI (ew T), σ) := by
    have := F163 (N := N) (so := 17) (fl := 0) (m := ew T - bw T) (k := bw T) (k' := ew T) (a' := 0) w3 h40 (by decide) (by decide) (by omega) (by omega) (tr_p (Or.inr (Or.inr (Or.inl rfl))) hw (by omega) 0 0 (Nat.le_refl _) (fun z => absurd z (by decide))) (by decide) (by decide) h17
    rw [hb] at this
    rw [nI_1]
    exact this
  have q0 := (h1.ec hg hx (a := g + 22) (r := X.2.2.length) (vp_nar .boolean (if nI (kK w k) = 8 then 1 else 0 : Int32)) (by omega)).ec hg hx (a := g + 23) (r := X.2.2.length) (nI (kP w k)) (by omega)
  have g22 : gE (st_e (st_e σ (g + 22) X.2.2.length (vp_nar .boolean (if nI (kK w k) = 8 then 1 else 0 : Int32))) (g + 23) X.2.2.length (nI (kP w k))) (g + 22) X.2.2.length = if kK w k = 8 then 1 else 0 := by
    rw [gE_e, if_neg (by omega), gE_e, if_pos ⟨rfl, rfl⟩]
    rcases hk with z | z <;> (rw [z]; rfl)
  have g23 : gE (st_e (st_e σ (g + 22) X.2.2.length (vp_nar .boolean (if nI (kK w k) = 8 then 1 else 0 : Int32))) (g + 23) X.2.2.length (nI (kP w k))) (g + 23) X.2.2.length = nI (kP w k) := by
    rw [gE_e, if_pos ⟨rfl, rfl⟩]
  have w3a : W3 (st_e σ (g + 22) X.2.2.length (vp_nar .boolean (if nI (kK w k) = 8 then 1 else 0 : Int32))) w := w3.fr (Fr.e (A := [g + 22]) (L := []) (I := []) (J := []) (R := []) σ _ _ (by simp)) (by simp) (fun a z1 z2 => by simp only [List.mem_cons, List.not_mem_nil, or_false]; omega)
  have code : F_204 N g x (nI k) (nI e) σ = (F_201 N g x (nI (bw T)) (nI (ew T)) 1 0 (st_e (st_e σ (g + 22) X.2.2.length (vp_nar .boolean (if nI (kK w k) = 8 then 1 else 0 : Int32))) (g + 23) X.2.2.length (nI (kP w k)))).bind fun p_10 => if aB (nI X.2.2.length) (gN p_10.2 (g + 24)) then (if aB (nI X.2.2.length) (gN p_10.2 (g + 25)) then L_204 N g x N (nI e) (nI X.2.2.length) (nI (ew T + 1)) (st_e (st_e (p_10.2) (g + 24) X.2.2.length p_10.1) (g + 25) X.2.2.length 0) else none) else none := by
    unfold F_204
    rw [n18, if_neg (show ¬ nI X.2.2.length = 60 from fun z => by have := (nI_eq (b := 60) (by omega) (by decide)).mp z; omega), f163, ob_some]
    dsimp only
    rw [F162 w3 kl, ob_some]
    dsimp only
    rw [l3 (g + 22) (by omega) (by omega), if_pos aC]
    simp only [cC]
    rw [F159 w3a kl, ob_some]
    dsimp only
    have gN1 : gN (st_e σ (g + 22) X.2.2.length (vp_nar .boolean (if nI (kK w k) = 8 then 1 else 0 : Int32))) = gN σ := rfl
    rw [gN1, l3 (g + 23) (by omega) (by omega), if_pos aC, nI_1, nI_1, ← hb]
  rw [code]
  have h2' : gI (st_e (st_e σ (g + 22) X.2.2.length (vp_nar .boolean (if nI (kK w k) = 8 then 1 else 0 : Int32))) (g + 23) X.2.2.length (nI (kP w k))) 66 16 = 0 := h2
  have hI : gI (st_e (st_e σ (g + 22) X.2.2.length (vp_nar .boolean (if nI (kK w k) = 8 then 1 else 0 : Int32))) (g + 23) X.2.2.length (nI (kP w k))) = gI σ := rfl
  generalize st_e (st_e σ (g + 22) X.2.2.length (vp_nar .boolean (if nI (kK w k) = 8 then 1 else 0 : Int32))) (g + 23) X.2.2.length (nI (kP w k)) = s0 at q0 g22 g23 h2' hI ⊢
  have K := rm_rule (N := N) (co := false) (kw := 2) rg (Or.inr rfl) hw hl6 q0.1 h2' (by omega)
  cases hr : rok l w X.1 false 2 T with
  | inl er =>
    rw [hr] at K
    obtain ⟨s1, n', D', a1, a2, a3, a4, a5⟩ := K
    have a1 : F_201 N g x (nI (bw T)) (nI (ew T)) 1 0 s0 = some (nI n, s1) := a1
    show RFl g x l w σ0 er _
    obtain ⟨-, -, m3, -⟩ := a4.2.1
    rw [a1, ob_some]
    dsimp only
    rw [m3 (g + 24) (by omega) (by omega), m3 (g + 25) (by omega) (by omega), if_pos aC, if_pos aC]
    obtain ⟨N', hN'⟩ : ∃ N', N = N' + 1 := ⟨N - 1, by omega⟩
    have := L204f (N := N) (f := N') G' ((a4.e hg hx (a := g + 24) (k := X.2.2.length) (nI n) (by omega)).e hg hx (a := g + 25) (k := X.2.2.length) 0 (by omega)) a2 (rok_e hr) a3 (y1 := nI e) (y2 := nI X.2.2.length) (y3 := nI (ew T + 1))
    rw [← hN'] at this
    exact this
  | inr kd =>
    rw [hr] at K
    have hkd := rok_k hr
    subst hkd
    obtain ⟨s1, D1, a1, a2, a3, a4, a5, a6⟩ := K
    have a1 : F_201 N g x (nI (bw T)) (nI (ew T)) 1 0 s0 = some (nI n, s1) := a1
    show ∃ σ' D', _
    obtain ⟨-, -, m3, -⟩ := a3.2.1
    have q1 : RN g x l w σ0 s1 X (n + rln T) D1 fa := q0.fz hg a3 a6 (by omega) a4
    have ru : RuR l w X.1 fa D1 (n + rln T) 2 T n := rur_new q0.2.1 hw hl6 hr a5
    have q2 := (q1.ec hg hx (a := g + 24) (r := X.2.2.length) (nI n) (by omega)).ec hg hx (a := g + 25) (r := X.2.2.length) 0 (by omega)
    have eI : ∀ a j, (a = g ∧ j ≠ 1) ∨ a = g + 30 ∨ a = g + 32 ∨ a = g + 34 → gI s1 a j = gI σ a j := fun a j z => by
      rw [← hI]
      exact a6.1 a j (by simp only [List.mem_cons, List.not_mem_nil, or_false, Prod.mk.injEq]; omega)
    have eE : ∀ a, a = g + 22 ∨ a = g + 23 → gE s1 a = gE s0 a := fun a z => (a6.2.2.2.1 a (by simp only [List.mem_cons, List.not_mem_nil, or_false]; omega)).2
    have nz : nsb (bsr [(5, T)]) = 0 := rfl
    refine ⟨st_e (st_e s1 (g + 24) X.2.2.length (nI n)) (g + 25) X.2.2.length 0, D1, ?_, ⟨q2, a2, ⟨(eI _ _ (by omega)).trans n6, (eI _ _ (by omega)).trans n12, (eI _ _ (by omega)).trans n18, b60, b12, hc60⟩, ⟨(eI _ _ (by omega)).trans n30, (eI _ _ (by omega)).trans n32, (eI _ _ (by omega)).trans n34⟩, ⟨?_, ?_⟩, ⟨n, ?_, ru⟩, ?_, ?_, show 0 ≤ 8 by decide⟩, trivial⟩
    · rw [a1, ob_some]
      dsimp only
      rw [m3 (g + 24) (by omega) (by omega), m3 (g + 25) (by omega) (by omega), if_pos aC, if_pos aC]
    · rw [gE_e, if_neg (by omega), gE_e, if_neg (by omega), eE _ (Or.inl rfl)]; exact g22
    · rw [gE_e, if_neg (by omega), gE_e, if_neg (by omega), eE _ (Or.inr rfl)]; exact g23
    · rw [gE_e, if_neg (by omega), gE_e, if_pos ⟨rfl, rfl⟩]
    · rw [gE_e, if_pos ⟨rfl, rfl⟩]; rfl
    · rw [nz]
      have := h1.2.2.2.2.2.2
      omega
/-- a branch that is closed at once -/
theorem C6s (G : RG0 N g x l w σ0) {f pc : Nat} {R0 : List (Nat × Tr)} {b : Tr × List Tr} {B : List (Tr × List Tr)} (h : CmO g x l w σ0 X fa k σ n D R0 b B) (hp : kK w pc = 10) : ∃ σ', C6 N g x e X.2.2.length B.length f pc σ = L_204 N g x f (nI e) (nI X.2.2.length) (nI (pc + 2)) σ' ∧ CmC g x l w σ0 X fa k σ' n D R0 := by
  obtain ⟨σ', a1, a2⟩ := h.cl (y7 := nI pc + 1) G
  refine ⟨σ', ?_, a2⟩
  unfold C6
  rw [F162 h.2.1.1.1.1.2.1 (kK_lt (by omega)), ob_some]
  dsimp only
  rw [hp, if_pos (by decide), a1, ob_some]
  dsimp only
  rw [nI_1, nI_1]
/-- the sets of a branch are done -/
theorem C7s (G : RG0 N g x l w σ0) {f f' pk : Nat} {R0 : List (Nat × Tr)} {b : Tr × List Tr} {B : List (Tr × List Tr)} (h : CmO g x l w σ0 X fa k σ n D R0 b B) (hp : kK w pk ≠ 29) (hl : pk < w.length) : ∃ σ', C7 N g x e X.2.2.length B.length f (f' + 1) pk σ = L_204 N g x f (nI e) (nI X.2.2.length) (nI (pk + 1)) σ' ∧ CmC g x l w σ0 X fa k σ' n D R0 := by
  obtain ⟨σ', a1, a2⟩ := h.cl (y7 := nI pk) G
  refine ⟨σ', ?_, a2⟩
  have h40 := G.2.2.2.1 pk
  have n29 : (if nI (kK w pk) = 29 then 1 else 0 : Int32) = 0 := if_neg (fun z => hp ((nI_eq (b := 29) (by omega) (by decide)).mp z))
  unfold C7
  rw [F162 h.2.1.1.1.1.2.1 hl, ob_some]
  dsimp only
  rw [n29, if_pos rfl]
  unfold L_205
  rw [if_pos rfl, a1, ob_some]
  dsimp only
  rw [nI_1]
end CA
