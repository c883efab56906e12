/-! the reference's items: vars, their values -/
section VV
variable {N g x n k v : Nat} {σ σ0 : st_S} {D : Nat → Nat → Int32} {w : List (Nat × Nat × Nat)} {l : List Int32} {X : Tx} {fa : Nat → Nat} {b : Bool} {er : Nat × Nat} {l5 l6 l9 l10 : Int32}
theorem fw_k (fr : FW σ σ0) {a : Nat} (ha : a < 163) : gE σ0 a = gE σ a := (fr.2.2.2.1 a (by simp only [List.mem_cons, List.not_mem_nil, or_false]; omega)).2
/-- know, behind a fault -/
theorem J410f (G : RG0 N g x l w σ0) (hM : RM g x l w X.1 σ0 σ n D) (h18 : gE σ (g + 18) v = if b then 1 else 0) (hv : v < 12) (len : X.1.length + 1 ≤ 72) (h1 : gI σ 66 16 = nI er.1) (h2 : gI σ 66 17 = nI er.2) : RFl g x l w σ0 er (J_199_410 N g x (nI k) (nI v) σ) := by
  obtain ⟨hg, hx, -, -, -, hq, -⟩ := G
  have hM2 := hM.i hg hx (nI (v + 1)) (Or.inl ⟨rfl, Or.inr (Or.inl rfl)⟩)
  obtain ⟨s5, u1, u2, u3⟩ := F198 (N := N) (e := (k + 1, 3, b, .leaf 0, (0, 0), (0, 0, 0), v, v)) hg hx hq hM2 len ⟨show 1 ≤ 3 by decide, show 3 ≤ 3 by decide⟩ (fun _ => ⟨hv, h18⟩) (fun z => absurd rfl z)
  have gi66 : ∀ (j : Nat), j ≠ 12 → gI (st_i σ g 12 (nI (v + 1))) 66 j = gI σ 66 j := fun j hj => by
    rw [gI_i, if_neg (fun z => hj z.2)]
  refine ⟨s5, _, n, D, ?_, (u3.1 66 16 (by simp)).trans ((gi66 _ (by decide)).trans h1), (u3.1 66 17 (by simp)).trans ((gi66 _ (by decide)).trans h2), u2⟩
  unfold J_199_410
  rw [nI_1, nI_1]
  have u1 : F_198 N (nI (k + 1)) 3 (nI v) (st_i σ g 12 (nI (v + 1))) = some s5 := u1
  rw [u1, ob_some]
theorem J369f (G : RG0 N g x l w σ0) (hM : RM g x l w X.1 σ0 σ n D) (h18 : gE σ (g + 18) v = if b then 1 else 0) (hv : v < 12) (len : X.1.length + 1 ≤ 72) (h1 : gI σ 66 16 = nI er.1) (h0 : ¬ nI er.1 = 0) (h2 : gI σ 66 17 = nI er.2) : RFl g x l w σ0 er (J_199_369 N g x (nI k) (nI v) l5 l6 l10 σ) := by
  have hl := hM.2.1.2.1
  have aV : aB (nI v) 12 := aB_nI hv (by decide)
  have cl : (nI v).toNatClampNeg = v := nI_clamp (by omega)
  unfold J_199_369
  rw [hl (g + 19) (by omega) (by omega), hl (g + 21) (by omega) (by omega), if_pos aV, if_pos aV, if_neg (show ¬ gI σ 66 16 = 0 by rw [h1]; exact h0), ite_self]
  simp only [cl]
  refine J410f (b := b) G (hM.e G.1 G.2.1 _ (by omega)) ?_ hv len h1 h2
  rw [gE_e, if_neg (by omega)]
  exact h18
/-- know -/
theorem J410s (G : RG0 N g x l w σ0) (h : RN g x l w σ0 σ X n D fa) (hc : NCt σ g X) (hv : v = cnt X.1 3) (hv2 : v < 12) (len : X.1.length + 1 ≤ 72) (k1l : k + 1 < w.length) (hfn : fnd l w X.1 (k + 1) = none) (h0 : gI σ 66 16 = 0) {lo hi bg : Int32} (h18 : gE σ (g + 18) v = if b then 1 else 0) (h19 : gE σ (g + 19) v = lo) (h20 : gE σ (g + 20) v = hi) (h21 : gE σ (g + 21) v = bg) {i : Nat} (hni : n ≤ i) : ItR g x l w σ0 i (.inr (X.1 ++ [(k + 1, 3, b, .leaf 0, (0, 0), (lo, hi, bg), cnt X.1 3, cnt X.1 3)], X.2.1, X.2.2)) (J_199_410 N g x (nI k) (nI v) σ) := by
  have G' := G
  obtain ⟨hg, hx, -, -, -, hq, -⟩ := G
  subst hv
  have h2 := h.i hg hx (nI (cnt X.1 3 + 1)) (Or.inl ⟨rfl, Or.inr (Or.inl rfl)⟩)
  obtain ⟨s5, u1, u2, u3⟩ := know (N := N) (fa' := fa) (e := (k + 1, 3, b, .leaf 0, (0, 0), (lo, hi, bg), cnt X.1 3, cnt X.1 3)) G' h2 len (Or.inr (Or.inr rfl)) k1l hfn (fun _ => ⟨hv2, h18⟩) (fun z => absurd rfl z) (fun z => absurd z (by show ¬ 3 = 1; decide)) (fun z => absurd z (by show ¬ 3 = 1; decide)) (fun _ => ⟨rfl, rfl, h19, h20, h21⟩) (fun z => absurd rfl z) (fun _ _ => rfl) (fun z => absurd z (by show ¬ 3 = 2; decide))
  have gi66 : ∀ (j : Nat), j ≠ 12 → gI (st_i σ g 12 (nI (cnt X.1 3 + 1))) 66 j = gI σ 66 j := fun j hj => by
    rw [gI_i, if_neg (fun z => hj z.2)]
  have cF : NCt s5 g (X.1 ++ [(k + 1, 3, b, .leaf 0, (0, 0), (lo, hi, bg), cnt X.1 3, cnt X.1 3)], X.2) := by
    obtain ⟨d1, d2, d3, d4, d5, d6, d7, d8, d9⟩ := hc
    have gi : ∀ a c, (a, c) ∉ [(151, 1), (153, 1), (155, 1)] → ¬ (a = g ∧ c = 12) → gI s5 a c = gI σ a c := fun a c z1 z2 => by
      rw [u3.1 a c z1, gI_i, if_neg z2]
    have no : ∀ a c, a < 151 → (a, c) ∉ [(151, 1), (153, 1), (155, 1)] := fun a c z => by simp only [List.mem_cons, List.not_mem_nil, or_false, Prod.mk.injEq]; omega
    have ca := cnt_app (E := X.1) (e := ((k + 1, 3, b, .leaf 0, (0, 0), (lo, hi, bg), cnt X.1 3, cnt X.1 3) : En))
    unfold NCt
    dsimp only
    rw [ca 1, ca 2, ca 3]
    dsimp only
    rw [if_neg (by decide), if_neg (by decide), if_pos rfl]
    refine ⟨(gi _ _ (no _ _ (by omega)) (by omega)).trans d1, ?_, (gi _ _ (no _ _ (by omega)) (by omega)).trans d3, by omega, by omega, d6, (gi _ _ (no _ _ (by omega)) (by omega)).trans d7, (gi _ _ (no _ _ (by omega)) (by omega)).trans d8, (gi _ _ (no _ _ (by omega)) (by omega)).trans d9⟩
    rw [u3.1 g 12 (no _ _ (by omega)), gI_i, if_pos ⟨rfl, rfl⟩]
  refine ⟨s5, n, D, fa, ?_, ⟨u2, (u3.1 66 16 (by simp)).trans ((gi66 _ (by decide)).trans h0), cF⟩, hni⟩
  unfold J_199_410
  rw [nI_1, nI_1]
  have u1 : F_198 N (nI (k + 1)) 3 (nI (cnt X.1 3)) (st_i σ g 12 (nI (cnt X.1 3 + 1))) = some s5 := u1
  rw [u1, ob_some]
/-- a whole number -/
theorem F202 (G : RG0 N g x l w σ0) (h : RN g x l w σ0 σ X n D fa) (hf : gI σ 66 16 = 0) (hn : n ≤ 16400) {T : Tr} {a : Nat} (hw : Wf w T) (h6 : lev T ≤ 6) (hck : chk l w X.1 true T = .inr 1) (hR : Rt l w (Vx l w X.1) D T a (-1)) (ha : a + rln T ≤ n) : match eI l w X.1 T with
    | .inl e => ∃ σ' z, F_202 N g (nI a) (nI (bw T)) σ = some (z, σ') ∧ gI σ' 66 16 = nI e.1 ∧ gI σ' 66 17 = nI e.2 ∧ RM g x l w X.1 σ0 σ' n D ∧ FW σ σ' ∧ ¬ nI e.1 = 0
    | .inr z => ∃ σ', F_202 N g (nI a) (nI (bw T)) σ = some (z, σ') ∧ gI σ' 66 16 = 0 ∧ RN g x l w σ0 σ' X n D fa ∧ FW σ σ' := by
  have hg := G.1
  have hx := G.2.1
  have K := F185c (N := N) (G.rg h.2.2.2.1) G.2.2.2.2.2.2.2.2 h.2.2.1 h.1 h.2.1 hf hn hw h6 hck hR ha
  have c0 : (0 : Int32).toNatClampNeg = 0 := by decide
  have bl := (ew_le hw).2
  unfold eI
  cases hv : eT l w X.1 T with
  | inl e =>
    rw [hv] at K
    rw [sbd_l]
    obtain ⟨s1, k1, k2, k3, k4, k5⟩ := K
    have e0 : ¬ nI e.1 = 0 := by rcases eT_er hw hck hv with z | z | z <;> (rw [z]; decide)
    refine ⟨s1, (gL s1 163 (0 : Int32).toNatClampNeg).toInt32, ?_, k2, k3, k4, k5, e0⟩
    unfold F_202
    rw [if_pos hf, k1, ob_some, if_neg (by rw [k2]; exact e0), k4.2.1.2.2.2.2.1, if_pos (by decide)]
  | inr u =>
    rw [hv] at K
    rw [sbd_r]
    obtain ⟨-, s1, k1, k2, k3, k4, k5, k6⟩ := K
    have k3' : gL s1 163 (0 : Int32).toNatClampNeg = u.1 := by rw [c0]; exact k3
    have k4' : gL s1 164 (0 : Int32).toNatClampNeg = u.2 := by rw [c0]; exact k4
    by_cases c : u.2 = 1
    · rw [if_pos c]
      refine ⟨s1, ?_, k2, h.fw hg k5 k6, k6⟩
      unfold F_202
      rw [if_pos hf, k1, ob_some, if_pos k2, k5.2.1.2.2.2.2.1, k5.2.1.2.2.2.2.2.1, if_pos (by decide), k4', if_pos ((ceq _ _).mpr c), if_pos (by decide), k3']
    · rw [if_neg c]
      obtain ⟨s2, b1, b2, b3, b4⟩ := k5.st (N := N) hg hx 8 (kP w (bw T))
      have fr : FW s1 s2 := by
        injection b1 with b1
        rw [← b1]
        exact Fr.t0 (Fr.i _ _ (by simp)) (Fr.i _ _ (by simp))
      refine ⟨s2, (gL s2 163 (0 : Int32).toNatClampNeg).toInt32, ?_, b2, b3, b4, Fr.t0 k6 fr, by show ¬ nI 8 = 0; decide⟩
      unfold F_202
      rw [if_pos hf, k1, ob_some, if_pos k2, k5.2.1.2.2.2.2.2.1, if_pos (by decide), k4', if_neg (fun z => c ((ceq _ _).mp z)), F159 k5.1.2.1 bl, ob_some]
      dsimp only
      have b1 : F_165 N 8 (nI (kP w (bw T))) s1 = some s2 := b1
      rw [b1, ob_some, b4.2.1.2.2.2.2.1, if_pos (by decide)]
/-- behind the range -/
theorem J369s (G : RG0 N g x l w σ0) (h : RN g x l w σ0 σ X n D fa) (hc : NCt σ g X) (hv : v = cnt X.1 3) (hv2 : v < 12) (len : X.1.length + 1 ≤ 72) (k1l : k + 1 < w.length) (hfn : fnd l w X.1 (k + 1) = none) (h0 : gI σ 66 16 = 0) (hn : n ≤ 16400) {lo hi : Int32} (h18 : gE σ (g + 18) v = if b then 1 else 0) (h19 : gE σ (g + 19) v = lo) (h20 : gE σ (g + 20) v = hi) {i : Nat} (hi' : n ≤ i) (ob : Option Tr) {a : Nat} {init : Nat} (hob : match ob with
      | none => l6 = 0
      | some T => l6 = 1 ∧ Wf w T ∧ lev T ≤ 6 ∧ chk l w X.1 true T = .inr (if b then 2 else 1) ∧ Rt l w (Vx l w X.1) D T a (-1) ∧ a + rln T ≤ n ∧ l10 = nI a ∧ init + 1 = bw T) : ItR g x l w σ0 i (sbd (match ob with
      | none => (.inr (lo, hi, lo) : Rs (Int32 × Int32 × Int32))
      | some T => if b then sbd (eT l w X.1 T) fun u => .inr (lo, hi, u.1.toInt32) else sbd (eI l w X.1 T) fun q => if q < lo ∨ ¬ q ≤ hi then .inl (9, kP w (bw T)) else .inr (lo, hi, q)) fun r => .inr (X.1 ++ [(k + 1, 3, b, .leaf 0, (0, 0), r, cnt X.1 3, cnt X.1 3)], X.2.1, X.2.2)) (J_199_369 N g x (nI k) (nI v) (nI init) l6 l10 σ) := by
  have hg := G.1
  have hx := G.2.1
  have hl := h.1.2.1.2.1
  have aV : aB (nI v) 12 := aB_nI hv2 (by decide)
  have cl : (nI v).toNatClampNeg = v := nI_clamp (by omega)
  have c0 : (0 : Int32).toNatClampNeg = 0 := by decide
  have q1 := h.e3 hg hx (a := g + 21) (r := v) lo (by omega) hv
  have w18 : ∀ (s : st_S) (y : Int32), gE (st_e s (g + 21) v y) (g + 18) v = gE s (g + 18) v := fun s y => by rw [gE_e, if_neg (by omega)]
  have w19 : ∀ (s : st_S) (y : Int32), gE (st_e s (g + 21) v y) (g + 19) v = gE s (g + 19) v := fun s y => by rw [gE_e, if_neg (by omega)]
  have w20 : ∀ (s : st_S) (y : Int32), gE (st_e s (g + 21) v y) (g + 20) v = gE s (g + 20) v := fun s y => by rw [gE_e, if_neg (by omega)]
  have w21 : ∀ (s : st_S) (y : Int32), gE (st_e s (g + 21) v y) (g + 21) v = y := fun s y => by rw [gE_e, if_pos ⟨rfl, rfl⟩]
  have j : J_199_369 N g x (nI k) (nI v) (nI init) l6 l10 σ = if l6 = 0 then J_199_410 N g x (nI k) (nI v) (st_e σ (g + 21) v lo) else (F_203 N g (nI v) l10 (nI init + 1) (st_e σ (g + 21) v lo)).bind fun p => J_199_410 N g x (nI k) (nI v) p := by
    unfold J_199_369
    rw [hl (g + 19) (by omega) (by omega), hl (g + 21) (by omega) (by omega), if_pos aV, if_pos aV, if_pos h0]
    simp only [cl]
    rw [h19]
  rw [j]
  cases ob with
  | none =>
    have hob : l6 = 0 := hob
    rw [if_pos hob, sbd_r]
    exact J410s (b := b) G q1 hc hv hv2 len k1l hfn h0 ((w18 _ _).trans h18) ((w19 _ _).trans h19) ((w20 _ _).trans h20) (w21 _ _) hi'
  | some T =>
    obtain ⟨o1, o2, o3, o4, o5, o6, o7, o8⟩ := hob
    rw [if_neg (by rw [o1]; decide), nI_1, o8, o7]
    have f0 : gI (st_e σ (g + 21) v lo) 66 16 = 0 := h0
    have bl := (ew_le o2).2
    generalize hs : st_e σ (g + 21) v lo = s at q1 f0
    have hc' : NCt s g X := by rw [← hs]; exact hc
    have t18 : gE s (g + 18) v = if b then 1 else 0 := by rw [← hs, w18]; exact h18
    have t19 : gE s (g + 19) v = lo := by rw [← hs, w19]; exact h19
    have t20 : gE s (g + 20) v = hi := by rw [← hs, w20]; exact h20
    have sl := q1.1.2.1.2.1
    cases b with
    | true =>
      rw [if_pos rfl] at t18
      have K := F185c (N := N) (G.rg q1.2.2.2.1) G.2.2.2.2.2.2.2.2 q1.2.2.1 q1.1 q1.2.1 f0 hn o2 o3 o4 o5 o6
      have f3 : F_203 N g (nI v) (nI a) (nI (bw T)) s = (F_185 N g (nI a) s).bind fun p_11 => if aB 0 (gN p_11 163) then (if aB (nI v) (gN p_11 (g + 21)) then some (st_e p_11 (g + 21) v (gL p_11 163 0).toInt32) else none) else none := by
        unfold F_203
        rw [sl (g + 18) (by omega) (by omega), if_pos aV]
        simp only [cl, c0]
        rw [t18, if_neg (by decide)]
      show ItR g x l w σ0 i (sbd (sbd (eT l w X.1 T) fun u => .inr (lo, hi, u.1.toInt32)) _) _
      rw [f3]
      cases hv' : eT l w X.1 T with
      | inl e =>
        rw [hv'] at K
        rw [sbd_l, sbd_l]
        obtain ⟨s1, k1, k2, k3, k4, k5⟩ := K
        rw [k1, ob_some, k4.2.1.2.2.2.2.1, if_pos (by decide), k4.2.1.2.1 (g + 21) (by omega) (by omega), if_pos aV, ob_some]
        refine J410f (b := true) G (k4.e hg hx _ (by omega)) ?_ hv2 len k2 k3
        rw [w18, fw_k k5 (by omega)]
        exact t18
      | inr u =>
        rw [hv'] at K
        rw [sbd_r, sbd_r]
        obtain ⟨-, s1, k1, k2, k3, k4, k5, k6⟩ := K
        rw [k1, ob_some, k5.2.1.2.2.2.2.1, if_pos (by decide), k5.2.1.2.1 (g + 21) (by omega) (by omega), if_pos aV, ob_some, k3]
        have q2 := (q1.fw hg k5 k6).e3 hg hx (a := g + 21) (r := v) u.1.toInt32 (by omega) hv
        exact J410s (b := true) G q2 (NCt.eq (hc'.fw hg k6) rfl) hv hv2 len k1l hfn k2 (by rw [w18, fw_k k6 (by omega)]; exact t18) (by rw [w19, fw_k k6 (by omega)]; exact t19) (by rw [w20, fw_k k6 (by omega)]; exact t20) (w21 _ _) hi'
    | false =>
      rw [if_neg Bool.false_ne_true] at t18 o4
      have K := F202 (N := N) G q1 f0 hn o2 o3 o4 o5 o6
      have f3 : F_203 N g (nI v) (nI a) (nI (bw T)) s = (F_202 N g (nI a) (nI (bw T)) s).bind fun p_3 => if gI p_3.2 66 16 = 0 then (if aB (nI v) (gN p_3.2 (g + 19)) then (if p_3.1 < gE p_3.2 (g + 19) v then J_203_81 N g (nI v) (nI (bw T)) p_3.1 p_3.2 else (if aB (nI v) (gN p_3.2 (g + 20)) then (if p_3.1 ≤ gE p_3.2 (g + 20) v then (if aB (nI v) (gN p_3.2 (g + 21)) then some (st_e p_3.2 (g + 21) v p_3.1) else none) else J_203_81 N g (nI v) (nI (bw T)) p_3.1 p_3.2) else none)) else none) else (if aB (nI v) (gN p_3.2 (g + 21)) then some (st_e p_3.2 (g + 21) v p_3.1) else none) := by
        unfold F_203
        rw [sl (g + 18) (by omega) (by omega), if_pos aV]
        simp only [cl]
        rw [t18, if_pos rfl]
      show ItR g x l w σ0 i (sbd (sbd (eI l w X.1 T) fun q => if q < lo ∨ ¬ q ≤ hi then .inl (9, kP w (bw T)) else .inr (lo, hi, q)) _) _
      rw [f3]
      cases hv' : eI l w X.1 T with
      | inl e =>
        rw [hv'] at K
        rw [sbd_l, sbd_l]
        obtain ⟨s1, z, k1, k2, k3, k4, k5, k6⟩ := K
        rw [k1, ob_some]
        dsimp only
        rw [if_neg (by rw [k2]; exact k6), k4.2.1.2.1 (g + 21) (by omega) (by omega), if_pos aV, ob_some]
        refine J410f (b := false) G (k4.e hg hx _ (by omega)) ?_ hv2 len k2 k3
        rw [w18, fw_k k5 (by omega)]
        exact t18
      | inr q =>
        rw [hv'] at K
        rw [sbd_r]
        obtain ⟨s1, k1, k2, k3, k4⟩ := K
        have u18 : gE s1 (g + 18) v = 0 := by rw [fw_k k4 (by omega)]; exact t18
        have u19 : gE s1 (g + 19) v = lo := by rw [fw_k k4 (by omega)]; exact t19
        have u20 : gE s1 (g + 20) v = hi := by rw [fw_k k4 (by omega)]; exact t20
        have sl1 := k3.1.2.1.2.1
        rw [k1, ob_some]
        dsimp only
        rw [if_pos k2, sl1 (g + 19) (by omega) (by omega), sl1 (g + 20) (by omega) (by omega), sl1 (g + 21) (by omega) (by omega), if_pos aV, if_pos aV, if_pos aV, u19, u20]
        have bad : RFl g x l w σ0 (9, kP w (bw T)) ((J_203_81 N g (nI v) (nI (bw T)) q s1).bind fun p => J_199_410 N g x (nI k) (nI v) p) := by
          obtain ⟨s2, b1, b2, b3, b4⟩ := k3.1.st (N := N) hg hx 9 (kP w (bw T))
          have e18 : gE s2 (g + 18) v = 0 := by
            injection b1 with b1
            rw [← b1]
            exact u18
          unfold J_203_81
          rw [F159 k3.1.1.2.1 bl, ob_some]
          dsimp only
          have b1 : F_165 N 9 (nI (kP w (bw T))) s1 = some s2 := b1
          rw [b1, ob_some, b4.2.1.2.1 (g + 21) (by omega) (by omega), if_pos aV, ob_some]
          simp only [cl]
          exact J410f (b := false) (er := (9, kP w (bw T))) G (b4.e hg hx _ (by omega)) (by rw [w18]; exact e18) hv2 len b2 b3
        by_cases z1 : q < lo
        · rw [if_pos z1, if_pos (Or.inl z1), sbd_l]
          exact bad
        · rw [if_neg z1]
          by_cases z2 : q ≤ hi
          · rw [if_pos z2, if_neg (fun z => z.elim z1 (fun y => y z2)), sbd_r, ob_some]
            have q2 := k3.e3 hg hx (a := g + 21) (r := v) q (by omega) hv
            exact J410s (b := false) G q2 (NCt.eq (hc'.fw hg k4) rfl) hv hv2 len k1l hfn k2 (by rw [w18]; exact u18) (by rw [w19]; exact u19) (by rw [w20]; exact u20) (w21 _ _) hi'
          · rw [if_neg z2, if_pos (Or.inr z2), sbd_l]
            exact bad
end VV
