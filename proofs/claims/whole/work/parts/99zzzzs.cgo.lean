/-! the class explores: a branch is put down -/
/-- branches in the class's tables -/
def KBr (σ : st_S) (B : Bn) : Prop := gI σ 52 12 = nI B.1 ∧ B.1 ≤ 4096 ∧ B.1 ≤ gN σ 59 ∧ ∀ i, i < B.1 → gE σ 59 i = nI (B.2 i).1 ∧ gE σ 60 i = (B.2 i).2.1.toInt32 ∧ gE σ 61 i = (B.2 i).2.2.toInt32 ∧ (B.2 i).1 < 512
/-- commands -/
def KCm (σ : st_S) (K : Nat × (Nat → Nat) × (Nat → Nat)) (W : Nat) : Prop := gI σ 52 11 = nI K.1 ∧ K.1 ≤ gN σ 57 ∧ (∀ c, c < K.1 → gE σ 57 c = nI (K.2.1 c) ∧ gE σ 58 c = nI (K.2.2 c)) ∧ (1 ≤ K.1 → gE σ 58 K.1 = nI W)
section KG2
variable {N V : Nat} {σ σ' : st_S} {B : Bn} {K : Nat × (Nat → Nat) × (Nat → Nat)} {a b0 tg W : Nat} {v : Int64 × Int64} {I J Rr : List (Nat × Nat)} {A L : List Nat}
theorem KBr.fr (h : KBr σ B) (fr : Fr 0 I J Rr A L σ σ') (h1 : (52, 12) ∉ I) (h2 : 59 ∉ A ∧ 60 ∉ A ∧ 61 ∉ A) : KBr σ' B := by
  obtain ⟨p1, p2, p3, p4⟩ := h
  refine ⟨(fr.1 _ _ h1).trans p1, p2, by rw [(fr.2.2.2.1 59 h2.1).1]; exact p3, fun i hi => ?_⟩
  rw [(fr.2.2.2.1 59 h2.1).2, (fr.2.2.2.1 60 h2.2.1).2, (fr.2.2.2.1 61 h2.2.2).2]
  exact p4 i hi
theorem KCm.fr (h : KCm σ K W) (fr : Fr 0 I J Rr A L σ σ') (h1 : (52, 11) ∉ I) (h2 : 57 ∉ A ∧ 58 ∉ A) : KCm σ' K W := by
  obtain ⟨p1, p2, p3, p4⟩ := h
  refine ⟨(fr.1 _ _ h1).trans p1, by rw [(fr.2.2.2.1 57 h2.1).1]; exact p2, ?_, ?_⟩
  · rw [(fr.2.2.2.1 57 h2.1).2, (fr.2.2.2.1 58 h2.2).2]; exact p3
  · rw [(fr.2.2.2.1 58 h2.2).2]; exact p4
theorem Fq.l (ha : 0 < a) (ha2 : a < 1000000000) (h : Fq a v) (hw : wt a v ≤ a) : v.1.toInt32.toInt64 = v.1 ∧ v.2.toInt32.toInt64 = v.2 := by
  obtain ⟨q1, q2⟩ := h.le ha hw
  obtain ⟨h1, h2, -⟩ := h
  exact ⟨toL (by omega), toL (by omega)⟩
theorem F124 (hN : 300 < N) (n0 : gN σ 60 = gN σ 59) (n1 : gN σ 61 = gN σ 59) {i : Nat} (hi : i < gN σ 59) (hl : gN σ 59 ≤ 8192) (ha : 0 < a) (ha2 : a < 1000000000) {u : Int64 × Int64} (e1 : gE σ 60 i = u.1.toInt32) (e2 : gE σ 61 i = u.2.toInt32) (hu : Fq a u) (hv : Fq a v) (hs : wt a u + wt a v ≤ a) : F_124 N (nI i) v.1.toInt32 v.2.toInt32 σ = some (st_e (st_e σ 60 i (adq u v).1.toInt32) 61 i (adq u v).2.toInt32) := by
  obtain ⟨-, -, q1, q2, q3⟩ := adq_ok ha ha2 hu hv hs
  obtain ⟨u1, u2⟩ := hu.l ha ha2 (by omega)
  obtain ⟨v1, v2⟩ := hv.l ha ha2 (by omega)
  have cl : (nI i).toNatClampNeg = i := nI_clamp (by omega)
  have e1 : (gE σ 60 (nI i).toNatClampNeg).toInt64 = u.1 := by rw [cl, e1]; exact u1
  have e2 : (gE σ 61 (nI i).toNatClampNeg).toInt64 = u.2 := by rw [cl, e2]; exact u2
  have a0 : aB (nI i) (gN σ 60) := by rw [n0]; exact aB_nI hi (by omega)
  have a1 : aB (nI i) (gN σ 61) := by rw [n1]; exact aB_nI hi (by omega)
  unfold F_124
  rw [if_pos a0, if_pos a1, e1, e2, v1, v2, F75 (by omega), ob_some]
  dsimp only
  rw [if_pos q3, if_pos a0, if_pos a1, cl]
  rfl
theorem L123 (hN : 300 < N) (hl : KLn σ) (hB : KBr σ B) (htg : tg < 512) (hF : Fqs a b0 B v) : ∀ (r i : Nat), i + r = B.1 → b0 ≤ i → match fbr B.2 tg r i with
    | some i' => b0 ≤ i' ∧ i' < B.1 ∧ ∀ f, L_123 N (f + r) (nI tg) v.1.toInt32 v.2.toInt32 (nI i) σ = some (1, st_e (st_e σ 60 i' (adq (B.2 i').2 v).1.toInt32) 61 i' (adq (B.2 i').2 v).2.toInt32)
    | none => ∀ f, L_123 N (f + r) (nI tg) v.1.toInt32 v.2.toInt32 (nI i) σ = L_123 N f (nI tg) v.1.toInt32 v.2.toInt32 (nI B.1) σ := by
  obtain ⟨-, -, -, -, -, -, d1, d2, d3, d4, -⟩ := hl
  obtain ⟨p1, p2, p3, p4⟩ := hB
  obtain ⟨f1, f2, f3, f4⟩ := hF
  intro r
  induction r with
  | zero =>
    intro i hi _
    rw [Nat.add_zero] at hi
    subst hi
    exact fun f => rfl
  | succ r ih =>
    intro i hi hb
    obtain ⟨y1, y2, y3, y4⟩ := p4 i (by omega)
    have a59 : aB (nI i) (gN σ 59) := aB_nI (by omega) (by omega)
    have g59 : gE σ 59 (nI i).toNatClampNeg = nI (B.2 i).1 := by rw [nI_clamp (by omega)]; exact y1
    unfold fbr
    by_cases c : (B.2 i).1 = tg
    · rw [if_pos c]
      refine ⟨hb, by omega, fun f => ?_⟩
      rw [← Nat.add_assoc]
      unfold L_123
      obtain ⟨w1, w2⟩ := f4 i hb (by omega)
      rw [p1, if_neg (nle_nI (by omega) (by omega)), if_pos a59, g59, c, if_pos rfl, F124 hN d1 d2 (by omega) d4 f1 f2 y2 y3 w1 f3 w2, ob_some]
    · rw [if_neg c]
      have st : ∀ f, L_123 N (f + 1) (nI tg) v.1.toInt32 v.2.toInt32 (nI i) σ = L_123 N f (nI tg) v.1.toInt32 v.2.toInt32 (nI (i + 1)) σ := fun f => by
        conv => lhs; unfold L_123
        rw [p1, if_neg (nle_nI (by omega) (by omega)), if_pos a59, g59, if_neg (nik (by omega) (by omega) c), nI_1]
      have I := ih (i + 1) (by omega) (by omega)
      cases hf : fbr B.2 tg r (i + 1) with
      | some i' =>
        rw [hf] at I
        exact ⟨by omega, I.2.1, fun f => by rw [← Nat.add_assoc, st, I.2.2]⟩
      | none =>
        rw [hf] at I
        have I : ∀ f, L_123 N (f + r) (nI tg) v.1.toInt32 v.2.toInt32 (nI (i + 1)) σ = L_123 N f (nI tg) v.1.toInt32 v.2.toInt32 (nI B.1) σ := I
        exact fun f => by rw [← Nat.add_assoc, st, I]
/-- the branch is put down -/
theorem F123 (hN : 10000 < N) (hq : gC σ + 1000 < vz_M0) (hl : KLn σ) (hB : KBr σ B) (hC : KCm σ K B.1) (hK : 1 ≤ K.1) (hb : K.2.2 (K.1 - 1) ≤ B.1) (htg : tg < 512) (hF : Fqs a (K.2.2 (K.1 - 1)) B v) : match xbw (K.2.2 (K.1 - 1)) B tg v with
    | none => F_123 N (nI tg) v.1.toInt32 v.2.toInt32 σ = some (0, σ)
    | some B' => ∃ σ', F_123 N (nI tg) v.1.toInt32 v.2.toInt32 σ = some (1, σ') ∧ KBr σ' B' ∧ KCm σ' K B'.1 ∧ KLn σ' ∧ Fr 0 [(52, 12)] [] [] [58, 59, 60, 61] [] σ σ' := by
  have M := L123 (N := N) (by omega) hl hB htg hF (B.1 - K.2.2 (K.1 - 1)) (K.2.2 (K.1 - 1)) (by omega) (Nat.le_refl _)
  obtain ⟨m53, m63, m64, m65, m54, ⟨c1, c2, c3⟩, d1, d2, d3, d4, d5⟩ := id hl
  obtain ⟨p1, p2, p3, p4⟩ := id hB
  obtain ⟨q1, q2, q3, q4⟩ := id hC
  have k1 : nI K.1 - 1 = nI (K.1 - 1) := nI_sub (b := 1) hK
  have start : F_123 N (nI tg) v.1.toInt32 v.2.toInt32 σ = L_123 N N (nI tg) v.1.toInt32 v.2.toInt32 (nI (K.2.2 (K.1 - 1))) σ := by
    unfold F_123
    rw [q1, if_neg (show ¬ nI K.1 ≤ 0 from nle_nI (b := 0) (by omega) (by omega)), k1, if_pos (aB_nI (by omega) (by omega)), nI_clamp (by omega), (q3 (K.1 - 1) (by omega)).2]
  rw [start]
  unfold xbw
  cases hf : fbr B.2 tg (B.1 - K.2.2 (K.1 - 1)) (K.2.2 (K.1 - 1)) with
  | some i =>
    rw [hf] at M
    obtain ⟨m1, m2, m3⟩ := M
    dsimp only
    obtain ⟨s', es⟩ : ∃ s', st_e (st_e σ 60 i (adq (B.2 i).2 v).1.toInt32) 61 i (adq (B.2 i).2 v).2.toInt32 = s' := ⟨_, rfl⟩
    have fr : Fr 0 [(52, 12)] [] [] [58, 59, 60, 61] [] σ s' := by rw [← es]; exact Fr.t0 (Fr.e _ _ _ (by simp)) (Fr.e _ _ _ (by simp))
    have fr' : Fr 0 [] [] [] [60, 61] [] σ s' := by rw [← es]; exact Fr.t0 (Fr.e _ _ _ (by simp)) (Fr.e _ _ _ (by simp))
    have n0 : gN s' = gN σ := by rw [← es]; rfl
    refine ⟨s', ?_, ⟨(fr'.1 _ _ (by simp)).trans p1, p2, by rw [n0]; exact p3, fun j hj => ?_⟩, hC.fr fr' (by simp) (by simp), hl.eq n0, fr⟩
    · have := m3 (N - (B.1 - K.2.2 (K.1 - 1)))
      rw [show N - (B.1 - K.2.2 (K.1 - 1)) + (B.1 - K.2.2 (K.1 - 1)) = N by omega, es] at this
      exact this
    · have hj : j < B.1 := hj
      show gE s' 59 j = nI (upv B.2 i (tg, adq (B.2 i).2 v) j).1 ∧ gE s' 60 j = (upv B.2 i (tg, adq (B.2 i).2 v) j).2.1.toInt32 ∧ gE s' 61 j = (upv B.2 i (tg, adq (B.2 i).2 v) j).2.2.toInt32 ∧ (upv B.2 i (tg, adq (B.2 i).2 v) j).1 < 512
      obtain ⟨y1, y2, y3, y4⟩ := p4 j hj
      rw [(fr'.2.2.2.1 59 (by simp)).2]
      by_cases c : j = i
      · subst c
        rw [upv_s]
        have e := fbr_at hf
        refine ⟨?_, ?_, ?_, htg⟩
        · show gE σ 59 j = nI tg
          rw [← e]
          exact y1
        · rw [← es, gE_e, if_neg (fun z => absurd z.1 (by decide)), gE_e, if_pos ⟨rfl, rfl⟩]
        · rw [← es, gE_e, if_pos ⟨rfl, rfl⟩]
      · rw [upv_o _ _ c]
        refine ⟨y1, ?_, ?_, y4⟩
        · rw [← es, gE_e, if_neg (fun z => c z.2), gE_e, if_neg (fun z => c z.2)]; exact y2
        · rw [← es, gE_e, if_neg (fun z => c z.2), gE_e, if_neg (fun z => c z.2)]; exact y3
  | none =>
    rw [hf] at M
    have M : ∀ f, L_123 N (f + (B.1 - K.2.2 (K.1 - 1))) (nI tg) v.1.toInt32 v.2.toInt32 (nI (K.2.2 (K.1 - 1))) σ = L_123 N f (nI tg) v.1.toInt32 v.2.toInt32 (nI B.1) σ := M
    have e0 : L_123 N N (nI tg) v.1.toInt32 v.2.toInt32 (nI (K.2.2 (K.1 - 1))) σ = L_123 N (N - (B.1 - K.2.2 (K.1 - 1)) - 1 + 1) (nI tg) v.1.toInt32 v.2.toInt32 (nI B.1) σ := by
      have := M (N - (B.1 - K.2.2 (K.1 - 1)) - 1 + 1)
      rw [show N - (B.1 - K.2.2 (K.1 - 1)) - 1 + 1 + (B.1 - K.2.2 (K.1 - 1)) = N by omega] at this
      exact this
    rw [e0]
    dsimp only
    by_cases c : B.1 = 4096
    · rw [if_pos c]
      show L_123 N (N - (B.1 - K.2.2 (K.1 - 1)) - 1 + 1) (nI tg) v.1.toInt32 v.2.toInt32 (nI B.1) σ = _
      unfold L_123
      rw [p1, if_pos (Int32.le_refl _), c, if_neg (by decide)]
    · rw [if_neg c]
      dsimp only
      have lt : nI B.1 < 4096 := (nI_lti (b := 4096) (by omega) (by decide)).mpr (by omega)
      -- the last step, in a store with room
      have fin : ∀ s : st_S, KLn s → KBr s B → KCm s K B.1 → B.1 < gN s 59 → ∃ σ', J_123_136 N (nI tg) v.1.toInt32 v.2.toInt32 s = some (1, σ') ∧ KBr σ' (B.1 + 1, upv B.2 B.1 (tg, v)) ∧ KCm σ' K (B.1 + 1) ∧ KLn σ' ∧ Fr 0 [(52, 12)] [] [] [58, 59, 60, 61] [] s σ' := by
        intro s sl sB sC slt
        obtain ⟨-, -, -, -, -, ⟨g1, g2, g3⟩, e1, e2, e3, e4⟩ := id sl
        obtain ⟨r1, r2, r3, r4⟩ := sB
        obtain ⟨t1, t2, t3, t4⟩ := sC
        obtain ⟨s', es⟩ : ∃ s', st_e (st_i (st_e (st_e (st_e s 59 B.1 (nI tg)) 60 B.1 v.1.toInt32) 61 B.1 v.2.toInt32) 52 12 (nI (B.1 + 1))) 58 K.1 (nI (B.1 + 1)) = s' := ⟨_, rfl⟩
        have fr : Fr 0 [(52, 12)] [] [] [58, 59, 60, 61] [] s s' := by rw [← es]; exact Fr.t0 (Fr.e _ _ _ (by simp)) (Fr.t0 (Fr.e _ _ _ (by simp)) (Fr.t0 (Fr.e _ _ _ (by simp)) (Fr.t0 (Fr.i _ _ (by simp)) (Fr.e _ _ _ (by simp)))))
        have n0 : gN s' = gN s := by rw [← es]; rfl
        have gE' : ∀ a j, gE s' a j = if a = 58 ∧ j = K.1 then nI (B.1 + 1) else if a = 61 ∧ j = B.1 then v.2.toInt32 else if a = 60 ∧ j = B.1 then v.1.toInt32 else if a = 59 ∧ j = B.1 then nI tg else gE s a j := fun a j => by rw [← es]; rfl
        have g59' : ∀ j, gE s' 59 j = if j = B.1 then nI tg else gE s 59 j := fun j => by
          rw [gE', if_neg (fun z => absurd z.1 (by decide)), if_neg (fun z => absurd z.1 (by decide)), if_neg (fun z => absurd z.1 (by decide))]
          by_cases q : j = B.1
          · rw [if_pos ⟨rfl, q⟩, if_pos q]
          · rw [if_neg (fun z => q z.2), if_neg q]
        have g60' : ∀ j, gE s' 60 j = if j = B.1 then v.1.toInt32 else gE s 60 j := fun j => by
          rw [gE', if_neg (fun z => absurd z.1 (by decide)), if_neg (fun z => absurd z.1 (by decide))]
          by_cases q : j = B.1
          · rw [if_pos ⟨rfl, q⟩, if_pos q]
          · rw [if_neg (fun z => q z.2), if_neg q, if_neg (fun z => absurd z.1 (by decide))]
        have g61' : ∀ j, gE s' 61 j = if j = B.1 then v.2.toInt32 else gE s 61 j := fun j => by
          rw [gE', if_neg (fun z => absurd z.1 (by decide))]
          by_cases q : j = B.1
          · rw [if_pos ⟨rfl, q⟩, if_pos q]
          · rw [if_neg (fun z => q z.2), if_neg q, if_neg (fun z => absurd z.1 (by decide)), if_neg (fun z => absurd z.1 (by decide))]
        have g57' : ∀ j, gE s' 57 j = gE s 57 j := fun j => by rw [gE', if_neg (fun z => absurd z.1 (by decide)), if_neg (fun z => absurd z.1 (by decide)), if_neg (fun z => absurd z.1 (by decide)), if_neg (fun z => absurd z.1 (by decide))]
        have g58' : ∀ j, j ≠ K.1 → gE s' 58 j = gE s 58 j := fun j q => by rw [gE', if_neg (fun z => q z.2), if_neg (fun z => absurd z.1 (by decide)), if_neg (fun z => absurd z.1 (by decide)), if_neg (fun z => absurd z.1 (by decide))]
        refine ⟨s', ?_, ⟨by rw [← es]; rfl, by show B.1 + 1 ≤ 4096; omega, by rw [n0]; show B.1 + 1 ≤ _; omega, fun j hj => ?_⟩, ⟨(fr.1 _ _ (by simp)).trans t1, by rw [n0]; exact t2, fun d hd => ?_, fun _ => ?_⟩, sl.eq n0, fr⟩
        · unfold J_123_136
          rw [r1, t1, if_pos (aB_nI slt (by omega)), if_pos (show aB (nI B.1) (gN s 60) by rw [e1]; exact aB_nI slt (by omega)), if_pos (show aB (nI B.1) (gN s 61) by rw [e2]; exact aB_nI slt (by omega)), if_pos (show aB (nI K.1) (gN s 58) from aB_nI (by omega) (by omega)), nI_clamp (by omega), nI_clamp (by omega), nI_1, es]
        · have hj : j < B.1 + 1 := hj
          show gE s' 59 j = nI (upv B.2 B.1 (tg, v) j).1 ∧ gE s' 60 j = (upv B.2 B.1 (tg, v) j).2.1.toInt32 ∧ gE s' 61 j = (upv B.2 B.1 (tg, v) j).2.2.toInt32 ∧ (upv B.2 B.1 (tg, v) j).1 < 512
          rw [g59', g60', g61']
          by_cases cj : j = B.1
          · subst cj
            rw [upv_s, if_pos rfl, if_pos rfl, if_pos rfl]
            exact ⟨rfl, rfl, rfl, htg⟩
          · rw [upv_o _ _ cj, if_neg cj, if_neg cj, if_neg cj]
            exact r4 j (by omega)
        · rw [g57', g58' d (by omega)]
          exact t3 d hd
        · rw [gE', if_pos ⟨rfl, rfl⟩]
      by_cases cl : B.1 < gN σ 59
      · obtain ⟨s', z1, z2⟩ := fin σ hl hB hC cl
        refine ⟨s', ?_, z2⟩
        conv => lhs; unfold L_123
        rw [p1, if_pos (Int32.le_refl _), if_pos lt, if_pos ((nI_lti (by omega) (by omega)).mpr cl)]
        exact z1
      · have el : B.1 = gN σ 59 := by omega
        have dd : (2 : Int32) * nI (gN σ 59) = nI (2 * gN σ 59) := nI_dbl _
        have kk : (nI (2 * gN σ 59)).toNatClampNeg = 2 * gN σ 59 := nI_clamp (by omega)
        have pos : ∀ a : Nat, a < 2 ^ 31 → ¬ nI a < 0 := fun a ha z => by have := (nI_lti (b := 0) ha (by decide)).mp z; omega
        obtain ⟨s1, e1⟩ : ∃ s1, st_gw σ 59 (gN σ 59) (2 * gN σ 59) = s1 := ⟨_, rfl⟩
        obtain ⟨s2, e2⟩ : ∃ s2, st_gw s1 60 (gN σ 60) (2 * gN σ 59) = s2 := ⟨_, rfl⟩
        obtain ⟨s3, e3⟩ : ∃ s3, st_gw s2 61 (gN σ 61) (2 * gN σ 59) = s3 := ⟨_, rfl⟩
        have n1 : ∀ a, gN s1 a = if a = 59 then 2 * gN σ 59 else gN σ a := fun a => by rw [← e1, gw_N]
        have n2 : ∀ a, gN s2 a = if a = 60 then 2 * gN σ 59 else gN s1 a := fun a => by rw [← e2, gw_N]
        have n3 : ∀ a, gN s3 a = if a = 61 then 2 * gN σ 59 else gN s2 a := fun a => by rw [← e3, gw_N]
        have n60 : gN s1 60 = gN σ 60 := by rw [n1, if_neg (by decide)]
        have n61 : gN s2 61 = gN σ 61 := by rw [n2, if_neg (by decide), n1, if_neg (by decide)]
        have cc1 : gC s1 = gC σ + 1 := by rw [← e1]; rfl
        have cc2 : gC s2 = gC σ + 2 := by rw [← e2]; show gC s1 + 1 = _; rw [cc1]
        have f1 : Fr 0 [(52, 12)] [] [] [58, 59, 60, 61] [] σ s1 := by rw [← e1]; exact gw_fr2 rfl (by omega) (by omega) (by simp) (by decide)
        have f2 : Fr 0 [(52, 12)] [] [] [58, 59, 60, 61] [] s1 s2 := by rw [← e2]; exact gw_fr2 n60 (by omega) (by omega) (by simp) (by decide)
        have f3 : Fr 0 [(52, 12)] [] [] [58, 59, 60, 61] [] s2 s3 := by rw [← e3]; exact gw_fr2 n61 (by omega) (by omega) (by simp) (by decide)
        have g1 : ∀ a k, gI s3 a k = gI σ a k := fun a k => by rw [← e3, ← e2, ← e1]; rfl
        have E3 : ∀ a j, a ≠ 59 → a ≠ 60 → a ≠ 61 → gE s3 a j = gE σ a j := fun a j z1 z2 z3 => by rw [← e3, gw_E, if_neg z3, ← e2, gw_E, if_neg z2, ← e1, gw_E, if_neg z1]
        have E59 : ∀ j, j < gN σ 59 → gE s3 59 j = gE σ 59 j := fun j hj => by rw [← e3, gw_E, if_neg (by decide), ← e2, gw_E, if_neg (by decide), ← e1, gw_E, if_pos rfl, if_pos hj]
        have E60 : ∀ j, j < gN σ 59 → gE s3 60 j = gE σ 60 j := fun j hj => by rw [← e3, gw_E, if_neg (by decide), ← e2, gw_E, if_pos rfl, if_pos (by omega), ← e1, gw_E, if_neg (by decide)]
        have E61 : ∀ j, j < gN σ 59 → gE s3 61 j = gE σ 61 j := fun j hj => by rw [← e3, gw_E, if_pos rfl, if_pos (by omega), ← e2, gw_E, if_neg (by decide), ← e1, gw_E, if_neg (by decide)]
        have mo : ∀ a, a ≠ 59 → a ≠ 60 → a ≠ 61 → gN s3 a = gN σ a := fun a z1 z2 z3 => by rw [n3, if_neg z3, n2, if_neg z2, n1, if_neg z1]
        have m59 : gN s3 59 = 2 * gN σ 59 := by rw [n3, if_neg (by decide), n2, if_neg (by decide), n1, if_pos rfl]
        have m60 : gN s3 60 = 2 * gN σ 59 := by rw [n3, if_neg (by decide), n2, if_pos rfl]
        have m61 : gN s3 61 = 2 * gN σ 59 := by rw [n3, if_pos rfl]
        have l3 : KLn s3 := by
          unfold KLn
          rw [m59, m60, m61, mo 53 (by decide) (by decide) (by decide), mo 63 (by decide) (by decide) (by decide), mo 64 (by decide) (by decide) (by decide), mo 65 (by decide) (by decide) (by decide), mo 54 (by decide) (by decide) (by decide), mo 55 (by decide) (by decide) (by decide), mo 56 (by decide) (by decide) (by decide), mo 57 (by decide) (by decide) (by decide), mo 58 (by decide) (by decide) (by decide)]
          exact ⟨m53, m63, m64, m65, m54, ⟨c1, c2, c3⟩, rfl, rfl, by omega, by omega, d5.of fun a z => mo a (by omega) (by omega) (by omega)⟩
        have B3 : KBr s3 B := ⟨(g1 _ _).trans p1, p2, by rw [m59]; omega, fun j hj => by rw [E59 j (by omega), E60 j (by omega), E61 j (by omega)]; exact p4 j hj⟩
        have C3 : KCm s3 K B.1 := ⟨(g1 _ _).trans q1, by rw [mo 57 (by decide) (by decide) (by decide)]; exact q2, fun d hd => by rw [E3 57 d (by decide) (by decide) (by decide), E3 58 d (by decide) (by decide) (by decide)]; exact q3 d hd, fun z => by rw [E3 58 _ (by decide) (by decide) (by decide)]; exact q4 z⟩
        obtain ⟨s', z1, z2, z3, z4, z5⟩ := fin s3 l3 B3 C3 (by rw [m59]; omega)
        refine ⟨s', ?_, z2, z3, z4, Fr.t0 f1 (Fr.t0 f2 (Fr.t0 f3 z5))⟩
        conv => lhs; unfold L_123
        rw [p1, if_pos (Int32.le_refl _), if_pos lt, if_neg (fun z => cl ((nI_lti (by omega) (by omega)).mp z)), dd, if_pos (show gwB σ 59 (nI (2 * gN σ 59)) from ⟨pos _ (by omega), by rw [kk]; omega, by rw [kk]; omega, by omega⟩), show st_gw σ 59 (gN σ 59) (nI (2 * gN σ 59)).toNatClampNeg = s1 by rw [kk]; exact e1, if_pos (show gwB s1 60 (nI (2 * gN σ 59)) from ⟨pos _ (by omega), by rw [kk, n60]; omega, by rw [kk]; omega, by omega⟩), show st_gw s1 60 (gN σ 60) (nI (2 * gN σ 59)).toNatClampNeg = s2 by rw [kk]; exact e2, if_pos (show gwB s2 61 (nI (2 * gN σ 59)) from ⟨pos _ (by omega), by rw [kk, n61]; omega, by rw [kk]; omega, by omega⟩), show st_gw s2 61 (gN σ 61) (nI (2 * gN σ 59)).toNatClampNeg = s3 by rw [kk]; exact e3]
        exact z1
end KG2
