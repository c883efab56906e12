/-! a turn with explore -/
/-- what the class's explore changes -/
abbrev FKy (t : Nat) (σ σ' : st_S) : Prop := Fr 0 [(1, 8), (1, 9), (42, 5), (42, 6), (52, 9), (52, 10), (52, 11), (52, 12), (62, 7), (62, 8), (62, 9)] [(42, 7), (42, 8)] [(42, 3), (42, 4), (62, 5), (62, 6)] [43, 44, 45, 53, 54, 55, 56, 57, 58, 59, 60, 61, 63, 64, 65, t + 7, t + 8, t + 9] [] σ σ'
section TU5
variable {N t g n m c : Nat} {σ σ' σ'' : st_S} {l : List Int32} {w : List (Nat × Nat × Nat)} {X : Tx} {X' fs hs fa : Nat → Nat} {tge : Int32} {D : Nat → Nat → Int32} {tg : Tr} {L : Nat} {xs : Nat → Int32}
theorem FKx.ky (f : FKx t σ σ') : FKy t σ σ' := f.mo (by intro q z; simp only [List.mem_cons, List.not_mem_nil, or_false] at z ⊢; rcases z with z | z | z | z | z | z | z | z | z <;> simp [z]) (fun _ q => q) (fun _ q => q) (fun _ q => q) (fun _ q => q)
/-- the class stays as it must -/
theorem kst_ky (ht : t = 4 ∨ t = 20) (h : Kst σ) (f : FKy t σ σ') (ln : LN σ' t) (kl : KLn σ') : Kst σ' := by
  obtain ⟨⟨W, w1, w2, w3, w4⟩, h2, h3, -⟩ := h
  have eI : ∀ a k, a ≠ 1 → a ≠ 42 → a ≠ 52 → a ≠ 62 → gI σ' a k = gI σ a k := fun a k z1 z2 z3 z4 => f.1 _ _ (by simp only [List.mem_cons, List.not_mem_nil, or_false, Prod.mk.injEq]; omega)
  have eA : ∀ a, (a < t + 7 ∨ t + 9 < a) → (a < 43 ∨ (45 < a ∧ a < 53) ∨ 65 < a) → gN σ' a = gN σ a ∧ gE σ' a = gE σ a := fun a z1 z2 => f.2.2.2.1 _ (by simp only [List.mem_cons, List.not_mem_nil, or_false]; omega)
  obtain ⟨m10, m11, m12, m13, m14, m15, m43, m44, m45⟩ := id ln
  refine ⟨⟨W, (eI _ _ (by decide) (by decide) (by decide) (by decide)).trans w1, w2, fun c hc => (eA _ (by omega) (by omega)).1.trans (w3 c hc), Wa.fr (fun c hc i _ => by rw [(eA (37 + c) (by omega) (by omega)).2]) w4⟩, fun s hs => ?_, ⟨(eA _ (by omega) (by omega)).1.trans h3.1, (eA _ (by omega) (by omega)).1.trans h3.2.1, (eA _ (by omega) (by omega)).1.trans h3.2.2.1, (eA _ (by omega) (by omega)).1.trans h3.2.2.2⟩, kl⟩
  obtain ⟨⟨n, L, hL, c1, c2, c3, c4, c5⟩, l10, l11, l12, l13, l14, l15, -⟩ := h2 s hs
  have co := kl.2.2.2.2.2.2.2.2.2.2
  have c5' : ∀ c, c < 8 → gN σ' (s + 2 + c) = L := fun c hc => by
    by_cases e : s = t
    · by_cases z : c < 5
      · exact (eA _ (by omega) (by omega)).1.trans (c5 c hc)
      · have b4 : gN σ' (s + 6) = L := (eA (s + 6) (by omega) (by omega)).1.trans (c5 4 (by decide))
        have : gN σ' (s + 2 + c) = gN σ' (s + 6) := by
          have cc : c = 5 ∨ c = 6 ∨ c = 7 := by omega
          rcases hs with rfl | rfl
          · rcases cc with rfl | rfl | rfl
            · exact co.1.1
            · exact co.1.2.1
            · exact co.1.2.2
          · rcases cc with rfl | rfl | rfl
            · exact co.2.1
            · exact co.2.2.1
            · exact co.2.2.2
        exact this.trans b4
    · exact (eA _ (by omega) (by omega)).1.trans (c5 c hc)
  refine ⟨⟨n, L, hL, (eI _ _ (by omega) (by omega) (by omega) (by omega)).trans c1, c2, c3, c4, c5'⟩, ?_⟩
  exact ⟨(eA _ (by omega) (by omega)).1.trans l10, (eA _ (by omega) (by omega)).1.trans l11, (eA _ (by omega) (by omega)).1.trans l12, (eA _ (by omega) (by omega)).1.trans l13, (eA _ (by omega) (by omega)).1.trans l14, (eA _ (by omega) (by omega)).1.trans l15, m43, m44, m45⟩
/-- the class explores, or tells again -/
theorem cls_x (hN : 1000000 < N) (ht : t = 4 ∨ t = 20) (h3 : Kst σ) (hq : gC σ + 60000 < vz_M0) (h17 : ¬ gI σ 1 7 = 0) (r5 : gR σ 1 5 = t) (tx : Tx1 σ t g l w X tg n X' fs tge hs m D fa) (k1 : gI σ 1 8 ≠ 0 → KRs σ X.1 (xex l w X tg)) : ∃ σ1, vz_ev P0 13 107 0 (lv_args 0 [.ref 1]) [] (hp σ) (.inl (some (.int (gI σ1 62 7))), hp σ1) ∧ KRs σ1 X.1 (xex l w X tg) ∧ gI σ1 1 9 = gI σ1 62 8 ∧ gI σ1 1 8 ≠ 0 ∧ FKy t σ σ1 ∧ Kst σ1 ∧ (∃ M, KM l w X X' fs n tge hs M ∧ CS σ1 t n M) ∧ SQ σ1 t X.1 X' fs tge X.2.2.length hs := by
  obtain ⟨t1, t2, t3, t4, t5, t6, -, -⟩ := tx
  by_cases c8 : gI σ 1 8 = 0
  · obtain ⟨M, km, cs⟩ := t5
    have K := F108 (N := N) ⟨ht, hN, t1, t2, t3.1⟩ hq (fun c hc => (t3.2.2.2 c hc).2) t4 ⟨⟨M, km, cs⟩, t6, h3.2.2.2, Fr.rf _⟩
    have go : ∀ p : st_S, F_108 N t σ = some p → KB0 t n l w X X' fs tge hs σ p → KRs p X.1 (xex l w X tg) → ∃ σ1, vz_ev P0 13 107 0 (lv_args 0 [.ref 1]) [] (hp σ) (.inl (some (.int (gI σ1 62 7))), hp σ1) ∧ KRs σ1 X.1 (xex l w X tg) ∧ gI σ1 1 9 = gI σ1 62 8 ∧ gI σ1 1 8 ≠ 0 ∧ FKy t σ σ1 ∧ Kst σ1 ∧ (∃ M, KM l w X X' fs n tge hs M ∧ CS σ1 t n M) ∧ SQ σ1 t X.1 X' fs tge X.2.2.length hs := by
      intro p hp' hb hr
      obtain ⟨⟨M, bm, b1, b2, b3, b4⟩, ⟨b0, ⟨d1, d2, d3, d4, d5⟩, bc, s5, s6, s7⟩, bl, bf⟩ := hb
      obtain ⟨s, es⟩ : ∃ s, st_i (st_i p 1 8 1) 1 9 (gI p 62 8) = s := ⟨_, rfl⟩
      have f : Fr 0 [(1, 8), (1, 9)] [] [] [] [] p s := by rw [← es]; exact Fr.t0 (Fr.i _ _ (by simp)) (Fr.i _ _ (by simp))
      have nN : gN s = gN p := by rw [← es]; rfl
      have nE : gE s = gE p := by rw [← es]; rfl
      have eI : ∀ a k, a ≠ 1 → gI s a k = gI p a k := fun a k z => f.1 a k (by simp only [List.mem_cons, List.not_mem_nil, or_false, Prod.mk.injEq]; omega)
      have fk : FKy t σ s := Fr.t0 bf.ky (f.mo (by intro q z; simp only [List.mem_cons, List.not_mem_nil, or_false] at z ⊢; rcases z with z | z <;> simp [z]) (by simp) (by simp) (by simp) (by simp))
      have sq : SQ s t X.1 X' fs tge X.2.2.length hs := by
        unfold SQ LN
        rw [nN, nE, eI t 7 (by omega), eI t 8 (by omega), eI t 9 (by omega), eI t 10 (by omega), eI t 11 (by omega)]
        exact ⟨b0, ⟨d1, d2, d3, d4, d5⟩, bc, s5, s6, s7⟩
      refine ⟨s, ?_, hr.up (fun k _ _ => eI _ _ (by decide)) (fun k _ _ => eI _ _ (by decide)) (fun a _ _ => ⟨by rw [nN], by rw [nE]⟩), ?_, ?_, fk, kst_ky ht h3 fk sq.1 (bl.eq nN), ⟨M, bm, (eI _ _ (by omega)).trans b1, b2, by rw [nN]; exact b3, by rw [nE]; exact b4⟩, sq⟩
      · rw [eI 62 7 (by decide), ← es]
        exact lz_107n (d := 2) ht h17 c8 r5 hp'
      · rw [eI 62 8 (by decide), ← es, gI_i, if_pos ⟨rfl, rfl⟩]
      · rw [← es, gI_i, if_neg (by decide), gI_i, if_pos ⟨rfl, rfl⟩]
        decide
    cases hx : xex l w X tg with
    | inl e =>
      rw [hx] at K go
      obtain ⟨-, p, y1, y2, y3, y4, ⟨y5, y6, -⟩, y7⟩ := K
      exact go p y1 y7 ⟨y2, y3, y4, y5, y6⟩
    | inr G =>
      rw [hx] at K go
      obtain ⟨p, y1, y2, y3, y4, y5, y6, y7⟩ := K
      exact go p y1 y5 ⟨y2, y3, y4, y6.gr y7, y7⟩
  · have hr := k1 c8
    obtain ⟨s, es⟩ : ∃ s, st_i σ 1 9 (gI σ 62 8) = s := ⟨_, rfl⟩
    have f : Fr 0 [(1, 9)] [] [] [] [] σ s := by rw [← es]; exact Fr.i _ _ (by simp)
    have nN : gN s = gN σ := by rw [← es]; rfl
    have nE : gE s = gE σ := by rw [← es]; rfl
    have eI : ∀ a k, a ≠ 1 → gI s a k = gI σ a k := fun a k z => f.1 a k (by simp only [List.mem_cons, List.not_mem_nil, or_false, Prod.mk.injEq]; omega)
    have fk : FKy t σ s := f.mo (by intro q z; simp only [List.mem_cons, List.not_mem_nil, or_false] at z ⊢; simp [z]) (by simp) (by simp) (by simp) (by simp)
    obtain ⟨M, bm, b1, b2, b3, b4⟩ := t5
    obtain ⟨b0, ⟨d1, d2, d3, d4, d5⟩, bc, s5, s6, s7⟩ := t6
    have sq : SQ s t X.1 X' fs tge X.2.2.length hs := by
      unfold SQ LN
      rw [nN, nE, eI t 7 (by omega), eI t 8 (by omega), eI t 9 (by omega), eI t 10 (by omega), eI t 11 (by omega)]
      exact ⟨b0, ⟨d1, d2, d3, d4, d5⟩, bc, s5, s6, s7⟩
    refine ⟨s, ?_, hr.up (fun k _ _ => eI _ _ (by decide)) (fun k _ _ => eI _ _ (by decide)) (fun a _ _ => ⟨by rw [nN], by rw [nE]⟩), ?_, ?_, fk, kst_ky ht h3 fk sq.1 (h3.2.2.2.eq nN), ⟨M, bm, (eI _ _ (by omega)).trans b1, b2, by rw [nN]; exact b3, by rw [nE]; exact b4⟩, sq⟩
    · rw [eI 62 7 (by decide), ← es]
      exact lz_107m (d := 2) h17 c8
    · rw [eI 62 8 (by decide), ← es, gI_i, if_pos ⟨rfl, rfl⟩]
    · rw [f.1 1 8 (by simp)]
      exact c8
theorem st_ii (σ : st_S) (a k : Nat) (u v : Int32) : st_i (st_i σ a k u) a k v = st_i σ a k v := by
  unfold st_i
  congr 1
  funext b j
  show st_u (st_u σ.1 a k u) a k v b j = st_u σ.1 a k v b j
  unfold st_u
  by_cases z : b = a ∧ j = k
  · rw [if_pos z, if_pos z]
  · rw [if_neg z, if_neg z, if_neg z]
theorem f210_0 (σ : st_S) : F_210 N g (st_i σ 66 0 0) = F_210 N g σ := by
  have e : gI (st_i σ 66 0 0) 66 11 = gI σ 66 11 := by rw [gI_i, if_neg (by decide)]
  unfold F_210
  rw [e, st_ii]
/-- the reference's lists after exploring -/
theorem rst_fx (h : Rst σ) (f : FX σ σ') (hk : Skx σ' 165) (xl : XLn σ') (hb : ∀ a, a = 176 ∨ a = 178 ∨ a = 180 → 16 ≤ gN σ' a ∧ gN σ' a ≤ 40000) : Rst σ' := by
  obtain ⟨h1, h2, -, -⟩ := h
  have eI : ∀ a k, 79 ≤ a → a ≤ 164 → gI σ' a k = gI σ a k := fun a k z1 z2 => f.1 _ _ (by simp only [List.mem_cons, List.not_mem_nil, or_false, Prod.mk.injEq]; omega)
  have eA : ∀ a, a < 166 ∨ a = 169 ∨ a = 170 → gN σ' a = gN σ a ∧ gE σ' a = gE σ a := fun a z => f.2.2.2.1 _ (by simp only [List.mem_cons, List.not_mem_nil, or_false]; omega)
  refine ⟨fun g hg => ?_, ?_, xl, hb⟩
  · obtain ⟨k1, k2, a1, a2, a3, a4, a5, a6, a7, a8, a9, a10⟩ := h1 g hg
    refine ⟨fun o ho => ?_, fun o ho => ?_, fun a p q => (eA a (by omega)).1.trans (a1 a p q), fun a p q => (eA a (by omega)).1.trans (a2 a p q), fun a p q => (eA a (by omega)).1.trans (a3 a p q), fun a p q => (eA a (by omega)).1.trans (a4 a p q), (eA _ (by omega)).1.trans a5, (eA _ (by omega)).1.trans a6, xl.1, xl.2.1, (eA _ (by omega)).1.trans a9, (eA _ (by omega)).1.trans a10⟩
    · by_cases q : o = 165
      · rw [q]; exact hk
      · have ho' := ho
        simp only [List.mem_cons, List.not_mem_nil, or_false] at ho'
        obtain ⟨M, ⟨u1, u2, u3, u4⟩, u5⟩ := k1 o ho
        obtain ⟨e1, e2⟩ := eA (o + 1) (by omega)
        exact ⟨M, ⟨(eI o 1 (by omega) (by omega)).trans u1, by rw [e1]; exact u2, by rw [e1]; exact u3, by rw [e2]; exact u4⟩, by rw [e1]; exact u5⟩
    · have ho' := ho
      simp only [List.mem_cons, List.not_mem_nil, or_false] at ho'
      rw [(eA (o + 1) (by omega)).1]
      exact k2 o ho
  · unfold Ryw B78
    rw [(eA 72 (by omega)).1, (eA 74 (by omega)).1, (eA 76 (by omega)).1, (eA 78 (by omega)).1]
    exact h2
end TU5
