/-! the class's checker: all of a rule -/
theorem chk_3 {l : List Int32} {w : List (Nat × Nat × Nat)} {E : List En} {co : Bool} : ∀ (T : Tr) (kd : Nat), Wf w T → chk l w E co T = .inr kd → kd < 3 ∧ (lev T ≤ 6 → kd = 1 ∨ kd = 2) := by
  intro T
  induction T with
  | leaf k =>
    intro kd _ h
    unfold chk at h
    have : kd = 1 ∨ kd = 2 := by
      split at h
      · injection h with h; omega
      · split at h
        · unfold chn at h
          split at h
          · cases h
          · split at h
            · cases h
            · injection h with h
              subst h
              split
              · exact Or.inr rfl
              · exact Or.inl rfl
        · injection h with h; omega
    exact ⟨by omega, fun _ => this⟩
  | branch n l' r il ir =>
    intro kd hW h
    obtain ⟨hWl, hWr, -, hwf⟩ := hW
    have hl : lev (.branch n l' r) = lvo (n % 64) := rfl
    rw [hl]
    unfold chk at h
    by_cases cu : un (n % 64) = true
    · rw [if_pos cu] at h
      obtain ⟨a, ha, h⟩ := sbd_i h
      obtain ⟨i1, i2⟩ := ir a hWr ha
      unfold ku at h
      split at h
      · rename_i c35
        injection h with h
        subst h
        refine ⟨i1, fun _ => i2 ?_⟩
        rw [c35] at hwf
        exact hwf.2.2.2
      · split at h
        · split at h
          · injection h with h; omega
          · cases h
        · split at h
          · injection h with h; omega
          · cases h
    · rw [if_neg cu] at h
      have cu0 : un (n % 64) = false := by simpa using cu
      obtain ⟨a, ha, h⟩ := sbd_i h
      obtain ⟨b, hb, h⟩ := sbd_i h
      obtain ⟨i1, i2⟩ := il a (hWl cu0) ha
      obtain ⟨j1, j2⟩ := ir b hWr hb
      unfold kr at h
      repeat' split at h
      all_goals first
        | cases h; done
        | (injection h with h; subst h; refine ⟨by omega, fun z => ?_⟩; first
            | omega
            | (exfalso
               have z : lvo (n % 64) ≤ 6 := z
               unfold lvo at z
               repeat' split at z
               all_goals omega))
theorem kr_v {pl op a b kd : Nat} (h : kr pl op a b = .inr kd) (ho : 4 ≤ op) (ho2 : op ≤ 18) : kd = if op < 10 then 1 else if op = 16 then 1 else 2 := by
  unfold kr at h
  by_cases c1 : op = 10 ∨ op = 11
  · rw [if_pos c1] at h
    split at h
    · injection h with h; rw [if_neg (by omega), if_neg (by omega)]; exact h.symm
    · cases h
  rw [if_neg c1] at h
  by_cases c2 : op = 17 ∨ op = 18
  · rw [if_pos c2] at h
    split at h
    · injection h with h; rw [if_neg (by omega), if_neg (by omega)]; exact h.symm
    · cases h
  rw [if_neg c2, if_neg (by omega), if_neg (by omega), if_neg (by omega)] at h
  by_cases c3 : 12 ≤ op ∧ op ≤ 15
  · rw [if_pos c3] at h
    split at h
    · injection h with h; rw [if_neg (by omega), if_neg (by omega)]; exact h.symm
    · cases h
  rw [if_neg c3] at h
  split at h
  · injection h with h
    by_cases z : op < 10
    · rw [if_pos z]; exact h.symm
    · rw [if_neg z, if_pos (by omega)]; exact h.symm
  · cases h
section CKR
variable {N : Nat} {t n : Nat} {l : List Int32} {w : List (Nat × Nat × Nat)} {E : List En} {X : Nat → Nat} {h hop b : Nat}
theorem nI_1k {k : Nat} (h : k < 3) {m : Nat} (hm : m < 3) : nI k = nI m ↔ k = m := nI_eq (by omega) (by omega)
theorem dI {k m : Nat} {x : Int32} (hx : x = nI m) (hk : k < 3) (hm : m < 3) : decide (nI k = x) = decide (k = m) := by
  subst hx
  by_cases c : k = m
  · rw [decide_eq_true c, decide_eq_true (by rw [c])]
  · rw [decide_eq_false c, decide_eq_false (fun z => c ((nI_1k hk hm).mp z))]
/-- the pure kinds are the nodes' -/
theorem ckn_u {pl op a : Nat} {kb kc : Int32} (ha : a < 3) (ho : op = 9 ∨ op = 16 ∨ op = 22) : ku pl op a = if (ckn op (nI a) kb kc).2 = true then .inr (if op = 16 then 2 else 1) else .inl (3, pl) := by
  have ha : a = 0 ∨ a = 1 ∨ a = 2 := by omega
  rcases ho with rfl | rfl | rfl <;> rcases ha with rfl | rfl | rfl <;> rfl
theorem ckn_c {pl a kx ky : Nat} (ha : a < 3) (hx : kx = 1 ∨ kx = 2) (hy : ky = 1 ∨ ky = 2) : (∃ kd, kd < 3 ∧ kr pl 19 a (if kx = ky then kx else 0) = .inr kd ∧ ckn 19 (nI a) (nI kx) (nI ky) = (nI kd, true)) ∨ (kr pl 19 a (if kx = ky then kx else 0) = .inl (3, pl) ∧ (ckn 19 (nI a) (nI kx) (nI ky)).2 = false) := by
  have ha : a = 0 ∨ a = 1 ∨ a = 2 := by omega
  rcases ha with rfl | rfl | rfl <;> rcases hx with rfl | rfl <;> rcases hy with rfl | rfl <;> first
    | exact Or.inr ⟨rfl, rfl⟩
    | exact Or.inl ⟨1, by decide, rfl, rfl⟩
    | exact Or.inl ⟨2, by decide, rfl, rfl⟩
theorem ckn_b {pl op a b' : Nat} {kc : Int32} (ha : a < 3) (hb : b' < 3) (ho : bin op = true ∨ op = 20 ∨ op = 21) : (∃ kd, kd < 3 ∧ kr pl op a b' = .inr kd ∧ ckn op (nI a) (nI b') kc = (nI kd, true)) ∨ (kr pl op a b' = .inl (3, pl) ∧ (ckn op (nI a) (nI b') kc).2 = false) := by
  have e1 : decide (nI a = 1) = decide (a = 1) := dI rfl ha (by decide)
  have e2 : decide (nI a = 2) = decide (a = 2) := dI rfl ha (by decide)
  have f1 : decide (nI b' = 1) = decide (b' = 1) := dI rfl hb (by decide)
  have f2 : decide (nI b' = 2) = decide (b' = 2) := dI rfl hb (by decide)
  have g1 : decide (nI b' = nI a) = decide (b' = a) := dI rfl hb ha
  have hop : op = 4 ∨ op = 5 ∨ op = 6 ∨ op = 7 ∨ op = 8 ∨ op = 10 ∨ op = 11 ∨ op = 12 ∨ op = 13 ∨ op = 14 ∨ op = 15 ∨ op = 17 ∨ op = 18 ∨ op = 20 ∨ op = 21 := by
    rcases ho with z | z | z
    · have := bin_no op z; omega
    · omega
    · omega
  have ha : a = 0 ∨ a = 1 ∨ a = 2 := by omega
  have hb : b' = 0 ∨ b' = 1 ∨ b' = 2 := by omega
  rcases hop with rfl | rfl | rfl | rfl | rfl | rfl | rfl | rfl | rfl | rfl | rfl | rfl | rfl | rfl | rfl <;> rcases ha with rfl | rfl | rfl <;> rcases hb with rfl | rfl | rfl <;> first
    | exact Or.inr ⟨rfl, rfl⟩
    | exact Or.inl ⟨0, by decide, rfl, rfl⟩
    | exact Or.inl ⟨1, by decide, rfl, rfl⟩
    | exact Or.inl ⟨2, by decide, rfl, rfl⟩
/-- all of a rule -/
theorem ckT (ht : t = 4 ∨ t = 20) (hN : 20000 < N) (hP : Pw l w) (hh : hop < 40) (hbn : b ≤ n) : ∀ (T : Tr) (σ : st_S) (M : Nat → Nat → Int32) (a : Nat), CX σ t n M l w E X h hop b → Wf w T → Co l w M T a → b ≤ a → a + tln T ≤ n → CkO N t n l w E X h hop b σ M T a (chk l w E (cOn hop) T) := by
  intro T
  induction T with
  | leaf k =>
    intro σ M a q hW hC hb ha
    have ha : a + 1 ≤ n := ha
    obtain ⟨n7, hC⟩ := hC
    unfold chk
    rcases hC with ⟨k1, n0, n1, n2, n3⟩ | ⟨k1, n0, n5, n6⟩ | ⟨k1, n0, n5, n6⟩ | ⟨k1, n0, n5, n6⟩
    · rw [if_neg (by omega), if_pos k1]
      exact nm_ok ht hN hP q hbn (by omega) hb hh k1 n0 n1 n2 n3 n7
    · rw [if_pos k1]
      exact ⟨σ, M, nj_ok q (op := 0) (by omega) (Or.inl rfl) (by decide) n0, q, FN.rf σ, fun _ _ => rfl, ⟨Or.inl ⟨k1, n0, n6, n7, n5⟩, KG.one (op := 0) n0 (by decide) (Or.inl (by decide))⟩, n5, by decide⟩
    · rw [if_neg (by omega), if_neg (by omega)]
      exact ⟨σ, M, nj_ok q (op := 0) (by omega) (Or.inl rfl) (by decide) n0, q, FN.rf σ, fun _ _ => rfl, ⟨Or.inr (Or.inl ⟨k1, n0, n6, n7, n5⟩), KG.one (op := 0) n0 (by decide) (Or.inl (by decide))⟩, n5, by decide⟩
    · rw [if_neg (by omega), if_neg (by omega)]
      exact ⟨σ, M, nj_ok q (op := 0) (by omega) (Or.inl rfl) (by decide) n0, q, FN.rf σ, fun _ _ => rfl, ⟨Or.inr (Or.inr (Or.inl ⟨k1, n0, n6, n7, n5⟩)), KG.one (op := 0) n0 (by decide) (Or.inl (by decide))⟩, n5, by decide⟩
  | branch m l' r il ir =>
    intro σ M a q hW hC hb ha
    have e : tln (.branch m l' r) = lnc (m % 64) (tln l') (tln r) := rfl
    have pl := tln_pos l'
    have pr := tln_pos r
    obtain ⟨hWl, hWr, hfo, hwf⟩ := hW
    have hlev : lev (.branch m l' r) = lvo (m % 64) := rfl
    unfold chk
    unfold Code at hC
    by_cases c1 : m % 64 = 9 ∨ m % 64 = 16 ∨ m % 64 = 22
    · rw [if_pos c1] at hC
      obtain ⟨hC1, hC2⟩ := hC
      rw [e, lnc_1 c1] at ha
      have cu : un (m % 64) = true := by rcases c1 with z | z | z <;> rw [z] <;> rfl
      rw [if_pos cu]
      have R := ir σ M a q hWr hC1 hb (by omega)
      have lr : lev r ≤ 7 := by
        unfold wfn at hwf
        rcases c1 with z | z | z <;> rw [z] at hwf <;> simp at hwf <;> omega
      have l7 : lev (.branch m l' r) ≤ 7 := by rw [hlev]; rcases c1 with z | z | z <;> rw [z] <;> decide
      cases hc : chk l w E (cOn hop) r with
      | inl er =>
        rw [hc] at R
        obtain ⟨σ1, M1, r1, r2, r3, r4, r5⟩ := R
        exact ⟨σ1, M1, r1.mo (by rw [e, lnc_1 c1]; omega), r2, r3, r4, r5⟩
      | inr ka =>
        rw [hc] at R
        obtain ⟨σ1, M1, r1, r2, r3, r4, r5, r6, r7⟩ := R
        have kr := r6.root lr
        obtain ⟨nd0, nd1, nd2, nd3, nd4, nd7⟩ := hC2.fr (r4 (a + tln r) (Or.inr (Nat.le_refl _)))
        obtain ⟨y1, y2⟩ := nd_ok (N := N) ht r2 (i := a + tln r) (op := m % 64) (pl := kP w (m / 64)) (x := a + tln r - 1) (y := 0) (z := 0) (by omega) (by omega) (by omega) (by omega) ⟨nd0, nd1, nd2⟩ (by omega) (fun z1 z2 z3 => by omega) (fun z => by omega)
        rw [kr] at y1 y2
        show CkO N t n l w E X h hop b σ M (.branch m l' r) a (ku (kP w (m / 64)) (m % 64) ka)
        rw [ckn_u (kb := M1 0 5) (kc := M1 0 5) r7 c1]
        cases hb2 : (ckn (m % 64) (nI ka) (M1 0 5) (M1 0 5)).2 with
        | false =>
          rw [if_neg Bool.false_ne_true]
          obtain ⟨σ2, M2, s1, s2, s3, s4, s5⟩ := y2 hb2
          exact ⟨σ2, M2, r1.fl s1 (by rw [e, lnc_1 c1]; omega), s2, r3.tr s3, s4, s5⟩
        | true =>
          rw [if_pos rfl]
          obtain ⟨σ2, s1, s2, s3⟩ := y1 hb2
          have k1 : (ckn (m % 64) (nI ka) (M1 0 5) (M1 0 5)).1 = nI (if m % 64 = 16 then 2 else 1) := by
            unfold ckn
            rcases c1 with z | z | z <;> rw [z] <;> rfl
          rw [k1] at s2
          refine ⟨σ2, _, r1.tr s1 (by rw [e, lnc_1 c1]), s2, r3.tr s3, fun i hi => ?_, ?_, KD.mk ?_ l7, by split <;> decide⟩
          · rw [e, lnc_1 c1] at hi
            rw [pat_o _ _ (by omega)]
            exact r4 i (by omega)
          · have r5' : Cr l w E X (pat M1 (a + tln r) 5 (nI (if m % 64 = 16 then 2 else 1))) r a := Cr.fr r5 (fun i _ z => pat_o _ _ (by omega))
            refine ⟨?_, ?_⟩
            · unfold Code
              rw [if_pos c1]
              refine ⟨r5'.1, ?_⟩
              unfold Nd
              rw [pat_c _ _ (by decide), pat_c _ _ (by decide), pat_c _ _ (by decide), pat_c _ _ (by decide), pat_c _ _ (by decide), pat_c _ _ (by decide)]
              exact ⟨nd0, nd1, nd2, nd3, nd4, nd7⟩
            · rw [e, lnc_1 c1, ← Nat.add_assoc]
              refine r5'.2.ap (KG.one (op := m % 64) (by rw [pat_c _ _ (by decide)]; exact nd0) (by omega) ?_)
              rw [pat_s]
              rcases c1 with z | z | z <;> rw [z] <;> decide
          · rw [e, lnc_1 c1, show a + (tln r + 1) - 1 = a + tln r by omega, pat_s]
    rw [if_neg c1] at hC
    by_cases c2 : m % 64 = 35
    · rw [if_pos c2] at hC
      have e : tln (.branch m l' r) = tln r := by rw [e, c2]; rfl
      rw [e] at ha
      have cu : un (m % 64) = true := by rw [c2]; rfl
      rw [if_pos cu]
      have R := ir σ M a q hWr hC hb ha
      have lr : lev r ≤ 6 := by rw [c2] at hwf; exact hwf.2.2.2
      cases hc : chk l w E (cOn hop) r with
      | inl er =>
        rw [hc] at R
        obtain ⟨σ1, M1, r1, r2, r3, r4, r5⟩ := R
        exact ⟨σ1, M1, by rw [e]; exact r1, r2, r3, r4, r5⟩
      | inr ka =>
        rw [hc] at R
        obtain ⟨σ1, M1, r1, r2, r3, r4, r5, r6, r7⟩ := R
        have ek : ku (kP w (m / 64)) (m % 64) ka = .inr ka := by unfold ku; rw [if_pos c2]
        show CkO N t n l w E X h hop b σ M (.branch m l' r) a (ku (kP w (m / 64)) (m % 64) ka)
        rw [ek]
        refine ⟨σ1, M1, by rw [e]; exact r1, r2, r3, by rw [e]; exact r4, ?_, KD.mk ?_ (by rw [hlev, c2]; decide), r7⟩
        · refine ⟨?_, by rw [e]; exact r5.2⟩
          unfold Code
          rw [if_neg c1, if_pos c2]
          exact r5.1
        · rw [e]
          exact r6.root (by omega)
    rw [if_neg c2] at hC
    have cu : ¬ un (m % 64) = true := by
      simp only [un, Bool.or_eq_true, decide_eq_true_eq]
      omega
    have hWl := hWl (by simpa using cu)
    rw [if_neg cu]
    have lvl : m % 64 ≠ 37 → lev l' ≤ 7 := fun z37 => by
      unfold wfn at hwf
      rw [if_neg (by omega), if_neg (by omega), if_neg c2, if_neg (by omega)] at hwf
      by_cases z20 : m % 64 = 20 ∨ m % 64 = 21
      · rw [if_pos z20] at hwf; exact hwf.2.2.1
      rw [if_neg z20] at hwf
      by_cases z19 : m % 64 = 19
      · rw [if_pos z19] at hwf; have := hwf.2.2.2.1; omega
      rw [if_neg z19, if_neg z37] at hwf
      have := hwf.2.2.2.2.1
      have : lL (m % 64) ≤ 5 := by unfold lL; repeat' split
                                   all_goals omega
      omega
    -- the left part, then what stands behind it
    have left : ∀ (P : Nat → Rs Nat), (∀ σ1 M1 ka, Sgo N t σ a σ1 (tln l') → CX σ1 t n M1 l w E X h hop b → FN t σ σ1 → (∀ i, (i < a ∨ a + tln l' ≤ i) → M1 i = M i) → Cr l w E X M1 l' a → KD M1 l' a ka → ka < 3 → chk l w E (cOn hop) l' = .inr ka → CkO N t n l w E X h hop b σ M (.branch m l' r) a (P ka)) → Co l w M l' a → a + tln l' ≤ n → tln l' ≤ lnc (m % 64) (tln l') (tln r) → CkO N t n l w E X h hop b σ M (.branch m l' r) a (sbd (chk l w E (cOn hop) l') P) := by
      intro P k1 k2 k3 k4
      have L := il σ M a q hWl k2 hb k3
      cases hc : chk l w E (cOn hop) l' with
      | inl er =>
        rw [hc] at L
        obtain ⟨σ1, M1, r1, r2, r3, r4, r5⟩ := L
        exact ⟨σ1, M1, r1.mo (by rw [e]; exact k4), r2, r3, r4, r5⟩
      | inr ka =>
        rw [hc] at L
        obtain ⟨σ1, M1, r1, r2, r3, r4, r5, r6, r7⟩ := L
        exact k1 σ1 M1 ka r1 r2 r3 r4 r5 r6 r7 hc
    have right : ∀ (P : Nat → Rs Nat) (σ1 : st_S) (M1 : Nat → Nat → Int32) (d : Nat), Sgo N t σ a σ1 (tln l' + d) → CX σ1 t n M1 l w E X h hop b → FN t σ σ1 → (∀ σ2 M2 kb, Sgo N t σ a σ2 (tln l' + d + tln r) → CX σ2 t n M2 l w E X h hop b → FN t σ σ2 → (∀ i, (i < a + tln l' + d ∨ a + tln l' + d + tln r ≤ i) → M2 i = M1 i) → Cr l w E X M2 r (a + tln l' + d) → KD M2 r (a + tln l' + d) kb → kb < 3 → chk l w E (cOn hop) r = .inr kb → CkO N t n l w E X h hop b σ M (.branch m l' r) a (P kb)) → Co l w M1 r (a + tln l' + d) → a + tln l' + d + tln r ≤ n → tln l' + d + tln r ≤ lnc (m % 64) (tln l') (tln r) → CkO N t n l w E X h hop b σ M (.branch m l' r) a (sbd (chk l w E (cOn hop) r) P) := by
      intro P σ1 M1 d s1 s2 s3 k1 k2 k3 k4
      have R := ir σ1 M1 (a + tln l' + d) s2 hWr k2 (by omega) k3
      have s1' : Sgo N t σ a σ1 (tln l' + d) := s1
      cases hc : chk l w E (cOn hop) r with
      | inl er =>
        rw [hc] at R
        obtain ⟨σ2, M2, r1, r2, r3, r4, r5⟩ := R
        exact ⟨σ2, M2, s1.fl (by rw [← Nat.add_assoc]; exact r1) (by rw [e]; exact k4), r2, s3.tr r3, r4, r5⟩
      | inr kb =>
        rw [hc] at R
        obtain ⟨σ2, M2, r1, r2, r3, r4, r5, r6, r7⟩ := R
        exact k1 σ2 M2 kb (s1.tr (by rw [← Nat.add_assoc]; exact r1) rfl) r2 (s3.tr r3) r4 r5 r6 r7 hc
    by_cases c3 : m % 64 = 17 ∨ m % 64 = 18
    · rw [if_pos c3] at hC
      obtain ⟨hC1, hC2, hC3, hC4⟩ := hC
      have eln := lnc_3 (a := tln l') (b := tln r) (show m % 64 = 17 ∨ m % 64 = 18 ∨ m % 64 = 19 by omega)
      rw [e, eln] at ha
      have lr : lev r ≤ 7 := by
        unfold wfn at hwf
        rcases c3 with z | z <;> rw [z] at hwf <;> simp [lR] at hwf <;> omega
      have hbin : bin (m % 64) = true := by rcases c3 with z | z <;> rw [z] <;> rfl
      refine left _ (fun σ1 M1 ka r1 r2 r3 r4 r5 r6 r7 hka => ?_) hC1 (by omega) (by omega)
      have j0 : M1 (a + tln l') 0 = nI (m % 64 + 6) := by rw [r4 _ (Or.inr (Nat.le_refl _))]; exact hC2.1
      have sj := nj_ok (N := N) r2 (i := a + tln l') (by omega) (Or.inr (by omega)) (by omega) j0
      refine right _ σ1 M1 1 (r1.tr sj rfl) r2 r3 (fun σ2 M2 kb s1 s2 s3 s4 s5 s6 s7 hkb => ?_) (Co.fr hC3 (fun i z1 z2 => r4 i (by omega))) (by omega) (by omega)
      have ka' : M2 (a + tln l' - 1) 5 = nI ka := by rw [s4 _ (Or.inl (by omega))]; exact r6.root (lvl (by omega))
      have kb' : M2 (a + tln l' + tln r) 5 = nI kb := by
        have := s6.root lr
        rw [show a + tln l' + 1 + tln r - 1 = a + tln l' + tln r by omega] at this
        exact this
      have e4 : M2 (a + tln l' + 1 + tln r) = M (a + tln l' + 1 + tln r) := (s4 _ (Or.inr (Nat.le_refl _))).trans (r4 _ (Or.inr (by omega)))
      obtain ⟨nd0, nd1, nd2, nd3, nd4, nd7⟩ := hC4.fr e4
      obtain ⟨y1, y2⟩ := nd_ok (N := N) ht s2 (i := a + tln l' + 1 + tln r) (op := m % 64) (pl := kP w (m / 64)) (x := a + tln l' - 1) (y := a + tln l' + tln r) (z := 0) (by omega) (by omega) (by omega) (by omega) ⟨nd0, nd1, nd2⟩ (by omega) (fun _ _ _ => ⟨by omega, nd3⟩) (fun z => by omega)
      rw [ka', kb'] at y1 y2
      rcases ckn_b (pl := kP w (m / 64)) (kc := M2 0 5) r7 s7 (Or.inl hbin) with ⟨kd, z1, z2, z3⟩ | ⟨z1, z2⟩
      · rw [z2]
        rw [z3] at y1
        obtain ⟨σ3, u1, u2, u3⟩ := y1 rfl
        dsimp only at u2
        refine ⟨σ3, _, s1.tr (by rw [show a + (tln l' + 1 + tln r) = a + tln l' + 1 + tln r by omega]; exact u1) (by rw [e, eln]; omega), u2, s3.tr u3, fun i hi => ?_, ?_, KD.mk ?_ (by rw [hlev]; rcases c3 with z | z <;> rw [z] <;> decide), z1⟩
        · rw [e, eln] at hi
          rw [pat_o _ _ (by omega), s4 i (by omega)]
          exact r4 i (by omega)
        · have c0 : ∀ i, i ≠ a + tln l' + 1 + tln r → pat M2 (a + tln l' + 1 + tln r) 5 (nI kd) i = M2 i := fun i z => pat_o _ _ z
          have r5' : Cr l w E X (pat M2 (a + tln l' + 1 + tln r) 5 (nI kd)) l' a := Cr.fr r5 (fun i _ z => (c0 i (by omega)).trans (s4 i (by omega)))
          have s5' : Cr l w E X (pat M2 (a + tln l' + 1 + tln r) 5 (nI kd)) r (a + tln l' + 1) := Cr.fr s5 (fun i _ z => c0 i (by omega))
          have j' := hC2.fr ((c0 _ (by omega)).trans ((s4 _ (by omega)).trans (r4 _ (by omega))))
          refine ⟨?_, ?_⟩
          rotate_left
          · rw [e, eln, show a + (tln l' + tln r + 2) = a + tln l' + 1 + tln r + 1 by omega]
            refine ((r5'.2.ap (KG.one (op := m % 64 + 6) j'.1 (by omega) (by omega))).ap s5'.2).ap (KG.one (op := m % 64) (by rw [pat_c _ _ (by decide)]; exact nd0) (by omega) (Or.inr (Or.inr ?_)))
            rw [pat_s, kr_v z2 (by omega) (by omega), if_neg (by omega), if_neg (by omega), if_neg (by omega)]
            rfl
          unfold Code
          rw [if_neg c1, if_neg c2, if_pos c3]
          refine ⟨r5'.1, j', s5'.1, ?_⟩
          unfold Nd
          rw [pat_c _ _ (by decide), pat_c _ _ (by decide), pat_c _ _ (by decide), pat_c _ _ (by decide), pat_c _ _ (by decide), pat_c _ _ (by decide)]
          exact ⟨nd0, nd1, nd2, nd3, nd4, nd7⟩
        · rw [e, eln, show a + (tln l' + tln r + 2) - 1 = a + tln l' + 1 + tln r by omega, pat_s]
      · rw [z1]
        obtain ⟨σ3, M3, u1, u2, u3, u4, u5⟩ := y2 z2
        exact ⟨σ3, M3, s1.fl (by rw [show a + (tln l' + 1 + tln r) = a + tln l' + 1 + tln r by omega]; exact u1) (by rw [e, eln]; omega), u2, s3.tr u3, u4, u5⟩
    rw [if_neg c3] at hC
    by_cases c4 : m % 64 = 19
    · rw [if_pos c4] at hC
      obtain ⟨hC1, hC2, hC3, hC4⟩ := hC
      have eln := lnc_3 (a := tln l') (b := tln r) (show m % 64 = 17 ∨ m % 64 = 18 ∨ m % 64 = 19 by omega)
      rw [e, eln] at ha
      have lr : lev r = 8 := by rw [c4] at hwf; exact hwf.2.2.2.2
      refine left _ (fun σ1 M1 ka r1 r2 r3 r4 r5 r6 r7 hka => ?_) hC1 (by omega) (by omega)
      have j0 : M1 (a + tln l') 0 = nI 23 := by rw [r4 _ (Or.inr (Nat.le_refl _))]; exact hC2.1
      have sj := nj_ok (N := N) r2 (i := a + tln l') (by omega) (Or.inr (by decide)) (by decide) j0
      refine right _ σ1 M1 1 (r1.tr sj rfl) r2 r3 (fun σ2 M2 kb s1 s2 s3 s4 s5 s6 s7 hkb => ?_) (Co.fr hC3 (fun i z1 z2 => r4 i (by omega))) (by omega) (by omega)
      have ka' : M2 (a + tln l' - 1) 5 = nI ka := by rw [s4 _ (Or.inl (by omega))]; exact r6.root (lvl (by omega))
      obtain ⟨kx, ky, x1, x2, x3, x4, x5, x6⟩ : ∃ kx ky, M2 (a + tln l' + fln r) 5 = nI kx ∧ M2 (a + tln l' + tln r) 5 = nI ky ∧ (kx = 1 ∨ kx = 2) ∧ (ky = 1 ∨ ky = 2) ∧ kb = (if kx = ky then kx else 0) ∧ fln r < tln r := by
        cases r with
        | leaf k => cases lr
        | branch m2 x y =>
          have lr : lvo (m2 % 64) = 8 := lr
          have m37 : m2 % 64 = 37 := by
            unfold lvo at lr
            repeat' split at lr
            all_goals omega
          have s6 : (if m2 % 64 = 37 then ∃ kx ky, M2 (a + tln l' + 1 + tln x - 1) 5 = nI kx ∧ M2 (a + tln l' + 1 + tln x + tln y) 5 = nI ky ∧ (kx = 1 ∨ kx = 2) ∧ (ky = 1 ∨ ky = 2) ∧ kb = (if kx = ky then kx else 0) else _) := s6
          rw [if_pos m37] at s6
          obtain ⟨kx, ky, y1, y2, y3, y4, y5⟩ := s6
          have ex : tln (.branch m2 x y) = tln x + tln y + 1 := by
            show lnc (m2 % 64) (tln x) (tln y) = _
            rw [m37]; rfl
          have px := tln_pos x
          refine ⟨kx, ky, ?_, ?_, y3, y4, y5, ?_⟩
          · rw [show a + tln l' + fln (.branch m2 x y) = a + tln l' + 1 + tln x - 1 by show a + tln l' + tln x = _; omega]; exact y1
          · rw [ex, show a + tln l' + (tln x + tln y + 1) = a + tln l' + 1 + tln x + tln y by omega]; exact y2
          · rw [ex]; show tln x < _; omega
      have e4 : M2 (a + tln l' + 1 + tln r) = M (a + tln l' + 1 + tln r) := (s4 _ (Or.inr (Nat.le_refl _))).trans (r4 _ (Or.inr (by omega)))
      obtain ⟨nd0, nd1, nd2, nd3, nd4, nd7⟩ := hC4.fr e4
      obtain ⟨y1, y2⟩ := nd_ok (N := N) ht s2 (i := a + tln l' + 1 + tln r) (op := 19) (pl := kP w (m / 64)) (x := a + tln l' - 1) (y := a + tln l' + fln r) (z := a + tln l' + tln r) (by omega) (by omega) (by decide) (by decide) ⟨nd0, nd1, nd2⟩ (by omega) (fun _ _ _ => ⟨by omega, nd3⟩) (fun z => ⟨by omega, nd4⟩)
      rw [ka', x1, x2] at y1 y2
      rw [c4, x5]
      rcases ckn_c (pl := kP w (m / 64)) r7 x3 x4 with ⟨kd, z1, z2, z3⟩ | ⟨z1, z2⟩
      · rw [z2]
        rw [z3] at y1
        obtain ⟨σ3, u1, u2, u3⟩ := y1 rfl
        dsimp only at u2
        refine ⟨σ3, _, s1.tr (by rw [show a + (tln l' + 1 + tln r) = a + tln l' + 1 + tln r by omega]; exact u1) (by rw [e, eln]; omega), u2, s3.tr u3, fun i hi => ?_, ?_, KD.mk ?_ (by rw [hlev, c4]; decide), z1⟩
        · rw [e, eln] at hi
          rw [pat_o _ _ (by omega), s4 i (by omega)]
          exact r4 i (by omega)
        · have c0 : ∀ i, i ≠ a + tln l' + 1 + tln r → pat M2 (a + tln l' + 1 + tln r) 5 (nI kd) i = M2 i := fun i z => pat_o _ _ z
          have r5' : Cr l w E X (pat M2 (a + tln l' + 1 + tln r) 5 (nI kd)) l' a := Cr.fr r5 (fun i _ z => (c0 i (by omega)).trans (s4 i (by omega)))
          have s5' : Cr l w E X (pat M2 (a + tln l' + 1 + tln r) 5 (nI kd)) r (a + tln l' + 1) := Cr.fr s5 (fun i _ z => c0 i (by omega))
          have j' := hC2.fr ((c0 _ (by omega)).trans ((s4 _ (by omega)).trans (r4 _ (by omega))))
          refine ⟨?_, ?_⟩
          rotate_left
          · rw [e, eln, show a + (tln l' + tln r + 2) = a + tln l' + 1 + tln r + 1 by omega]
            exact ((r5'.2.ap (KG.one (op := 23) j'.1 (by omega) (by omega))).ap s5'.2).ap (KG.one (op := 19) (by rw [pat_c _ _ (by decide)]; exact nd0) (by omega) (Or.inr (Or.inl (by omega))))
          unfold Code
          rw [if_neg c1, if_neg c2, if_neg c3, if_pos c4]
          refine ⟨r5'.1, j', s5'.1, ?_⟩
          unfold Nd
          rw [pat_c _ _ (by decide), pat_c _ _ (by decide), pat_c _ _ (by decide), pat_c _ _ (by decide), pat_c _ _ (by decide), pat_c _ _ (by decide)]
          exact ⟨nd0, nd1, nd2, nd3, nd4, nd7⟩
        · rw [e, eln, show a + (tln l' + tln r + 2) - 1 = a + tln l' + 1 + tln r by omega, pat_s]
      · rw [z1]
        obtain ⟨σ3, M3, u1, u2, u3, u4, u5⟩ := y2 z2
        exact ⟨σ3, M3, s1.fl (by rw [show a + (tln l' + 1 + tln r) = a + tln l' + 1 + tln r by omega]; exact u1) (by rw [e, eln]; omega), u2, s3.tr u3, u4, u5⟩
    rw [if_neg c4] at hC
    have eln := lnc_4 (a := tln l') (b := tln r) c1 c2 (show ¬ (m % 64 = 17 ∨ m % 64 = 18 ∨ m % 64 = 19) by omega)
    rw [e, eln] at ha
    by_cases c5 : m % 64 = 37
    · rw [if_pos c5] at hC
      obtain ⟨hC1, hC2, hC3⟩ := hC
      have lv2 : lev l' ≤ 6 ∧ lev r ≤ 6 := by rw [c5] at hwf; exact ⟨hwf.2.2.1, hwf.2.2.2⟩
      refine left _ (fun σ1 M1 ka r1 r2 r3 r4 r5 r6 r7 hka => ?_) hC1 (by omega) (by omega)
      have j0 : M1 (a + tln l') 0 = nI 25 := by rw [r4 _ (Or.inr (Nat.le_refl _))]; exact hC2.1
      have sj := nj_ok (N := N) r2 (i := a + tln l') (by omega) (Or.inr (by decide)) (by decide) j0
      refine right _ σ1 M1 1 (r1.tr sj rfl) r2 r3 (fun σ2 M2 kb s1 s2 s3 s4 s5 s6 s7 hkb => ?_) (Co.fr hC3 (fun i z1 z2 => r4 i (by omega))) (by omega) (by omega)
      have ka' : M2 (a + tln l' - 1) 5 = nI ka := by rw [s4 _ (Or.inl (by omega))]; exact r6.root (by omega)
      have kb' : M2 (a + tln l' + tln r) 5 = nI kb := by
        have := s6.root (by omega)
        rw [show a + tln l' + 1 + tln r - 1 = a + tln l' + tln r by omega] at this
        exact this
      have ek : kr (kP w (m / 64)) (m % 64) ka kb = .inr (if ka = kb then ka else 0) := by rw [c5]; rfl
      rw [ek]
      have k1 := (chk_3 l' ka hWl hka).2 lv2.1
      have k2 := (chk_3 r kb hWr hkb).2 lv2.2
      refine ⟨σ2, M2, by rw [e, eln, show tln l' + tln r + 1 = tln l' + 1 + tln r by omega]; exact s1, s2, s3, fun i hi => ?_, ?_, ?_, by split <;> omega⟩
      · rw [e, eln] at hi
        rw [s4 i (by omega)]
        exact r4 i (by omega)
      · have r5' : Cr l w E X M2 l' a := Cr.fr r5 (fun i _ z => s4 i (by omega))
        have j' := hC2.fr ((s4 _ (by omega)).trans (r4 _ (by omega)))
        refine ⟨?_, ?_⟩
        rotate_left
        · rw [e, eln, show a + (tln l' + tln r + 1) = a + tln l' + 1 + tln r by omega]
          exact (r5'.2.ap (KG.one (op := 25) j'.1 (by omega) (by omega))).ap s5.2
        unfold Code
        rw [if_neg c1, if_neg c2, if_neg c3, if_neg c4, if_pos c5]
        exact ⟨r5'.1, j', s5.1⟩
      · show (if m % 64 = 37 then _ else _)
        rw [if_pos c5]
        exact ⟨ka, kb, ka', kb', k1, k2, rfl⟩
    rw [if_neg c5] at hC
    obtain ⟨hC1, hC2, hC3⟩ := hC
    have hb20 : (bin (m % 64) = true ∨ m % 64 = 20 ∨ m % 64 = 21) ∧ lev r ≤ 7 := by
      unfold wfn at hwf
      rw [if_neg (by omega), if_neg (by omega), if_neg c2, if_neg (by omega)] at hwf
      by_cases z20 : m % 64 = 20 ∨ m % 64 = 21
      · rw [if_pos z20] at hwf; exact ⟨Or.inr z20, by have := hwf.2.2.2; omega⟩
      rw [if_neg z20, if_neg c4, if_neg c5] at hwf
      refine ⟨Or.inl hwf.1, ?_⟩
      have := hwf.2.2.2.2.2
      have : lR (m % 64) ≤ 4 := by unfold lR; repeat' split
                                   all_goals omega
      omega
    have oge : 4 ≤ m % 64 ∧ m % 64 ≤ 22 := by
      rcases hb20.1 with z | z | z
      · have := bin_no _ z; omega
      · omega
      · omega
    have l7 : lev (.branch m l' r) ≤ 7 := by
      rw [hlev]
      unfold lvo
      repeat' split
      all_goals omega
    refine left _ (fun σ1 M1 ka r1 r2 r3 r4 r5 r6 r7 hka => ?_) hC1 (by omega) (by omega)
    refine right _ σ1 M1 0 r1 r2 r3 (fun σ2 M2 kb s1 s2 s3 s4 s5 s6 s7 hkb => ?_) (Co.fr hC2 (fun i z1 z2 => r4 i (by omega))) (by omega) (by omega)
    have ka' : M2 (a + tln l' - 1) 5 = nI ka := by rw [s4 _ (Or.inl (by omega))]; exact r6.root (lvl c5)
    have kb' : M2 (a + tln l' + tln r - 1) 5 = nI kb := s6.root hb20.2
    have e4 : M2 (a + tln l' + tln r) = M (a + tln l' + tln r) := (s4 _ (Or.inr (Nat.le_refl _))).trans (r4 _ (Or.inr (by omega)))
    obtain ⟨nd0, nd1, nd2, nd3, nd4, nd7⟩ := hC3.fr e4
    obtain ⟨y1, y2⟩ := nd_ok (N := N) ht s2 (i := a + tln l' + tln r) (op := m % 64) (pl := kP w (m / 64)) (x := a + tln l' - 1) (y := a + tln l' + tln r - 1) (z := 0) (by omega) (by omega) oge.1 oge.2 ⟨nd0, nd1, nd2⟩ (by omega) (fun _ _ _ => ⟨by omega, nd3⟩) (fun z => by omega)
    rw [ka', kb'] at y1 y2
    rcases ckn_b (pl := kP w (m / 64)) (kc := M2 0 5) r7 s7 hb20.1 with ⟨kd, z1, z2, z3⟩ | ⟨z1, z2⟩
    · rw [z2]
      rw [z3] at y1
      obtain ⟨σ3, u1, u2, u3⟩ := y1 rfl
      dsimp only at u2
      refine ⟨σ3, _, s1.tr (by rw [show a + (tln l' + 0 + tln r) = a + tln l' + tln r by omega]; exact u1) (by rw [e, eln]; omega), u2, s3.tr u3, fun i hi => ?_, ?_, KD.mk ?_ l7, z1⟩
      · rw [e, eln] at hi
        rw [pat_o _ _ (by omega), s4 i (by omega)]
        exact r4 i (by omega)
      · have c0 : ∀ i, i ≠ a + tln l' + tln r → pat M2 (a + tln l' + tln r) 5 (nI kd) i = M2 i := fun i z => pat_o _ _ z
        have r5' : Cr l w E X (pat M2 (a + tln l' + tln r) 5 (nI kd)) l' a := Cr.fr r5 (fun i _ z => (c0 i (by omega)).trans (s4 i (by omega)))
        have s5' : Cr l w E X (pat M2 (a + tln l' + tln r) 5 (nI kd)) r (a + tln l') := Cr.fr s5 (fun i _ z => c0 i (by omega))
        refine ⟨?_, ?_⟩
        rotate_left
        · rw [e, eln, show a + (tln l' + tln r + 1) = a + tln l' + tln r + 1 by omega]
          refine (r5'.2.ap s5'.2).ap (KG.one (op := m % 64) (by rw [pat_c _ _ (by decide)]; exact nd0) (by omega) ?_)
          by_cases z18 : m % 64 ≤ 18
          · refine Or.inr (Or.inr ?_)
            rw [pat_s, kr_v z2 (by omega) (by omega)]
            by_cases z10 : m % 64 < 10
            · rw [if_pos z10, if_pos z10]; rfl
            · rw [if_neg z10, if_neg z10, if_neg (by omega)]; rfl
          · exact Or.inr (Or.inl (by omega))
        unfold Code
        rw [if_neg c1, if_neg c2, if_neg c3, if_neg c4, if_neg c5]
        refine ⟨r5'.1, s5'.1, ?_⟩
        unfold Nd
        rw [pat_c _ _ (by decide), pat_c _ _ (by decide), pat_c _ _ (by decide), pat_c _ _ (by decide), pat_c _ _ (by decide), pat_c _ _ (by decide)]
        exact ⟨nd0, nd1, nd2, nd3, nd4, nd7⟩
      · rw [e, eln, show a + (tln l' + tln r + 1) - 1 = a + tln l' + tln r by omega, pat_s]
    · rw [z1]
      obtain ⟨σ3, M3, u1, u2, u3, u4, u5⟩ := y2 z2
      exact ⟨σ3, M3, s1.fl (by rw [show a + (tln l' + 0 + tln r) = a + tln l' + tln r by omega]; exact u1) (by rw [e, eln]; omega), u2, s3.tr u3, u4, u5⟩
end CKR
