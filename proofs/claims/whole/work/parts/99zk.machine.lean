/-! the class's machine: operations between two; all trees -/
section EV
variable {N t n : Nat} {l : List Int32} {w : List (Nat × Nat × Nat)} {E : List En} {X fs : Nat → Nat} {vs : Nat → Int32} {m B : Nat} {cc : Bool}
theorem ev_bin (G : Gv N t n l w E X fs vs B cc) (p : Nat) (l' r : Tr) (cu : un (p % 64) = false) (c17 : p % 64 ≠ 17) (c18 : p % 64 ≠ 18) (c19 : p % 64 ≠ 19) (c37 : p % 64 ≠ 37) (il : EvP N t n l w E X fs vs B cc m l') (ir : EvP N t n l w E X fs vs B cc m r) : EvP N t n l w E X fs vs B cc m (.branch p l' r) := by
  intro co σ M a d s c kd hcc hW hNB hck hkd hCr han hP
  obtain ⟨ht, hN, hn24, hB, hSF, hnv, hok⟩ := G
  have hok' : ∀ j, j < E.length → (co = true → (E.getD j eN).2.1 = 1) → ∀ v, fvn l w E vs j = .inr v → okv (if (E.getD j eN).2.2.1 then 2 else 1) v := fun j h1 h2 => hok j h1 (fun z => h2 (hcc z))
  obtain ⟨hWl, hWr, hfo, hwf⟩ := hW
  obtain ⟨hBl, hBr⟩ := hNB
  have pl := tln_pos l'
  have pr := tln_pos r
  have cun : p % 64 ≠ 9 ∧ p % 64 ≠ 16 ∧ p % 64 ≠ 35 ∧ p % 64 ≠ 22 := by
    have cu := cu
    simp only [un, Bool.or_eq_false_iff, decide_eq_false_iff_not] at cu
    omega
  obtain ⟨w1, w2, w3, w4, w5, w6, w7⟩ := wfn_l hwf
  have ll := w3 cu
  have rl := w6 cu c19
  have ll6 := w5 cu
  have op7 := w7 cu
  have et : tln (.branch p l' r) = lnc (p % 64) (tln l') (tln r) := rfl
  have lv : lev (.branch p l' r) ≤ 7 := by
    show lvo (p % 64) ≤ 7
    unfold lvo
    repeat' split
    all_goals omega
  unfold EvO
  rw [st0_n lv, rt0_n lv]
  rw [et, lnc_4 (by omega) (by omega) (by omega)] at han hP ⊢
  unfold chk at hck
  rw [if_neg (by rw [cu]; decide)] at hck
  obtain ⟨ka, k1, hck⟩ := sbd_i hck
  obtain ⟨kb, k2, k3⟩ := sbd_i hck
  obtain ⟨q1, q2, q3, q4, q5⟩ := kr_k k3 hkd
  obtain ⟨a3, a6⟩ := chk_3 l' ka (hWl cu) k1
  obtain ⟨b3, b6⟩ := chk_3 r kb hWr k2
  have b6 := b6 rl
  have ka0 : ka ≠ 0 := by
    by_cases z : p % 64 = 10 ∨ p % 64 = 11
    · have := q1 z; omega
    · have := q5 (by omega) (by omega) c17 c18 c19 c37; omega
  unfold evl
  rw [if_neg (by rw [cu]; decide), if_neg c37]
  simp only [if_neg c17, if_neg c18, if_neg c19]
  obtain ⟨hCr, hK⟩ := hCr
  rw [et, lnc_4 (by omega) (by omega) (by omega)] at hK
  unfold Code at hCr
  rw [if_neg (by omega), if_neg (by omega), if_neg (by omega), if_neg c19, if_neg c37] at hCr
  obtain ⟨hC1, hC2, hC3⟩ := hCr
  have hC1 : Cr l w E X M l' a := ⟨hC1, hK.sb (Nat.le_refl _) (by omega)⟩
  have hC2 : Cr l w E X M r (a + tln l') := ⟨hC2, hK.sb (by omega) (by omega)⟩
  have R := il co σ M a d s false ka hcc (hWl cu) (hBl cu) k1 ka0 hC1 (by omega) (hP.mo (Nat.le_refl _) (by omega) (by omega))
  unfold EvO at R
  rw [st0_n ll, rt0_n ll] at R
  refine (EvG.sb (c2 := 2 * tln r + 1) (a := a) (b := a + (tln l' + tln r + 1)) (a2 := a) (b2 := a + (tln l' + tln r + 1)) (e := a + (tln l' + tln r + 1)) (rt := a + (tln l' + tln r + 1) - 1) R (fun u σ1 M1 q1' hev hR hVa hq => ?_) (Nat.le_refl _) (by omega) (Nat.le_refl _) (Nat.le_refl _)).mo (Nat.le_refl _) (Nat.le_refl _) (by omega)
  have P1 := hP.nx hR hq (c2 := 2 * tln r + 1) (a' := a + tln l') (b' := a + tln l' + tln r) (by omega) (by omega) (by omega)
  have P1' := hP.nx hR hq (c2 := 2 * tln r + 1) (a' := a) (b' := a + (tln l' + tln r + 1)) (by omega) (by omega) (by omega)
  have R2 := ir co σ1 M1 (a + tln l') d (s + q1') false kb hcc hWr hBr k2 (by omega) (hR.st.cr hC2) (by omega) (P1.mo (Nat.le_refl _) (Nat.le_refl _) (by omega))
  unfold EvO at R2
  rw [st0_n (by omega), rt0_n (by omega)] at R2
  refine EvG.sb (c2 := 1) (a2 := a) (b2 := a + (tln l' + tln r + 1)) R2 (fun v σ2 M2 q2' hev2 hR2 hVa2 hq2 => ?_) (by omega) (by omega) (Nat.le_refl _) (Nat.le_refl _)
  have P2 := P1'.nx hR2 hq2 (c2 := 1) (a' := a) (b' := a + (tln l' + tln r + 1)) (by omega) (Nat.le_refl _) (Nat.le_refl _)
  have nd := hR2.st.nd (hR.st.nd hC3)
  have nd' := nd
  obtain ⟨n0, n1, n2, n3, n4, n7⟩ := nd
  have n5 : 4 ≤ p % 64 → p % 64 ≤ 18 → M2 (a + tln l' + tln r) 5 = if p % 64 < 10 then 1 else 2 := fun o1 o2 => by
    rw [((hR.st.tr hR2.st) _).2.2.2 (Or.inr ⟨p % 64, o1, o2, hC3.1⟩)]
    exact hK _ _ (by omega) (by omega) o1 o2 hC3.1
  have okA := evl_ok hnv hok' l' false ka u (hWl cu) k1 ka0 hev
  have okB := evl_ok hnv hok' r false kb v hWr k2 (by omega) hev2
  have vA := hR2.kp P1'.2.2.2.1 (i := a + tln l' - 1) (by omega) (by omega) (by omega) hVa
  have vB : Va M2 (a + tln l' + tln r - 1) v := hVa2
  have e1 : a + (tln l' + tln r + 1) - 1 = a + tln l' + tln r := by omega
  have e2 : a + (tln l' + tln r + 1) = a + tln l' + tln r + 1 := by omega
  rw [e1, e2]
  rw [e2] at P2
  by_cases z1 : 10 ≤ p % 64 ∧ p % 64 ≤ 15
  · unfold vr
    rw [if_pos z1]
    exact EvG.wo ht hB P2 (by omega) (by omega) (by omega) (op := p % 64) (by omega) (by omega) n0 (wkc ht P2.1.1 (by omega) z1.1 z1.2 n2 n3 (by omega) (by omega) vA vB okA okB (n7 ⟨by omega, by omega⟩) ((n5 (by omega) (by omega)).trans (if_neg (by omega)))) (by decide)
  have ab := q5 (by omega) (by omega) c17 c18 c19 c37
  rw [ab.1] at okA
  rw [ab.2] at okB
  by_cases z2 : p % 64 = 20
  · unfold vr
    rw [if_neg z1, if_pos z2]
    rw [z2] at n0
    exact EvG.wo ht hB P2 (by omega) (by omega) (by omega) (op := 20) (by decide) (by decide) n0 (wk20 ht P2.1.1 (by omega) n0 n2 n3 (by omega) (by omega) vA vB okA okB) (by decide)
  by_cases z3 : p % 64 = 21
  · unfold vr
    rw [if_neg z1, if_neg z2, if_pos z3]
    rw [z3] at n0
    exact EvG.wo ht hB P2 (by omega) (by omega) (by omega) (op := 21) (by decide) (by decide) n0 (wk21 ht P2.1.1 (by omega) n0 n2 n3 (by omega) (by omega) vA vB okA okB) (by decide)
  have := op7 z2 z3 c19 c37
  exact EvG.nu ht hN hB P2 (by omega) (by omega) (by omega) (by omega) (by omega) nd' (by omega) (by omega) ((n5 (by omega) (by omega)).trans (if_pos (by omega))) vA vB okA okB (by decide)
theorem ev_pair (G : Gv N t n l w E X fs vs B cc) (p : Nat) (l' r : Tr) (c37 : p % 64 = 37) (il : EvP N t n l w E X fs vs B cc m l') (ir : EvP N t n l w E X fs vs B cc m r) : EvP N t n l w E X fs vs B cc m (.branch p l' r) := by
  intro co σ M a d s c kd hcc hW hNB hck hkd hCr han hP
  obtain ⟨ht, hN, hn24, hB, hSF, hnv, hok⟩ := G
  have hok' : ∀ j, j < E.length → (co = true → (E.getD j eN).2.1 = 1) → ∀ v, fvn l w E vs j = .inr v → okv (if (E.getD j eN).2.2.1 then 2 else 1) v := fun j h1 h2 => hok j h1 (fun z => h2 (hcc z))
  obtain ⟨hWl, hWr, hfo, hwf⟩ := hW
  obtain ⟨hBl, hBr⟩ := hNB
  have pl := tln_pos l'
  have pr := tln_pos r
  have cu : un (p % 64) = false := by rw [c37]; rfl
  obtain ⟨w1, w2, w3, w4, w5, w6, w7⟩ := wfn_l hwf
  have ll := w5 cu (by omega) (by omega)
  have rl := w6 cu (by omega)
  have et : tln (.branch p l' r) = lnc (p % 64) (tln l') (tln r) := rfl
  have lv : lev (.branch p l' r) = 8 := by
    show lvo (p % 64) = 8
    rw [c37]; rfl
  have fl : fln (.branch p l' r) = tln l' := rfl
  unfold EvO st0 rt0
  rw [if_pos lv, if_pos lv, fl]
  rw [et, lnc_4 (by omega) (by omega) (by omega)] at han hP ⊢
  unfold chk at hck
  rw [if_neg (by rw [cu]; decide)] at hck
  obtain ⟨ka, k1, hck⟩ := sbd_i hck
  obtain ⟨kb, k2, k3⟩ := sbd_i hck
  have a6 := (chk_3 l' ka (hWl cu) k1).2 ll
  have b6 := (chk_3 r kb hWr k2).2 rl
  unfold evl
  rw [if_neg (c := un (p % 64) = true) (by rw [cu]; decide), if_pos c37]
  obtain ⟨hCr, hK⟩ := hCr
  rw [et, lnc_4 (by omega) (by omega) (by omega)] at hK
  unfold Code at hCr
  rw [if_neg (by omega), if_neg (by omega), if_neg (by omega), if_neg (by omega), if_pos c37] at hCr
  obtain ⟨hC1, hC2, hC3⟩ := hCr
  have hC1 : Cr l w E X M l' a := ⟨hC1, hK.sb (Nat.le_refl _) (by omega)⟩
  have hC3 : Cr l w E X M r (a + tln l' + 1) := ⟨hC3, hK.sb (by omega) (by omega)⟩
  cases c with
  | true =>
    rw [if_pos rfl, if_pos rfl, if_pos rfl]
    have R := il co σ M a d s false ka hcc (hWl cu) (hBl cu) k1 (by omega) hC1 (by omega) (hP.mo (Nat.le_refl _) (by omega) (by omega))
    unfold EvO at R
    rw [st0_n (by omega), rt0_n (by omega)] at R
    rw [← sbd_id (evl l w E (fvn l w E vs) l' false)]
    refine (EvG.sb (c2 := 1) (a := a) (b := a + (tln l' + tln r + 1)) (a2 := a) (b2 := a + (tln l' + tln r + 1)) R (fun u σ1 M1 q1' hev hR hVa hq => ?_) (Nat.le_refl _) (by omega) (Nat.le_refl _) (Nat.le_refl _)).mo (Nat.le_refl _) (Nat.le_refl _) (by omega)
    have P1 := hP.nx hR hq (c2 := 1) (a' := a) (b' := a + (tln l' + tln r + 1)) (by omega) (Nat.le_refl _) (Nat.le_refl _)
    obtain ⟨n0, n2, n4⟩ := hR.st.nj hC2
    exact EvG.jm (co2 := 0) (x := 0) hB P1 (Nat.le_refl _) (by omega) (Or.inr (Or.inr rfl)) n0 (fun z => absurd rfl z) n4 (e' := a + (tln l' + tln r + 1)) (by rw [if_pos rfl]; omega) ⟨σ1, M1, 0, Rn1.rf P1.1 P1.2.1, hVa, Nat.le_refl _⟩
  | false =>
    rw [if_neg (by decide), if_neg (by decide), if_neg (by decide)]
    have R := ir co σ M (a + tln l' + 1) d s false kb hcc hWr hBr k2 (by omega) hC3 (by omega) (hP.mo (by omega) (by omega) (by omega))
    unfold EvO at R
    rw [st0_n (by omega), rt0_n (by omega), show a + tln l' + 1 + tln r = a + (tln l' + tln r + 1) by omega] at R
    exact R.mo (by omega) (Nat.le_refl _) (by omega)
theorem ev_log (G : Gv N t n l w E X fs vs B cc) (p : Nat) (l' r : Tr) (c17 : p % 64 = 17 ∨ p % 64 = 18) (il : EvP N t n l w E X fs vs B cc m l') (ir : EvP N t n l w E X fs vs B cc m r) : EvP N t n l w E X fs vs B cc m (.branch p l' r) := by
  intro co σ M a d s c kd hcc hW hNB hck hkd hCr han hP
  obtain ⟨ht, hN, hn24, hB, hSF, hnv, hok⟩ := G
  have hok' : ∀ j, j < E.length → (co = true → (E.getD j eN).2.1 = 1) → ∀ v, fvn l w E vs j = .inr v → okv (if (E.getD j eN).2.2.1 then 2 else 1) v := fun j h1 h2 => hok j h1 (fun z => h2 (hcc z))
  obtain ⟨hWl, hWr, hfo, hwf⟩ := hW
  obtain ⟨hBl, hBr⟩ := hNB
  have pl := tln_pos l'
  have pr := tln_pos r
  have cu : un (p % 64) = false := by rcases c17 with z | z <;> rw [z] <;> rfl
  obtain ⟨w1, w2, w3, w4, w5, w6, w7⟩ := wfn_l hwf
  have ll := w5 cu (by omega) (by omega)
  have rl := w6 cu (by omega)
  have et : tln (.branch p l' r) = lnc (p % 64) (tln l') (tln r) := rfl
  have lv : lev (.branch p l' r) ≤ 7 := by
    show lvo (p % 64) ≤ 7
    rcases c17 with z | z <;> rw [z] <;> decide
  unfold EvO
  rw [st0_n lv, rt0_n lv]
  rw [et, lnc_3 (by omega)] at han hP ⊢
  unfold chk at hck
  rw [if_neg (by rw [cu]; decide)] at hck
  obtain ⟨ka, k1, hck⟩ := sbd_i hck
  obtain ⟨kb, k2, k3⟩ := sbd_i hck
  obtain ⟨q1, q2, q3, q4, q5⟩ := kr_k k3 hkd
  obtain ⟨ea, eb⟩ := q2 c17
  subst ea eb
  unfold evl
  rw [if_neg (by rw [cu]; decide), if_neg (by omega)]
  obtain ⟨hCr, hK⟩ := hCr
  rw [et, lnc_3 (by omega)] at hK
  unfold Code at hCr
  rw [if_neg (by omega), if_neg (by omega), if_pos c17] at hCr
  obtain ⟨hC1, hC2, hC3, hC4⟩ := hCr
  have hC1 : Cr l w E X M l' a := ⟨hC1, hK.sb (Nat.le_refl _) (by omega)⟩
  have hC3 : Cr l w E X M r (a + tln l' + 1) := ⟨hC3, hK.sb (by omega) (by omega)⟩
  have R := il co σ M a d s false 2 hcc (hWl cu) (hBl cu) k1 (by decide) hC1 (by omega) (hP.mo (Nat.le_refl _) (by omega) (by omega))
  unfold EvO at R
  rw [st0_n (by omega), rt0_n (by omega)] at R
  refine (EvG.sb (c2 := 2 * tln r + 2) (a := a) (b := a + (tln l' + tln r + 2)) (a2 := a) (b2 := a + (tln l' + tln r + 2)) R (fun u σ1 M1 q1' hev hR hVa hq => ?_) (Nat.le_refl _) (by omega) (Nat.le_refl _) (Nat.le_refl _)).mo (Nat.le_refl _) (Nat.le_refl _) (by omega)
  have P1 := hP.nx hR hq (c2 := 2 * tln r + 2) (a' := a) (b' := a + (tln l' + tln r + 2)) (by omega) (by omega) (by omega)
  have okA := evl_ok hnv hok' l' false 2 u (hWl cu) k1 (by decide) hev
  have v1 := hVa.t1 okA
  obtain ⟨j0, j2, j4⟩ := hR.st.nj hC2
  have J : Rn1 N t n l w E X fs vs m d B σ1 M1 (s + q1') (a + tln l') (a + tln l') a a 0 σ1 M1 := Rn1.rf P1.1 P1.2.1
  have e1 : a + (tln l' + tln r + 2) - 1 = a + tln l' + 1 + tln r := by omega
  have e2 : a + (tln l' + tln r + 2) = a + tln l' + 1 + tln r + 1 := by omega
  rw [e1, e2]
  rw [e2] at P1
  have e3 : 2 * tln r + 2 = 1 + (2 * tln r + 1) := by omega
  rw [e3]
  have P1' : PrS t n l w E X fs vs m d B σ1 M1 a (a + tln l' + 1 + tln r + 1) (s + q1' + 1) (2 * tln r + 1) := by
    obtain ⟨h1, h2, h3, h4, h5, h6⟩ := P1
    exact ⟨h1, h2, h3, h4, h5, by omega⟩
  have nd1 := hR.st.nd hC4
  have n5 : ∀ M2, Sta M M2 → M2 (a + tln l' + 1 + tln r) 5 = 2 := fun M2 st => by
    rw [(st _).2.2.2 (Or.inr ⟨p % 64, by omega, by omega, hC4.1⟩)]
    exact (hK _ _ (by omega) (by omega) (by omega) (by omega) hC4.1).trans (if_neg (by omega))
  -- the right one is worked out
  have right : ∀ op, p % 64 = op → (op = 17 ∧ M1 (a + tln l' - 1) 6 = 1 ∨ op = 18 ∧ ¬ M1 (a + tln l' - 1) 6 = 1) → EvG N t n l w E X fs vs m d B σ1 M1 (s + q1' + 1) (a + tln l' + 1) (a + tln l' + 1 + tln r + 1) a (a + tln l' + 1 + tln r + 1) (a + tln l' + 1 + tln r) (2 * tln r + 1) (evl l w E (fvn l w E vs) r false) := by
    intro op hop hc
    have R2 := ir co σ1 M1 (a + tln l' + 1) d (s + q1' + 1) false 2 hcc hWr hBr k2 (by decide) (hR.st.cr hC3) (by omega) (P1'.mo (by omega) (by omega) (by omega))
    unfold EvO at R2
    rw [st0_n (by omega), rt0_n (by omega)] at R2
    rw [← sbd_id (evl l w E (fvn l w E vs) r false)]
    refine EvG.sb (c2 := 1) (a2 := a) (b2 := a + tln l' + 1 + tln r + 1) R2 (fun v σ2 M2 q2' hev2 hR2 hVa2 hq2 => ?_) (by omega) (by omega) (Nat.le_refl _) (Nat.le_refl _)
    have P2 := P1'.nx hR2 hq2 (c2 := 1) (a' := a) (b' := a + tln l' + 1 + tln r + 1) (by omega) (Nat.le_refl _) (Nat.le_refl _)
    obtain ⟨n0, n1, n2, n3, n4, n7⟩ := hR2.st.nd nd1
    have okB := evl_ok hnv hok' r false 2 v hWr k2 (by decide) hev2
    have vA := hR2.kp P1'.2.2.2.1 (i := a + tln l' - 1) (by omega) (by omega) (by omega) hVa
    have vA1 := vA.t1 okA
    have vB : Va M2 (a + tln l' + tln r) v := by
      have z : a + tln l' + 1 + tln r - 1 = a + tln l' + tln r := by omega
      rw [z] at hVa2
      exact hVa2
    rw [hop] at n0 n7
    rcases hc with ⟨rfl, hc⟩ | ⟨rfl, hc⟩
    · exact EvG.wo ht hB P2 (by omega) (by omega) (by omega) (op := 17) (by decide) (by decide) n0 (wk17t ht P2.1.1 (by omega) n2 n3 (by omega) (by omega) (vA1.mpr (v1.mp hc)) vB okB (n7 (by decide)) (n5 _ (hR.st.tr hR2.st))) (by decide)
    · exact EvG.wo ht hB P2 (by omega) (by omega) (by omega) (op := 18) (by decide) (by decide) n0 (wk18f ht P2.1.1 (by omega) n2 n3 (by omega) (by omega) (fun z => hc (v1.mpr (vA1.mp z))) vB okB (n7 (by decide)) (n5 _ (hR.st.tr hR2.st))) (by decide)
  rcases c17 with z | z
  · rw [if_pos z]
    rw [z] at j0
    by_cases hu : u.1 = 1
    · rw [if_pos hu]
      exact EvG.jm hB P1 (by omega) (by omega) (op := 23) (Or.inl rfl) j0 (fun _ => ⟨by omega, j2⟩) j4 (by rw [if_neg (by decide), if_neg (by decide), if_pos (v1.mpr hu)]) (right 17 z (Or.inl ⟨rfl, v1.mpr hu⟩))
    · rw [if_neg hu]
      rw [z] at nd1
      obtain ⟨n0, n1, n2, n3, n4, n7⟩ := nd1
      exact EvG.jm hB P1 (by omega) (by omega) (op := 23) (Or.inl rfl) j0 (fun _ => ⟨by omega, j2⟩) j4 (by rw [if_neg (by decide), if_neg (by decide), if_neg (fun y => hu (v1.mp y))]) (EvG.wo ht hB P1' (by omega) (by omega) (by omega) (op := 17) (by decide) (by decide) n0 (wk17f ht P1.1.1 (by omega) n2 (by omega) (fun y => hu (v1.mp y)) (n7 (by decide)) (n5 _ hR.st)) (by omega))
  · rw [if_neg (by omega), if_pos z]
    rw [z] at j0
    by_cases hu : u.1 = 1
    · rw [if_pos hu]
      rw [z] at nd1
      obtain ⟨n0, n1, n2, n3, n4, n7⟩ := nd1
      exact EvG.jm hB P1 (by omega) (by omega) (op := 24) (Or.inr (Or.inl rfl)) j0 (fun _ => ⟨by omega, j2⟩) j4 (by rw [if_neg (by decide), if_pos rfl, if_pos (v1.mpr hu)]) (EvG.wo ht hB P1' (by omega) (by omega) (by omega) (op := 18) (by decide) (by decide) n0 (wk18t ht P1.1.1 (by omega) n2 (by omega) (v1.mpr hu) (n7 (by decide)) (n5 _ hR.st)) (by omega))
    · rw [if_neg hu]
      exact EvG.jm hB P1 (by omega) (by omega) (op := 24) (Or.inr (Or.inl rfl)) j0 (fun _ => ⟨by omega, j2⟩) j4 (by rw [if_neg (by decide), if_pos rfl, if_neg (fun y => hu (v1.mp y))]) (right 18 z (Or.inr ⟨rfl, fun y => hu (v1.mp y)⟩))
theorem ev_cho (G : Gv N t n l w E X fs vs B cc) (p : Nat) (l' r : Tr) (c19 : p % 64 = 19) (il : EvP N t n l w E X fs vs B cc m l') (ir : EvP N t n l w E X fs vs B cc m r) : EvP N t n l w E X fs vs B cc m (.branch p l' r) := by
  intro co σ M a d s c kd hcc hW hNB hck hkd hCr han hP
  obtain ⟨ht, hN, hn24, hB, hSF, hnv, hok⟩ := G
  have hok' : ∀ j, j < E.length → (co = true → (E.getD j eN).2.1 = 1) → ∀ v, fvn l w E vs j = .inr v → okv (if (E.getD j eN).2.2.1 then 2 else 1) v := fun j h1 h2 => hok j h1 (fun z => h2 (hcc z))
  obtain ⟨hWl, hWr, hfo, hwf⟩ := hW
  obtain ⟨hBl, hBr⟩ := hNB
  have pl := tln_pos l'
  have pr := tln_pos r
  have cu : un (p % 64) = false := by rw [c19]; rfl
  obtain ⟨w1, w2, w3, w4, w5, w6, w7⟩ := wfn_l hwf
  have ll := w5 cu (by omega) (by omega)
  have rl := w2 c19
  have et : tln (.branch p l' r) = lnc (p % 64) (tln l') (tln r) := rfl
  have lv : lev (.branch p l' r) ≤ 7 := by
    show lvo (p % 64) ≤ 7
    rw [c19]; decide
  have fr : fln r ≤ tln r := by
    cases r with
    | leaf k => exact Nat.zero_le _
    | branch p' x y =>
      show tln x ≤ lnc (p' % 64) (tln x) (tln y)
      have z : p' % 64 = 37 := by
        have rl : lvo (p' % 64) = 8 := rl
        unfold lvo at rl
        repeat' split at rl
        all_goals omega
      rw [z, lnc_4 (by decide) (by decide) (by decide)]
      omega
  unfold EvO
  rw [st0_n lv, rt0_n lv]
  rw [et, lnc_3 (by omega)] at han hP ⊢
  unfold chk at hck
  rw [if_neg (by rw [cu]; decide)] at hck
  obtain ⟨ka, k1, hck⟩ := sbd_i hck
  obtain ⟨kb, k2, k3⟩ := sbd_i hck
  obtain ⟨q1, q2, q3, q4, q5⟩ := kr_k k3 hkd
  obtain ⟨ea, eb⟩ := q3 c19
  subst ea
  unfold evl
  rw [if_neg (by rw [cu]; decide), if_neg (by omega)]
  simp only [if_neg (show ¬ p % 64 = 17 by omega), if_neg (show ¬ p % 64 = 18 by omega), if_pos c19]
  obtain ⟨hCr, hK⟩ := hCr
  rw [et, lnc_3 (by omega)] at hK
  unfold Code at hCr
  rw [if_neg (by omega), if_neg (by omega), if_neg (by omega), if_pos c19] at hCr
  obtain ⟨hC1, hC2, hC3, hC4⟩ := hCr
  have hC1 : Cr l w E X M l' a := ⟨hC1, hK.sb (Nat.le_refl _) (by omega)⟩
  have hC3 : Cr l w E X M r (a + tln l' + 1) := ⟨hC3, hK.sb (by omega) (by omega)⟩
  have R := il co σ M a d s false 2 hcc (hWl cu) (hBl cu) k1 (by decide) hC1 (by omega) (hP.mo (Nat.le_refl _) (by omega) (by omega))
  unfold EvO at R
  rw [st0_n (by omega), rt0_n (by omega)] at R
  refine (EvG.sb (c2 := 2 * tln r + 2) (a := a) (b := a + (tln l' + tln r + 2)) (a2 := a) (b2 := a + (tln l' + tln r + 2)) R (fun u σ1 M1 q1' hev hR hVa hq => ?_) (Nat.le_refl _) (by omega) (Nat.le_refl _) (Nat.le_refl _)).mo (Nat.le_refl _) (Nat.le_refl _) (by omega)
  have P1 := hP.nx hR hq (c2 := 2 * tln r + 2) (a' := a) (b' := a + (tln l' + tln r + 2)) (by omega) (by omega) (by omega)
  have okA := evl_ok hnv hok' l' false 2 u (hWl cu) k1 (by decide) hev
  have v1 := hVa.t1 okA
  obtain ⟨j0, j2, j4⟩ := hR.st.nj hC2
  have e1 : a + (tln l' + tln r + 2) - 1 = a + tln l' + 1 + tln r := by omega
  have e2 : a + (tln l' + tln r + 2) = a + tln l' + 1 + tln r + 1 := by omega
  rw [e1, e2]
  rw [e2] at P1
  have e3 : 2 * tln r + 2 = 1 + (2 * tln r + 1) := by omega
  rw [e3]
  have P1' : PrS t n l w E X fs vs m d B σ1 M1 a (a + tln l' + 1 + tln r + 1) (s + q1' + 1) (2 * tln r + 1) := by
    obtain ⟨h1, h2, h3, h4, h5, h6⟩ := P1
    exact ⟨h1, h2, h3, h4, h5, by omega⟩
  have R2 := ir co σ1 M1 (a + tln l' + 1) d (s + q1' + 1) (decide (u.1 = 1)) kb hcc hWr hBr k2 eb (hR.st.cr hC3) (by omega) (P1'.mo (by omega) (by omega) (by omega))
  unfold EvO at R2
  have step : EvG N t n l w E X fs vs m d B σ1 M1 (s + q1' + 1) (st0 r (a + tln l' + 1) (decide (u.1 = 1))) (a + tln l' + 1 + tln r + 1) a (a + tln l' + 1 + tln r + 1) (a + tln l' + 1 + tln r) (2 * tln r + 1) (evl l w E (fvn l w E vs) r (decide (u.1 = 1))) := by
    rw [← sbd_id (evl l w E (fvn l w E vs) r (decide (u.1 = 1)))]
    refine EvG.sb (c2 := 1) (a2 := a) (b2 := a + tln l' + 1 + tln r + 1) R2 (fun v σ2 M2 q2' hev2 hR2 hVa2 hq2 => ?_) (by omega) (by omega) (Nat.le_refl _) (Nat.le_refl _)
    have P2 := P1'.nx hR2 hq2 (c2 := 1) (a' := a) (b' := a + tln l' + 1 + tln r + 1) (by omega) (Nat.le_refl _) (Nat.le_refl _)
    obtain ⟨n0, n1, n2, n3, n4, n7⟩ := hR2.st.nd (hR.st.nd hC4)
    have vA := hR2.kp P1'.2.2.2.1 (i := a + tln l' - 1) (by omega) (by omega) (by omega) hVa
    have vA1 := vA.t1 okA
    unfold rt0 at hVa2
    rw [if_pos rl] at hVa2
    by_cases hu : u.1 = 1
    · rw [if_pos (by simpa using hu), show a + tln l' + 1 + fln r - 1 = a + tln l' + fln r by omega] at hVa2
      exact EvG.wo ht hB P2 (by omega) (by omega) (by omega) (op := 19) (by decide) (by decide) n0 (wk19t ht P2.1.1 (by omega) n0 n2 n3 (by omega) (by omega) (vA1.mpr hu) hVa2) (by decide)
    · rw [if_neg (by simpa using hu), show a + tln l' + 1 + tln r - 1 = a + tln l' + tln r by omega] at hVa2
      exact EvG.wo ht hB P2 (by omega) (by omega) (by omega) (op := 19) (by decide) (by decide) n0 (wk19f ht P2.1.1 (by omega) n0 n2 n4 (by omega) (by omega) (fun z => hu (vA1.mp z)) hVa2) (by decide)
  refine EvG.jm hB P1 (by omega) (by omega) (op := 23) (Or.inl rfl) j0 (fun _ => ⟨by omega, j2⟩) j4 ?_ step
  rw [if_neg (by decide), if_neg (by decide)]
  unfold st0
  rw [if_pos rl]
  by_cases hu : u.1 = 1
  · rw [if_pos (v1.mpr hu), if_pos (by simpa using hu)]
  · rw [if_neg (fun y => hu (v1.mp y)), if_neg (by simpa using hu)]
/-- the class's machine works out every rule -/
theorem evT (G : Gv N t n l w E X fs vs B cc) : ∀ m, m ≤ E.length → ∀ T, EvP N t n l w E X fs vs B cc m T := by
  intro m
  induction m using Nat.strongRecOn with
  | _ m IH =>
  intro hm T
  induction T with
  | leaf k => exact ev_leaf G hm (fun j hj => IH j hj (by omega) _) k
  | branch p l' r il ir =>
    by_cases cu : un (p % 64) = true
    · exact ev_un G p l' r cu ir
    have cu : un (p % 64) = false := by simpa using cu
    by_cases c1 : p % 64 = 17 ∨ p % 64 = 18
    · exact ev_log G p l' r c1 il ir
    by_cases c2 : p % 64 = 19
    · exact ev_cho G p l' r c2 il ir
    by_cases c3 : p % 64 = 37
    · exact ev_pair G p l' r c3 il ir
    exact ev_bin G p l' r cu (by omega) (by omega) c2 c3 il ir
end EV
