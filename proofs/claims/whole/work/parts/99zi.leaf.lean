/-! the class's machine: an operand -/
section EV
variable {N t n : Nat} {l : List Int32} {w : List (Nat × Nat × Nat)} {E : List En} {X fs : Nat → Nat} {vs : Nat → Int32} {m B : Nat} {cc : Bool}
/-- a formula's value by its tree -/
theorem fvn_f {j : Nat} (s1 : (E.getD j eN).2.1 = 2) (f2 : Wf w (fTr E j)) (f4 : NBl l w E j (fTr E j)) : fvn l w E vs j = evl l w E (fvn l w E vs) (fTr E j) false := by
  have e1 : fvn l w E vs j = evl l w E (fun j' => (fvs l w E vs j).getD j' (.inl (0, 0))) (fTr E j) false := by
    show evn l w E vs (fvs l w E vs j) (E.getD j eN) = _
    unfold evn
    rw [if_neg (by omega), if_neg (by omega)]
    rfl
  rw [e1]
  exact evl_cg (fun j' hj' => fvs_get l w E vs j j' hj') (fTr E j) false f2 f4
theorem phi2_sp {σ : st_S} {j : Nat} (jm : j < m) : phi2 E X σ j + trm E X σ j ≤ phi2 E X σ m := by
  induction m with
  | zero => omega
  | succ m ih =>
    have e1 : phi2 E X σ (m + 1) = phi2 E X σ m + trm E X σ m := rfl
    by_cases c : j = m
    · subst c; omega
    · have := ih (by omega); omega
/-- a formula that was not met is called -/
theorem ev_call (G : Gv N t n l w E X fs vs B cc) (hmE : m ≤ E.length) {j : Nat} (jm : j < m) (hcf : cc = false) (IH : EvP N t n l w E X fs vs B cc j (fTr E j)) {σ : st_S} {M : Nat → Nat → Int32} {a d s : Nat} (han : a + 1 ≤ n) (hP : PrS t n l w E X fs vs m d B σ M a (a + 1) s 2) (s1 : (E.getD j eN).2.1 = 2) (n0 : M a 0 = nI 3) (n2 : M a 2 = nI (X j)) (hm : ¬ gE σ 44 (X j) = gI σ 42 5) : (∃ er, fvn l w E vs j = .inl er ∧ EvG N t n l w E X fs vs m d B σ M s a (a + 1) a (a + 1) a 2 (.inl er)) ∨ (∃ v σ2 M2 q, fvn l w E vs j = .inr v ∧ Rn1 N t n l w E X fs vs m d B σ M s a a a (a + 1) q σ2 M2 ∧ q + phi2 E X σ2 m ≤ phi2 E X σ m ∧ gE σ2 44 (X j) = gI σ2 42 5) := by
  obtain ⟨ht, hN, hn24, hB, ⟨SF1, SF2, SF3⟩, hnv, hok⟩ := G
  obtain ⟨hMF, hMt, hvs, hDJ, hd, hs⟩ := hP
  have lt : j < E.length := by omega
  obtain ⟨f1, f2, f3, f4, f5⟩ := SF2 j lt s1
  obtain ⟨g1, g2, g3, g4, g5, g6⟩ := hMF.2.2.2.2.2 j lt s1
  have pT := tln_pos (fTr E j)
  have nf1 : nfo E j + 1 ≤ nfo E m := by
    have h1 : nfo E (j + 1) = nfo E j + 1 := by rw [nfo_s, if_pos s1]
    have := nfo_le (E := E) (show j + 1 ≤ m by omega)
    omega
  have tj : trm E X σ j = 2 * tln (fTr E j) + 2 := if_pos ⟨s1, hm⟩
  have call := fun k' => L70c (N := N) (B := B) (k := k') hMF.1 (show a < n by omega) n0 n2 f1 hMF.2.2.1 hMF.2.2.2.1 hMF.2.2.2.2.1 hm (show d < 60 by omega) g1 g2 g5 (show s < B by omega) hB
  have ne : ∀ b i, b ≠ 45 → gE (st_e σ 45 d (nI a)) b i = gE σ b i := fun b i z => st_u_a _ _ _ _ z
  have cCS : CS (st_e σ 45 d (nI a)) t n M := hMF.1.x (by omega) _
  have cMF : MF (st_e σ 45 d (nI a)) t n M l w E X fs := ⟨cCS, hMF.2.1, hMF.2.2.1, hMF.2.2.2.1, hMF.2.2.2.2.1, fun j' h1 h2 => by rw [ne (t + 14) _ (by omega)]; exact hMF.2.2.2.2.2 j' h1 h2⟩
  have cMt : Mtt l w E X fs vs (st_e σ 45 d (nI a)) M := fun j' h1 h2 h3 => hMt j' h1 h2 (by rw [ne 44 _ (by decide)] at h3; exact h3)
  have ct : ∀ j', trm E X (st_e σ 45 d (nI a)) j' = trm E X σ j' := fun j' => trm_eq (funext fun i => ne 44 i (by decide)) rfl j'
  have cDJ : DJ E X fs (st_e σ 45 d (nI a)) j (fs j) (fs j + tln (fTr E j)) := by
    intro j' h1 h2 h3
    have hne : j' ≠ j := by
      rintro rfl
      rcases h3 with z | z
      · rw [ne 44 _ (by decide)] at z; exact hm z
      · omega
    have := (SF3 j' j h1 lt h2 s1 hne).2
    omega
  have pe : phi2 E X (st_e σ 45 d (nI a)) j = phi2 E X σ j := phi2_eq j (fun j' _ => ct j')
  have split := phi2_sp (E := E) (X := X) (σ := σ) jm
  have kd0 : kdn (E.getD j eN) ≠ 0 := by unfold kdn; split <;> decide
  have R := IH false (st_e σ 45 d (nI a)) M (fs j) (d + 1) (s + 1) false (kdn (E.getD j eN)) (fun z => by rw [hcf] at z; cases z) f2 f4.nf f5 kd0 g6 (by omega) ⟨cMF, cMt, fun v hv => by rw [ne 43 _ (by decide)]; exact hvs v hv, cDJ, by omega, by omega⟩
  have e := fvn_f (vs := vs) s1 f2 f4
  have fm0 : FM t σ (st_e σ 45 d (nI a)) := FM.e σ d (nI a) (by simp)
  unfold EvO at R
  rw [st0_n (by omega), rt0_n (by omega)] at R
  cases hv : evl l w E (fvn l w E vs) (fTr E j) false with
  | inl er =>
    rw [hv] at R e
    obtain ⟨σ1, M1, q1, ⟨x1, x2, x3, x4, x5, x6⟩, xq⟩ := R
    refine Or.inl ⟨er, e, σ1, M1, q1 + 1, ⟨fun k' => ?_, x2, fm0.tr x3, x4, x5, x6.trans (funext fun i => ne 43 i (by decide))⟩, by omega⟩
    rw [show k' + (q1 + 1) = k' + q1 + 1 by omega, call, x1]
  | inr v =>
    rw [hv] at R e
    obtain ⟨σ1, M1, q1, ⟨x1, x2, x3, x4, x5, x6, x7, x8, x9, x10⟩, xv, xq⟩ := R
    obtain ⟨b1, b2, b3, b4, b5, b6⟩ := x2.2.2.2.2.2 j lt s1
    have c45 : gE σ1 45 d = nI a := by
      rw [x6 d (by omega)]
      show st_u (gE σ) 45 d (nI a) 45 d = nI a
      unfold st_u
      rw [if_pos ⟨rfl, rfl⟩]
    have en := fun k' => L70e (N := N) (B := B) (k := k') (s := s + 1 + q1) x2.1 b2 b3 (show d < 60 by omega) x2.2.2.2.1 c45 (show a < n by omega) (((x8 a).1 2 (by decide)).trans n2) f1 x2.2.2.1 (show s + 1 + q1 < B by omega) hB
    have n44 : ∀ b i, b ≠ 44 → gE (st_e σ1 44 (X j) (gI σ1 42 5)) b i = gE σ1 b i := fun b i z => st_u_a _ _ _ _ z
    have m44 : ∀ i, gE (st_e σ1 44 (X j) (gI σ1 42 5)) 44 i = if i = X j then gI σ1 42 5 else gE σ1 44 i := by
      intro i
      show st_u (gE σ1) 44 (X j) (gI σ1 42 5) 44 i = _
      unfold st_u
      by_cases c : i = X j
      · rw [if_pos c, if_pos ⟨rfl, c⟩]
      · rw [if_neg c, if_neg (fun z => c z.2)]
    have i5 : gI (st_e σ1 44 (X j) (gI σ1 42 5)) 42 5 = gI σ1 42 5 := rfl
    have mo : ∀ j', j' < E.length → (E.getD j' eN).2.1 = 2 → j' ≠ j → (gE (st_e σ1 44 (X j) (gI σ1 42 5)) 44 (X j') = gI (st_e σ1 44 (X j) (gI σ1 42 5)) 42 5 ↔ gE σ1 44 (X j') = gI σ1 42 5) := by
      intro j' h1 h2 h3
      rw [m44, if_neg (SF3 j' j h1 lt h2 s1 h3).1, i5]
    have mj : gE (st_e σ1 44 (X j) (gI σ1 42 5)) 44 (X j) = gI (st_e σ1 44 (X j) (gI σ1 42 5)) 42 5 := by rw [m44, if_pos rfl, i5]
    have cm : ∀ j', (gE (st_e σ 45 d (nI a)) 44 (X j') = gI (st_e σ 45 d (nI a)) 42 5 ↔ gE σ 44 (X j') = gI σ 42 5) := by
      intro j'
      rw [ne 44 _ (by decide)]
      exact Iff.rfl
    have bk : ∀ j', j' < E.length → (E.getD j' eN).2.1 = 2 → gE (st_e σ1 44 (X j) (gI σ1 42 5)) 44 (X j') = gI (st_e σ1 44 (X j) (gI σ1 42 5)) 42 5 → gE σ 44 (X j') = gI σ 42 5 ∨ j' ≤ j := by
      intro j' h1 h2 h3
      by_cases c : j' = j
      · exact Or.inr (by omega)
      · rcases x10 j' h1 h2 ((mo j' h1 h2 c).mp h3) with z | z
        · exact Or.inl ((cm j').mp z)
        · exact Or.inr (by omega)
    have fw : ∀ j', j' < E.length → (E.getD j' eN).2.1 = 2 → gE σ 44 (X j') = gI σ 42 5 → gE (st_e σ1 44 (X j) (gI σ1 42 5)) 44 (X j') = gI (st_e σ1 44 (X j) (gI σ1 42 5)) 42 5 := by
      intro j' h1 h2 h3
      by_cases c : j' = j
      · rw [c]; exact mj
      · exact (mo j' h1 h2 c).mpr (x9 j' h1 h2 ((cm j').mpr h3))
    have t0 : trm E X (st_e σ1 44 (X j) (gI σ1 42 5)) j = 0 := if_neg (fun z => z.2 mj)
    have t1 : ∀ j', j < j' → j' < m → trm E X (st_e σ1 44 (X j) (gI σ1 42 5)) j' = trm E X σ j' := by
      intro j' h1 h2
      unfold trm
      by_cases c2 : (E.getD j' eN).2.1 = 2
      · have key : gE (st_e σ1 44 (X j) (gI σ1 42 5)) 44 (X j') = gI (st_e σ1 44 (X j) (gI σ1 42 5)) 42 5 ↔ gE σ 44 (X j') = gI σ 42 5 := ⟨fun z => by
          rcases bk j' (by omega) c2 z with y | y
          · exact y
          · omega, fw j' (by omega) c2⟩
        by_cases c3 : gE σ 44 (X j') = gI σ 42 5
        · rw [if_neg (fun z => z.2 (key.mpr c3)), if_neg (fun z => z.2 c3)]
        · rw [if_pos ⟨c2, fun z => c3 (key.mp z)⟩, if_pos ⟨c2, c3⟩]
      · rw [if_neg (fun z => c2 z.1), if_neg (fun z => c2 z.1)]
    have t2 : phi2 E X (st_e σ1 44 (X j) (gI σ1 42 5)) j = phi2 E X σ1 j := by
      refine phi2_eq j (fun j' hj' => ?_)
      unfold trm
      by_cases c2 : (E.getD j' eN).2.1 = 2
      · have key := mo j' (by omega) c2 (by omega)
        by_cases c3 : gE σ1 44 (X j') = gI σ1 42 5
        · rw [if_neg (fun z => z.2 (key.mpr c3)), if_neg (fun z => z.2 c3)]
        · rw [if_pos ⟨c2, fun z => c3 (key.mp z)⟩, if_pos ⟨c2, c3⟩]
      · rw [if_neg (fun z => c2 z.1), if_neg (fun z => c2 z.1)]
    have ph := phi2_one (E := E) (X := X) (σ := σ) t0 m jm t1
    refine Or.inr ⟨v, st_e σ1 44 (X j) (gI σ1 42 5), M1, q1 + 2, e, ⟨fun k' => ?_, ⟨x2.1.x (by omega) _, x2.2.1, x2.2.2.1, x2.2.2.2.1, x2.2.2.2.2.1, fun j' h1 h2 => by rw [n44 (t + 14) _ (by omega)]; exact x2.2.2.2.2.2 j' h1 h2⟩, ?_, fm0.tr (x4.tr (FM.e σ1 (X j) _ (by simp))), ⟨?_, fun x hx => ?_, fun x => ?_⟩, fun i hi => ?_, fun i hi hf => ?_, x8, fw, fun j' h1 h2 h3 => ?_⟩, by omega, mj⟩
    · rw [show k' + (q1 + 2) = k' + 1 + q1 + 1 by omega, call, x1, en, show s + 1 + q1 + 1 = s + (q1 + 2) by omega]
    · intro j' h1 h2 h3
      by_cases c : j' = j
      · rw [c]; exact ⟨v, e, xv⟩
      · exact x3 j' h1 h2 ((mo j' h1 h2 c).mp h3)
    · funext i
      rw [n44 43 i (by decide), x5.1, ne 43 i (by decide)]
    · rw [m44, if_neg (fun z => hx j jm lt s1 z.symm), x5.2.1 x (fun j' h1 h2 h3 => hx j' (by omega) h2 h3), ne 44 x (by decide)]
    · have r5 : gI σ1 42 5 = gI σ 42 5 := FM.r5 (fm0.tr x4)
      by_cases c : x = X j
      · exact Or.inr (by rw [m44, if_pos c]; exact r5)
      · rw [m44, if_neg c]
        rcases x5.2.2 x with z | z
        · exact Or.inl (z.trans (by rw [ne 44 x (by decide)]))
        · exact Or.inr z
    · rw [n44 45 i (by decide), x6 i (by omega)]
      show st_u (gE σ) 45 d (nI a) 45 i = _
      unfold st_u
      rw [if_neg (fun z => by have := z.2; omega)]
    · exact x7 i (hf j jm lt s1) (fun j' h1 h2 h3 => hf j' (by omega) h2 h3)
    · rcases bk j' h1 h2 h3 with z | z
      · exact Or.inl z
      · exact Or.inr (by omega)
theorem ev_leaf (G : Gv N t n l w E X fs vs B cc) (hmE : m ≤ E.length) (IH : ∀ j, j < m → EvP N t n l w E X fs vs B cc j (fTr E j)) (k : Nat) : EvP N t n l w E X fs vs B cc m (.leaf k) := by
  intro co σ M a d s c kd hcc hW hNB hck hkd hCr han hP
  have G' := G
  obtain ⟨ht, hN, hn24, hB, ⟨SF1, SF2, SF3⟩, hnv, hok⟩ := G
  have han : a + 1 ≤ n := han
  have hP : PrS t n l w E X fs vs m d B σ M a (a + 1) s 2 := hP
  have hP' := hP
  obtain ⟨hMF, hMt, hvs, hDJ, hd, hs⟩ := hP
  show EvG N t n l w E X fs vs m d B σ M s a (a + 1) a (a + 1) a 2 _
  have val : ∀ v, M a 0 = nI 0 → Va M a v → EvG N t n l w E X fs vs m d B σ M s a (a + 1) a (a + 1) a 2 (.inr v) := by
    intro v e0 hv
    refine ⟨σ, M, 1, Rn1.jm hMF hMt (fun k' => ?_), hv, by omega⟩
    rw [L70w (k := k') hMF.1 (by omega) (Or.inl (by decide)) e0 (by omega) hB, wk0 hMF.1 (by omega), ob_some]
  unfold evl
  obtain ⟨hCr, -⟩ := hCr
  rcases hCr with ⟨k1, n0, n6, n7, n5⟩ | ⟨k1, n0, n6, n7, n5⟩ | ⟨k1, n0, n6, n7, n5⟩ | ⟨k1, j, hf, lt, hCr⟩
  · rw [if_pos k1]
    exact val _ n0 ⟨by rw [n6]; exact (lg_l2i_i2l _).symm, n7, n5⟩
  · rw [if_neg (by omega), if_pos k1]
    exact val _ n0 ⟨n6, n7, n5⟩
  · rw [if_neg (by omega), if_neg (by omega), if_pos k1]
    exact val _ n0 ⟨n6, n7, n5⟩
  · rw [if_neg (by omega), if_neg (by omega), if_neg (by omega), hf]
    show EvG N t n l w E X fs vs m d B σ M s a (a + 1) a (a + 1) a 2 (fvn l w E vs j)
    rcases hCr with ⟨s1, n0, n6, n7, n5⟩ | ⟨s1, n0, n2⟩ | ⟨s1, n0, n2, n7, n5⟩
    · have e : fvn l w E vs j = .inr (E.getD j eN).2.2.2.2.1 := by
        unfold fvn evn
        rw [if_pos s1]
      rw [e]
      exact val _ n0 ⟨n6, n7, n5.trans (kvv_k (hok j lt (fun _ => s1) _ e)).symm⟩
    · have jm : j < m := hNB k1 j hf s1
      have hcf : cc = false := by
        cases hc : cc with
        | false => rfl
        | true =>
          unfold chk at hck
          rw [if_neg (by omega), if_pos k1] at hck
          unfold chn at hck
          rw [hf] at hck
          dsimp only at hck
          rw [if_pos ⟨hcc hc, by omega⟩] at hck
          cases hck
      obtain ⟨f1, f2, f3, f4, f5⟩ := SF2 j lt s1
      have pT := tln_pos (fTr E j)
      have met : ∀ (σ1 : st_S) (M1 : Nat → Nat → Int32) (s1' : Nat) (v : Int64 × Int64), MF σ1 t n M1 l w E X fs → Mtt l w E X fs vs σ1 M1 → DJ E X fs σ1 m a (a + 1) → M1 a 0 = nI 3 → M1 a 2 = nI (X j) → gE σ1 44 (X j) = gI σ1 42 5 → fvn l w E vs j = .inr v → s1' < B → EvG N t n l w E X fs vs m d B σ1 M1 s1' a (a + 1) a (a + 1) a 1 (.inr v) := by
        intro σ1 M1 s1' v a1 a2 a3 a4 a5 a6 a7 a8
        obtain ⟨v', v1, v2⟩ := a2 j lt s1 a6
        have : v' = v := by rw [a7] at v1; injection v1 with v1; exact v1.symm
        subst this
        obtain ⟨b1, b2, b3, b4, b5, b6⟩ := a1.2.2.2.2.2 j lt s1
        obtain ⟨σ', M', r1, r2, r3⟩ := Rn1.wk (N := N) (d := d) (B := B) (s := s1') ht a1 a2 a3 (Nat.le_refl a) (Nat.lt_succ_self a) (by omega) (by rw [a4]; decide) (fun k' => L70m (k := k') a1.1 (by omega) a4 a5 f1 a1.2.2.1 a6 a8 hB) (wk3 ht a1.1 (by omega) a4 a5 f1 a1.2.2.2.2.1 b1 b2 b4 (by omega) v2)
        exact ⟨σ', M', 1, r1, r2, by rw [phi2_eq m (fun j _ => r3 j)]; omega⟩
      by_cases hm : gE σ 44 (X j) = gI σ 42 5
      · obtain ⟨v, v1, v2⟩ := hMt j lt s1 hm
        rw [v1]
        exact (met σ M s v hMF hMt hDJ n0 n2 hm v1 (by omega)).mo (Nat.le_refl a) (Nat.le_refl _) (by decide)
      · rcases ev_call G' hmE jm hcf (IH j jm) han hP' s1 n0 n2 hm with ⟨er, e1, e2⟩ | ⟨v, σ2, M2, q, e1, e2, e3, e4⟩
        · rw [e1]; exact e2
        · rw [e1]
          have st := e2.st
          refine (EvG.pr (c1 := 0) e2 (by omega) (met σ2 M2 (s + q) v e2.2.1 e2.2.2.1 (hDJ.sub (Nat.le_refl a) (Nat.le_refl _) e2.2.2.2.2.2.2.2.2.2) (((st a).1 0 (by decide)).trans n0) (((st a).1 2 (by decide)).trans n2) e4 e1 (by omega)) (Nat.le_refl a) (Nat.le_refl _) (Nat.le_refl a) (Nat.le_refl _)).mo (Nat.le_refl a) (Nat.le_refl _) (by decide)
    · have e : fvn l w E vs j = .inr ((vs (X j)).toInt64, if (E.getD j eN).2.2.1 then 0 else 1) := by
        unfold fvn evn
        rw [if_neg (by omega), if_pos s1, (SF1 j lt s1).2]
      rw [e]
      refine EvG.wo ht hB hP' (Nat.le_refl a) (Nat.lt_succ_self a) (by omega) (op := 2) (by decide) (by decide) n0 (wk2 ht hMF.1 (by omega) n2 (SF1 j lt s1).1 hMF.2.1 (hvs _ (SF1 j lt s1).1) n7 _ ?_ (n5.trans ?_)) (by decide)
      · split <;> rfl
      · unfold kdn kvv; split <;> rfl
end EV
