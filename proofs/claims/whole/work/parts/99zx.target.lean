/-! the class's checker: the target, a command -/
section TC
variable {N : Nat} {σ : st_S} {t n : Nat} {M : Nat → Nat → Int32} {l : List Int32} {w : List (Nat × Nat × Nat)} {X fs : Nat → Nat} {tge : Int32} {hs : Nat → Nat} {h op k : Nat} {R : List (Nat × Tr)} {E : List En} {tg : Option Tr} {C : List It}
/-- what stands before the item -/
def TS (l : List Int32) (w : List (Nat × Nat × Nat)) (E : List En) (tg : Option Tr) (C : List It) (X fs : Nat → Nat) (M : Nat → Nat → Int32) (tge : Int32) (hs : Nat → Nat) (h : Nat) : Prop := EXm M E X fs h ∧ SF l w E X fs ∧ Cok E ∧ FC l w E X fs M ∧ XN E X ∧ TgR l w E X fs M tg tge h ∧ CmR l w E X fs M hs h C
theorem TI.ts {b : Nat} (q : TI σ t n M l w (E, tg, C) X fs tge hs b) : TS l w E tg C X fs M tge hs b := q.2.2.2.2
theorem TS.fr {M' : Nat → Nat → Int32} (q : TS l w E tg C X fs M tge hs h) (he : ∀ i, i < h → M' i = M i) : TS l w E tg C X fs M' tge hs h := by
  obtain ⟨q1, q2, q3, q4, q5, q6, q7⟩ := q
  exact ⟨q1.fr he, q2, q3, q4.fr q1 he, q5, q6.fr (Nat.le_refl _) he, q7.fr (Nat.le_refl _) he⟩
theorem TS.mo {b : Nat} (q : TS l w E tg C X fs M tge hs h) (hb : h ≤ b) : TS l w E tg C X fs M tge hs b := by
  obtain ⟨q1, q2, q3, q4, q5, q6, q7⟩ := q
  exact ⟨q1.mo hb, q2, q3, q4, q5, q6.fr hb (fun _ _ => rfl), q7.fr hb (fun _ _ => rfl)⟩
/-- what an item's end comes to -/
def FiO (N : Nat) (σ : st_S) (t n : Nat) (M : Nat → Nat → Int32) (l : List Int32) (w : List (Nat × Nat × Nat)) (p : Nat) (o : Rs Tx) : Prop := match o with
  | .inl e => ∃ σ', Sft N t σ p 1 e.1 σ' ∧ gI σ' 46 4 = nI e.2 ∧ FK t σ σ'
  | .inr x => ∃ σ' M' X' fs' tge' hs', Sgo N t σ p σ' 1 ∧ TI σ' t n M' l w x X' fs' tge' hs' (p + 1) ∧ (∀ i, p + 1 ≤ i → M' i = M i) ∧ FK t σ σ' ∧ gI σ' 46 4 = gI σ 46 4
theorem exm_old (q : EXm M E X fs h) {j : Nat} (hj : j < E.length) (s : (E.getD j eN).2.1 = 2) : fs j + tln (fTr E j) < h := by
  rcases q j hj with ⟨z, -⟩ | ⟨-, -, z, -⟩ | z
  · omega
  · exact z
  · omega
/-- a target's or a formula's one rule -/
theorem one_r {r : Nat} (hC : Ch w op k R) (hF : Fi w op k R (n)) (ho : op = 27 ∨ op = 28 ∨ op = 30) (hr : r = if op = 30 then 4 else 0) : ∃ T, R = [(r, T)] := by
  obtain ⟨-, ⟨-, z, -⟩ | ⟨r', T, R1, rfl, -⟩⟩ := hF
  · omega
  · obtain ⟨o1, o2, o3, o4, o5, o6, -⟩ := Ch_op hC
    have hB := hC.2.2.2
    have e : r' = r := by
      rcases ho with z | z | z
      · rw [if_neg (by omega)] at hr
        by_cases c : r' = 0
        · omega
        · exfalso
          by_cases c4 : r' = 4
          · have := o4 c4; omega
          · by_cases c5 : 5 ≤ r'
            · have := o2 c5; omega
            · have := o3 (by omega) (by omega); omega
      · rw [if_neg (by omega)] at hr
        by_cases c : r' = 0
        · omega
        · exfalso
          by_cases c4 : r' = 4
          · have := o4 c4; omega
          · by_cases c5 : 5 ≤ r'
            · have := o2 c5; omega
            · have := o3 (by omega) (by omega); omega
      · rw [if_pos z] at hr
        by_cases c : r' = 4
        · omega
        · exfalso
          by_cases c4 : r' = 0
          · have := o5 c4; omega
          · by_cases c5 : 5 ≤ r'
            · have := o2 c5; omega
            · have := o3 (by omega) (by omega); omega
    have R0 : R1 = [] := by
      have r04 : r' = 0 ∨ r' = 4 := by
        rcases ho with z | z | z
        · rw [if_neg (by omega)] at hr; omega
        · rw [if_neg (by omega)] at hr; omega
        · rw [if_pos z] at hr; omega
      unfold Bg at hB
      rcases hB with z | z | z | z | z | ⟨_, _, _, z, _⟩ | ⟨_, _, _, z, _⟩ | ⟨_, _, _, z, _⟩ | ⟨_, _, _, z, _⟩ | ⟨_, _, _, z, _⟩ | ⟨z, _⟩
      all_goals first
        | exact z.1
        | omega
    subst R0 e
    exact ⟨T, rfl⟩
theorem fi_30 (ht : t = 4 ∨ t = 20) (hI : RI σ t n M l w E X fs tge C.length hs h 30 k R) (hT : TS l w E tg C X fs M tge hs h) (hC : Ch w 30 k R) {m : Nat} (hF : Fi w 30 k R m) (hn : lyn h R < n) (e34 : M (lyn h R) 0 = nI 34) : FiO N σ t n M l w (lyn h R) (fin l w (E, tg, C) 30 k R) := by
  obtain ⟨T, rfl⟩ := one_r (r := 4) hC hF (Or.inr (Or.inr rfl)) rfl
  obtain ⟨i1, i2, i3, i4, i5, i6, i7, ⟨-, kd, i8, i8'⟩, -⟩ := hI
  have g6 := i7.1 4 T [] rfl (Or.inr rfl)
  have e1 : lyn h [] + mk 4 = h + 1 := rfl
  rw [e1] at g6 i8
  have hk : kd = 2 := by
    have : wkd l w E k 4 T = 2 := rfl
    rw [this] at i8'
    omega
  subst hk
  have ey : lyn h [(4, T)] = h + 1 + tln T + 1 := rfl
  have hh : h < n := by rw [ey] at hn; omega
  have a2 : aB (nI h) (gN σ (t + 2)) := i1.a (c := 0) (by decide) hh
  have g2 : gE σ (t + 2) (nI h).toNatClampNeg = nI 30 := (i1.g (c := 0) (by decide) hh).trans i6.1
  have f67 : F_67 N t σ = some (0, st_i σ t 11 (nI (h + 1 + tln T))) := by
    unfold F_67
    rw [i5, if_pos a2]
    simp only [g2]
    rw [if_neg (show ¬ nI 30 = 27 by decide), if_neg (show ¬ nI 30 = 28 by decide), if_neg (show ¬ nI 30 = 29 by decide), if_pos (show nI 30 = 30 from rfl), g6]
  have gt : ∀ a k', ¬ (a = t ∧ k' = 11) → gI (st_i σ t 11 (nI (h + 1 + tln T))) a k' = gI σ a k' := fun a k' z => by rw [gI_i, if_neg z]
  obtain ⟨t1, t2, t3, t4, t5, t6, t7⟩ := hT.mo (show h ≤ lyn h [(4, T)] + 1 by rw [ey]; omega)
  have hfin : fin l w (E, tg, C) 30 k [(4, T)] = .inr (E, some T, C) := rfl
  rw [hfin]
  refine ⟨st_i σ t 11 (nI (h + 1 + tln T)), M, X, fs, nI (h + 1 + tln T), hs, fun k' => ?_, ⟨i1.i (by omega) _, ⟨(gt 2 1 (by omega)).trans i2.1, i2.2⟩, ?_, ?_, t1, t2, t3, t4, t5, ⟨h + 1, E.length, rfl, by rw [ey]; omega, i8, hC.2.1, hC.2.2.1, Nat.le_refl _, chk_nbl hC.2.1 i8.2.1, fun j hj s => ?_, fun j h1 h2 _ => absurd h2 (Nat.not_lt.mpr h1)⟩, t7⟩, fun _ _ => rfl, FK.i σ _ (by simp), gt 46 4 (by omega)⟩
  · rw [L53f i1 hn e34, f67, ob_some]
    rfl
  · obtain ⟨⟨a1, a1'⟩, a2', ⟨b1, b2, b3, b4, b5⟩, a4⟩ := i3
    exact ⟨⟨(gt 47 5 (by omega)).trans a1, a1'⟩, a2', ⟨(gt t 7 (by omega)).trans b1, (gt t 8 (by omega)).trans b2, (gt t 9 (by omega)).trans b3, (gt t 10 (by omega)).trans b4, by rw [gI_i, if_pos ⟨rfl, rfl⟩]⟩, a4⟩
  · unfold Unm
    rw [gt 42 5 (by omega)]
    exact i4
  · have z : fs j + tln (fTr E j) < h := exm_old hT.1 hj s
    show fs j + tln (fTr E j) < h + 1
    omega
/-- the rules of a command stay -/
theorem RL.rc (hE : EXm M E X fs h) : ∀ {R : List (Nat × Tr)}, RL l w E X M 31 k h R → rul l w E 31 k R = none → Ch w 31 k R → RC l w E X fs M h E.length R := by
  intro R
  induction R with
  | nil => intro _ _ _; trivial
  | cons x R ih =>
    obtain ⟨r, T⟩ := x
    intro q hr hC
    obtain ⟨q1, kd, q2, q3⟩ := q
    rw [rul_s] at hr
    cases hr1 : rul l w E 31 k R with
    | some e => rw [hr1] at hr; cases hr
    | none =>
      rw [hr1] at hr
      dsimp only at hr
      have g := lyn_gt h R
      refine ⟨ih q1 hr1 hC.1, kd, ⟨q2, hC.2.1, hC.2.2.1, Nat.le_refl _, chk_nbl hC.2.1 q2.2.1, fun j hj s => by have := exm_old hE hj s; omega, fun j h1 h2 _ => by omega⟩, fun z => ?_, fun z => ?_, fun z => ?_⟩
      · subst z
        have : wkd l w E k 5 T = 2 := rfl
        rw [this] at q3; omega
      · subst z
        have : wkd l w E k 6 T = 1 := rfl
        rw [this] at q3; omega
      · subst z
        have ww : wkd l w E k 7 T = kdn (E.getD ((fnd l w E (bw T - 3)).getD 0) eN) := rfl
        have ah : ahd l w E R 7 T = match fnd l w E (bw T - 3) with
          | none => some (2, kP w (bw T - 3))
          | some j => if (E.getD j eN).2.1 ≠ 3 then some (2, kP w (bw T - 3)) else if (sts l w E R).contains j then some (4, kP w (bw T - 3)) else none := rfl
        rw [ah] at hr
        cases hf : fnd l w E (bw T - 3) with
        | none => rw [hf] at hr; cases hr
        | some j =>
          rw [hf] at hr ww
          dsimp only at hr
          refine ⟨j, rfl, ?_, ?_⟩
          · by_cases s3 : (E.getD j eN).2.1 = 3
            · exact s3
            · rw [if_pos s3] at hr; cases hr
          · have k0 : kdn (E.getD j eN) ≠ 0 := by unfold kdn; split <;> decide
            have ww : wkd l w E k 7 T = kdn (E.getD j eN) := ww
            rw [ww] at q3
            omega
theorem fi_31 (ht : t = 4 ∨ t = 20) (hI : RI σ t n M l w E X fs tge C.length hs h 31 k R) (hT : TS l w E tg C X fs M tge hs h) (hC : Ch w 31 k R) (hr : rul l w E 31 k R = none) (h60 : C.length < 60) (hn : lyn h R < n) (e34 : M (lyn h R) 0 = nI 34) : FiO N σ t n M l w (lyn h R) (fin l w (E, tg, C) 31 k R) := by
  obtain ⟨i1, i2, i3, i4, i5, i6, i7, i8, i9⟩ := hI
  have g := lyn_gt h R
  have a2 : aB (nI h) (gN σ (t + 2)) := i1.a (c := 0) (by decide) (by omega)
  have g2 : gE σ (t + 2) (nI h).toNatClampNeg = nI 31 := (i1.g (c := 0) (by decide) (by omega)).trans i6.1
  have b4 := i3.2.2.1.2.2.2.1
  have l15 := i3.2.1.2.2.2.2.2.1
  have a15 : aB (nI C.length) (gN σ (t + 15)) := by rw [l15]; exact aB_nI h60 (by decide)
  have f67 : F_67 N t σ = some (0, st_i (st_e σ (t + 15) C.length (nI h)) t 10 (nI (C.length + 1))) := by
    unfold F_67
    rw [i5, if_pos a2]
    simp only [g2]
    rw [if_neg (show ¬ nI 31 = 27 by decide), if_neg (show ¬ nI 31 = 28 by decide), if_neg (show ¬ nI 31 = 29 by decide), if_neg (show ¬ nI 31 = 30 by decide), b4, if_pos a15, nI_1, nI_clamp (by omega)]
  have gt : ∀ a k', ¬ (a = t ∧ k' = 10) → gI (st_i (st_e σ (t + 15) C.length (nI h)) t 10 (nI (C.length + 1))) a k' = gI σ a k' := fun a k' z => by rw [gI_i, if_neg z]; rfl
  have ge : ∀ a, a ≠ t + 15 → gE (st_i (st_e σ (t + 15) C.length (nI h)) t 10 (nI (C.length + 1))) a = gE σ a := fun a z => funext fun i => st_u_a _ _ _ _ z
  have g15 : ∀ i, gE (st_i (st_e σ (t + 15) C.length (nI h)) t 10 (nI (C.length + 1))) (t + 15) i = if i = C.length then nI h else gE σ (t + 15) i := fun i => by
    show st_u (gE σ) (t + 15) C.length (nI h) (t + 15) i = _
    unfold st_u
    by_cases c : i = C.length
    · rw [if_pos c, if_pos ⟨rfl, c⟩]
    · rw [if_neg c, if_neg (fun z => c z.2)]
  obtain ⟨t1, t2, t3, t4, t5, t6, t7⟩ := hT.mo (show h ≤ lyn h R + 1 by omega)
  have hfin : fin l w (E, tg, C) 31 k R = .inr (E, tg, (31, k, R) :: C) := rfl
  rw [hfin]
  refine ⟨st_i (st_e σ (t + 15) C.length (nI h)) t 10 (nI (C.length + 1)), M, X, fs, tge, upf hs C.length h, fun k' => ?_, ⟨(i1.x (by omega) _).i (by omega) _, ?_, ?_, ?_, t1, t2, t3, t4, t5, t6, ?_⟩, fun _ _ => rfl, (FK.e σ _ _ (by simp)).tr (FK.i _ _ (by simp)), gt 46 4 (by omega)⟩
  · rw [L53f i1 hn e34, f67, ob_some]
    rfl
  · obtain ⟨w1, w2, w3, w4, w5⟩ := i2
    exact ⟨(gt 2 1 (by omega)).trans w1, w2, w3, w4, by rw [ge 3 (by omega)]; exact w5⟩
  · obtain ⟨⟨a1, a1', a3, a4, a5, a6, a7⟩, a2', ⟨b1, b2, b3, b4, b5⟩, ⟨c1, c2, c3⟩, d1, d2, d3⟩ := i3
    refine ⟨⟨(gt 47 5 (by omega)).trans a1, a1', a3, a4, a5, a6, by rw [ge 48 (by omega), ge 49 (by omega), ge 50 (by omega), ge 51 (by omega)]; exact a7⟩, a2', ⟨(gt t 7 (by omega)).trans b1, (gt t 8 (by omega)).trans b2, (gt t 9 (by omega)).trans b3, by rw [gI_i, if_pos ⟨rfl, rfl⟩]; rfl, (gt t 11 (by omega)).trans b5⟩, ⟨c1, c2, h60⟩, by rw [ge (t + 10) (by omega), ge (t + 11) (by omega), ge (t + 12) (by omega), ge (t + 13) (by omega)]; exact d1, by rw [ge (t + 14) (by omega)]; exact d2, fun i hi => ?_⟩
    have hi : i < C.length + 1 := hi
    rw [g15]
    by_cases c : i = C.length
    · subst c
      rw [if_pos rfl, upf_s]
    · rw [if_neg c, upf_o c]
      exact d3 i (by omega)
  · unfold Unm
    rw [gt 42 5 (by omega), ge 44 (by omega)]
    exact i4
  · refine ⟨t7.ho (fun i hi => upf_o (by omega)), rfl, ?_⟩
    rw [upf_s]
    exact ⟨by omega, i6, hC, i9 rfl, E.length, i8.rc hT.1 hr hC⟩
end TC
