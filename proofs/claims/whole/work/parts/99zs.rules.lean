/-! the class's checker: the rules of an item -/
/-- the checker's numbers and the nodes -/
def FG (t : Nat) (σ σ' : st_S) : Prop := Fr 0 [(46, 4), (46, 5), (46, 6), (46, 7), (46, 8), (46, 9), (46, 10), (46, 11), (46, 12)] [] [] [t + 2, t + 3, t + 4, t + 5, t + 6, t + 7, t + 8, t + 9] [] σ σ' ∧ gN σ' = gN σ ∧ gC σ' = gC σ
section FGS
variable {t : Nat} {σ σ' σ'' : st_S}
theorem FG.rf (σ : st_S) : FG t σ σ := ⟨Fr.rf σ, rfl, rfl⟩
theorem FG.tr (h : FG t σ σ') (h' : FG t σ' σ'') : FG t σ σ'' := ⟨Fr.t0 h.1 h'.1, h'.2.1.trans h.2.1, h'.2.2.trans h.2.2⟩
theorem F6.fg (h : F6 σ σ') : FG t σ σ' := ⟨h.1.mo (fun _ q => q) (by simp) (by simp) (by simp) (by simp), h.2.1, h.2.2.1⟩
theorem FN.fg (h : FN t σ σ') : FG t σ σ' := ⟨h.1.mo (by intro a q; simp only [List.mem_cons, List.not_mem_nil, or_false] at q ⊢; exact Or.inl q) (by simp) (by simp) (fun _ q => q) (by simp), h.2⟩
theorem FG.fk (h : FG t σ σ') : FK t σ σ' := ⟨h.1.mo (by intro a q; simp only [List.mem_cons, List.not_mem_nil, or_false] at q ⊢; rcases q with q | q | q | q | q | q | q | q | q <;> simp [q]) (by simp) (by simp) (by intro a q; simp only [List.mem_cons, List.not_mem_nil, or_false] at q ⊢; omega) (by simp), h.2⟩
theorem FG.kp (ht : t = 4 ∨ t = 20) (h : FG t σ σ') : Kp t σ σ' := ⟨h.2.1, fun a k q => h.1.1 a k (by
  simp only [List.mem_cons, List.not_mem_nil, or_false, Prod.mk.injEq]
  omega), fun a q => (h.1.2.2.2.1 a (by
  simp only [List.mem_cons, List.not_mem_nil, or_false]
  omega)).2⟩
theorem FG.un (ht : t = 4 ∨ t = 20) (h : FG t σ σ') (q : Unm σ) : Unm σ' := by
  unfold Unm
  rw [(h.1.2.2.2.1 44 (by simp only [List.mem_cons, List.not_mem_nil, or_false]; omega)).2, h.1.1 42 5 (by simp)]
  exact q
theorem FG.wd (ht : t = 4 ∨ t = 20) {l : List Int32} (h : FG t σ σ') (q : Wd σ l) : Wd σ' l := by
  obtain ⟨q1, q2, q3, q4, q5⟩ := q
  refine ⟨?_, by rw [h.2.1]; exact q2, by rw [h.2.1]; exact q3, q4, ?_⟩
  · rw [h.1.1 2 1 (by simp)]; exact q1
  · rw [(h.1.2.2.2.1 3 (by simp only [List.mem_cons, List.not_mem_nil, or_false]; omega)).2]; exact q5
end FGS
/-- the head's node as it stays -/
def Hk (w : List (Nat × Nat × Nat)) (M : Nat → Nat → Int32) (h op k : Nat) : Prop := M h 0 = nI op ∧ M h 1 = nI (kP w k) ∧ (op ≤ 29 → M h 2 = nI (kP w (k + 1)) ∧ M h 3 = nI (kE w (k + 1) - kP w (k + 1))) ∧ (op = 29 → M h 4 = nI (if kK w (k + 3) = 5 then 2 else 1)) ∧ (op = 31 → M h 2 = nI (kK w k - 6))
/-- the checker's numbers -/
def FD (σ : st_S) (h op : Nat) (R : List (Nat × Tr)) : Prop := (∀ r T R', R = (r, T) :: R' → (r = 0 ∨ r = 4) → gI σ 46 6 = nI (lyn h R' + mk r + tln T)) ∧ (∀ f, ren h R 1 = some f → gI σ 46 7 = nI f) ∧ (∀ f, ren h R 2 = some f → gI σ 46 8 = nI f) ∧ (op = 29 → gI σ 46 9 = match ren h R 3 with
    | none => -1
    | some f => nI f) ∧ (op = 31 → gI σ 46 11 = nI (brs R) ∧ (brs R ≠ 0 → gI σ 46 10 = nI (brn h R) ∧ gI σ 46 12 = match (sns h R).head? with
    | none => -1
    | some s => nI s))
def RI (σ : st_S) (t n : Nat) (M : Nat → Nat → Int32) (l : List Int32) (w : List (Nat × Nat × Nat)) (E : List En) (X fs : Nat → Nat) (tge : Int32) (nc : Nat) (hs : Nat → Nat) (h op k : Nat) (R : List (Nat × Tr)) : Prop := CS σ t n M ∧ Wd σ l ∧ SP σ t w E X fs tge nc hs ∧ Unm σ ∧ gI σ 46 5 = nI h ∧ Hk w M h op k ∧ FD σ h op R ∧ RL l w E X M op k h R ∧ (op = 31 → LK l w E X M h R (-1) (-1))
/-- what the next rule comes to -/
def RuO (N : Nat) (σ : st_S) (t n : Nat) (M : Nat → Nat → Int32) (l : List Int32) (w : List (Nat × Nat × Nat)) (E : List En) (X fs : Nat → Nat) (tge : Int32) (nc : Nat) (hs : Nat → Nat) (h op k : Nat) (R : List (Nat × Tr)) (r : Nat) (T : Tr) : Prop := match (match ahd l w E R r T with
    | some e => some e
    | none => rck l w E op k r T) with
  | some e => ∃ σ', Sft N t σ (lyn h R) (mk r + tln T + 1) e.1 σ' ∧ gI σ' 46 4 = nI e.2 ∧ FK t σ σ'
  | none => ∃ σ' M', Sgo N t σ (lyn h R) σ' (mk r + tln T + 1) ∧ RI σ' t n M' l w E X fs tge nc hs h op k ((r, T) :: R) ∧ (∀ i, (i < h ∨ lyn h ((r, T) :: R) ≤ i) → M' i = M i) ∧ FK t σ σ' ∧ gI σ' 46 4 = -1
section RU2
variable {N : Nat} {σ : st_S} {t n : Nat} {M : Nat → Nat → Int32} {l : List Int32} {w : List (Nat × Nat × Nat)} {E : List En} {X fs : Nat → Nat} {tge : Int32} {nc : Nat} {hs : Nat → Nat} {h op k : Nat} {R : List (Nat × Tr)} {T : Tr} {r : Nat}
/-- rules of consts, formulas, vars, the target -/
theorem ru_0 (ht : t = 4 ∨ t = 20) (hN : 20000 < N) (hP : Pw l w) (hI : RI σ t n M l w E X fs tge nc hs h op k R) (h4 : gI σ 46 4 = -1) (hE : EXm M E X fs h) (hop : op < 40) (hC : Ch w op k ((r, T) :: R)) (hr : r ≤ 4) (hn : lyn h ((r, T) :: R) ≤ n) (c1 : Co l w M T (lyn h R + mk r)) (c2 : Re w M (lyn h R + mk r + tln T) (bw T) r (lyn h R + mk r)) : RuO N σ t n M l w E X fs tge nc hs h op k R r T := by
  obtain ⟨i1, i2, i3, i4, i5, i6, i7, i8, i9⟩ := hI
  obtain ⟨o1, o2, o3, o4, o5, -⟩ := Ch_op hC
  obtain ⟨-, hW, hl, -⟩ := hC
  have g := lyn_gt h R
  have m0 : mk r = 0 := if_neg (by omega)
  have ey : lyn h ((r, T) :: R) = lyn h R + mk r + tln T + 1 := rfl
  have ah : ahd l w E R r T = none := by
    unfold ahd
    rw [if_neg (by omega), if_neg (by omega)]
  have K := ru_mid (N := N) (p := h) (k := k) (r := r) ht hN hP i1 i2 i3 hE i5 h4 hop i6.1 (by omega) hW hl (show h < lyn h R + mk r by omega) (by omega) c1 c2 (fun z => i6.2.2.2.1 (o3 (by omega) (by omega))) (fun z => by omega) (fun z => by omega) (by omega)
  unfold RuO
  rw [ah]
  dsimp only
  have ez : mk r + tln T + 1 = tln T + 1 := by omega
  have eq : lyn h R + mk r = lyn h R := by omega
  cases hk : rck l w E op k r T with
  | some e =>
    rw [hk] at K
    dsimp only at K ⊢
    rw [ez]
    rw [eq] at K
    exact K
  | none =>
    rw [hk] at K
    dsimp only at K ⊢
    obtain ⟨σ2, M2, kd, k1, k2, k3, k4, k5, k6, k7, k8⟩ := K
    have hx : ∃ j, 4 ≤ j ∧ j ≤ 12 ∧ (r = 1 ∧ j = 7 ∨ r = 2 ∧ j = 8 ∨ r = 3 ∧ j = 9 ∨ r ≠ 1 ∧ r ≠ 2 ∧ r ≠ 3 ∧ j = 6) ∧ eff σ2 t r (lyn h R + mk r + tln T) h h h = st_i σ2 46 j (nI (lyn h R + mk r + tln T)) := by
      unfold eff
      by_cases z1 : r = 1
      · exact ⟨7, by decide, by decide, by omega, by rw [if_pos z1]⟩
      by_cases z2 : r = 2
      · exact ⟨8, by decide, by decide, by omega, by rw [if_neg z1, if_pos z2]⟩
      by_cases z3 : r = 3
      · exact ⟨9, by decide, by decide, by omega, by rw [if_neg z1, if_neg z2, if_pos z3]⟩
      · exact ⟨6, by decide, by decide, by omega, by rw [if_neg z1, if_neg z2, if_neg z3, if_neg (by omega), if_neg (by omega), if_neg (by omega)]⟩
    obtain ⟨j, j1, j2, j3, j4⟩ := hx
    rw [j4] at k1
    have f6 := F6.i σ2 (nI (lyn h R + mk r + tln T)) ⟨j1, j2⟩
    have fg : FG t σ (st_i σ2 46 j (nI (lyn h R + mk r + tln T))) := k3.fg.tr f6.fg
    have gi : ∀ x, x ≠ 4 → gI (st_i σ2 46 j (nI (lyn h R + mk r + tln T))) 46 x = if x = j then nI (lyn h R + mk r + tln T) else gI σ 46 x := fun x hx => by
      rw [gI_i, k3.g6 hx]
      by_cases z : x = j
      · rw [if_pos ⟨rfl, z⟩, if_pos z]
      · rw [if_neg (fun y => z y.2), if_neg z]
    have mh : M2 h = M h := k5 h (Or.inl (by omega))
    have cb : ∀ i, cdn h R i → M2 i = M i := fun i z => k5 i (Or.inl (by have := cdn_b z; omega))
    have er : ∀ ρ, ren h ((r, T) :: R) ρ = if r = ρ then some (lyn h R + mk r + tln T) else ren h R ρ := fun _ => rfl
    refine ⟨_, M2, ?_, ⟨f6.cs ht k2, fg.wd ht i2, i3.kp (fg.kp ht), fg.un ht i4, ?_, ?_, ⟨?_, ?_, ?_, ?_, ?_⟩, ⟨i8.fr cb, kd, k6, k7⟩, ?_⟩, fun i hi => k5 i (by omega), fg.fk, by rw [gI_i, if_neg (by omega)]; exact k8⟩
    · rw [ez]; rw [eq] at k1 ⊢; exact k1
    · rw [gi 5 (by decide), if_neg (by omega)]; exact i5
    · unfold Hk; rw [mh]; exact i6
    · intro r' T' R' hh hr'
      injection hh with h1 h2
      injection h1 with h1 h3
      subst h1 h2 h3
      rw [gi 6 (by decide), if_pos (by omega)]
    · intro f hf
      rw [er] at hf
      by_cases z : r = 1
      · rw [if_pos z] at hf
        injection hf with hf
        rw [gi 7 (by decide), if_pos (by omega), hf]
      · rw [if_neg z] at hf
        rw [gi 7 (by decide), if_neg (by omega)]
        exact i7.2.1 f hf
    · intro f hf
      rw [er] at hf
      by_cases z : r = 2
      · rw [if_pos z] at hf
        injection hf with hf
        rw [gi 8 (by decide), if_pos (by omega), hf]
      · rw [if_neg z] at hf
        rw [gi 8 (by decide), if_neg (by omega)]
        exact i7.2.2.1 f hf
    · intro ho
      rw [er]
      by_cases z : r = 3
      · rw [if_pos z, gi 9 (by decide), if_pos (by omega)]
      · rw [if_neg z, gi 9 (by decide), if_neg (by omega)]
        exact i7.2.2.2.1 ho
    · intro ho
      have r4 : r ≤ 4 := hr
      exfalso
      rcases (show r = 0 ∨ (1 ≤ r ∧ r ≤ 3) ∨ r = 4 by omega) with z | z | z
      · have := o5 z; omega
      · have := o3 z.1 z.2; omega
      · have := o4 z; omega
    · intro ho
      exfalso
      rcases (show r = 0 ∨ (1 ≤ r ∧ r ≤ 3) ∨ r = 4 by omega) with z | z | z
      · have := o5 z; omega
      · have := o3 z.1 z.2; omega
      · have := o4 z; omega
/-- a command's guard -/
theorem ru_5 (ht : t = 4 ∨ t = 20) (hN : 20000 < N) (hP : Pw l w) (hI : RI σ t n M l w E X fs tge nc hs h op k R) (h4 : gI σ 46 4 = -1) (hE : EXm M E X fs h) (hop : op < 40) (hC : Ch w op k ((5, T) :: R)) (hn : lyn h ((5, T) :: R) ≤ n) (c1 : Co l w M T (lyn h R + mk 5)) (c2 : Re w M (lyn h R + mk 5 + tln T) (bw T) 5 (lyn h R + mk 5)) : RuO N σ t n M l w E X fs tge nc hs h op k R 5 T := by
  obtain ⟨i1, i2, i3, i4, i5, i6, i7, i8, i9⟩ := hI
  obtain ⟨o1, o2, o3, o4, o5, o6, o7, o8, o9⟩ := Ch_op hC
  obtain ⟨-, hW, hl, -⟩ := hC
  have R0 := o6 rfl
  subst R0
  have o31 := o2 (by decide)
  have m0 : mk 5 = 0 := rfl
  rw [m0] at c1 c2
  have ey : lyn h ((5, T) :: []) = h + 1 + 0 + tln T + 1 := rfl
  have e1 : lyn h [] = h + 1 := rfl
  rw [e1] at c1 c2
  have K := ru_mid (N := N) (p := h) (k := k) (r := 5) ht hN hP i1 i2 i3 hE i5 h4 hop i6.1 (by decide) hW hl (show h < h + 1 + 0 by omega) (by omega) c1 c2 (fun z => by omega) (fun z => by omega) (fun z => by omega) (by omega)
  unfold RuO
  have ah : ahd l w E [] 5 T = none := rfl
  rw [ah, e1, m0]
  dsimp only
  cases hk : rck l w E op k 5 T with
  | some e =>
    rw [hk] at K
    dsimp only at K ⊢
    rw [show 0 + tln T + 1 = tln T + 1 by omega]
    exact K
  | none =>
    rw [hk] at K
    dsimp only at K ⊢
    obtain ⟨σ2, M2, kd, k1, k2, k3, k4, k5, k6, k7, k8⟩ := K
    have ee : eff σ2 t 5 (h + 1 + 0 + tln T) h h h = st_e σ2 (t + 2 + 3) h (nI (h + 1 + 0 + tln T)) := rfl
    rw [ee] at k1
    have fn : FN t σ (st_e σ2 (t + 2 + 3) h (nI (h + 1 + 0 + tln T))) := k3.tr (FN.c σ2 (c := 3) (by decide) h _)
    have fg := fn.fg
    have mh : ∀ c, c ≠ 3 → pat M2 h 3 (nI (h + 1 + 0 + tln T)) h c = M h c := fun c hc => by rw [pat_c _ _ hc, k5 h (Or.inl (by omega))]
    have gi : ∀ x, x ≠ 4 → gI (st_e σ2 (t + 2 + 3) h (nI (h + 1 + 0 + tln T))) 46 x = gI σ 46 x := fun x hx => fn.g6 hx
    refine ⟨_, pat M2 h 3 (nI (h + 1 + 0 + tln T)), ?_, ⟨k2.e (c := 3) (by decide) _, fg.wd ht i2, i3.kp (fg.kp ht), fg.un ht i4, ?_, ?_, ⟨?_, ?_, ?_, ?_, ?_⟩, ⟨trivial, kd, ?_, k7⟩, ?_⟩, fun i hi => ?_, fg.fk, k8⟩
    · rw [show 0 + tln T + 1 = tln T + 1 by omega]; exact k1
    · rw [gi 5 (by decide)]; exact i5
    · obtain ⟨a1, a2, a3, a4, a5⟩ := i6
      exact ⟨(mh 0 (by decide)).trans a1, (mh 1 (by decide)).trans a2, fun z => by omega, fun z => by omega, fun z => (mh 2 (by decide)).trans (a5 z)⟩
    · intro r' T' R' hh hr'
      injection hh with h1 h2
      injection h1 with h1 h3
      omega
    · intro f hf
      rw [gi 7 (by decide)]; exact i7.2.1 f hf
    · intro f hf
      rw [gi 8 (by decide)]; exact i7.2.2.1 f hf
    · intro z; omega
    · intro z
      refine ⟨?_, fun y => absurd rfl y⟩
      rw [gi 11 (by decide)]; exact (i7.2.2.2.2 z).1
    · exact k6.fr (fun i a b => pat_o _ _ (by omega))
    · intro z
      unfold LK
      rw [if_neg (by decide), if_neg (by decide)]
      refine ⟨pat_s _ _ _ _, fun y => absurd y (by decide)⟩
    · rw [pat_o _ _ (by omega)]; exact k5 i (by omega)
end RU2
