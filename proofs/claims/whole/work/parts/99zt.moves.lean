/-! the class's checker: branches and sets with their rules; all rules of an item -/
section RU3
variable {N : Nat} {σ : st_S} {t n : Nat} {M : Nat → Nat → Int32} {l : List Int32} {w : List (Nat × Nat × Nat)} {E : List En} {X fs : Nat → Nat} {tge : Int32} {nc : Nat} {hs : Nat → Nat} {h op k : Nat} {R : List (Nat × Tr)} {T : Tr}
/-- a branch -/
theorem ru_6 (ht : t = 4 ∨ t = 20) (hN : 20000 < N) (hP : Pw l w) (hI : RI σ t n M l w E X fs tge nc hs h op k R) (h4 : gI σ 46 4 = -1) (hE : EXm M E X fs h) (hop : op < 40) (hC : Ch w op k ((6, T) :: R)) (hb8 : brs R ≤ 8) (hn : lyn h ((6, T) :: R) ≤ n) (c0 : Mkr w M 6 (lyn h R) (bw T)) (cp : M (lyn h R) 1 = nI (kP w (bw T))) (c1 : Co l w M T (lyn h R + mk 6)) (c2 : Re w M (lyn h R + mk 6 + tln T) (bw T) 6 (lyn h R + mk 6)) : RuO N σ t n M l w E X fs tge nc hs h op k R 6 T := by
  obtain ⟨i1, i2, i3, i4, i5, i6, i7, i8, i9⟩ := hI
  obtain ⟨o1, o2, -⟩ := Ch_op hC
  obtain ⟨-, hW, hl, -⟩ := hC
  have o31 := o2 (by decide)
  obtain ⟨d11, d10⟩ := i7.2.2.2.2 o31
  have g := lyn_gt h R
  have gb := brn_b h R
  have m1 : mk 6 = 1 := rfl
  rw [m1] at c1 c2
  obtain ⟨c00, c03, c04⟩ := c0.1 rfl
  have ey : lyn h ((6, T) :: R) = lyn h R + 1 + tln T + 1 := rfl
  have eb : brs ((6, T) :: R) = brs R + 1 := rfl
  have B := br_ok (N := N) (i := lyn h R) (pl := kP w (bw T)) (c := brs R) (u := brn h R) i1 (by omega) c00 cp d11 hb8 (by omega) (fun z => by rw [brn_0 h z]; exact i5) (fun z => (d10 z).1)
  unfold RuO
  have ah : ahd l w E R 6 T = if 8 ≤ brs R then some (5, kP w (bw T)) else none := rfl
  by_cases c8 : 8 ≤ brs R
  · rw [ah, if_pos c8]
    obtain ⟨σ', z1, z2, z3⟩ := B.1 c8
    exact ⟨σ', z1.mo (by omega), z2, z3.fk⟩
  rw [ah, if_neg c8]
  dsimp only
  have B := B.2 (by omega)
  generalize hσ1 : st_i (st_i (st_i (st_e σ (t + 6) (brn h R) (nI (lyn h R))) 46 10 (nI (lyn h R))) 46 11 (nI (brs R + 1))) 46 12 (-1) = σ1 at B
  have g1 : FG t σ σ1 := by
    subst hσ1
    exact (FN.c σ (c := 4) (by decide) _ _).fg.tr ((F6.i _ _ (by omega)).tr ((F6.i _ _ (by omega)).tr (F6.i _ _ (by omega)))).fg
  have q1 : CS σ1 t n (pat M (brn h R) 4 (nI (lyn h R))) := by
    subst hσ1
    exact (((i1.e (c := 4) (by decide) _).i (by omega) _).i (by omega) _).i (by omega) _
  have x1 : gI σ1 46 10 = nI (lyn h R) ∧ gI σ1 46 11 = nI (brs R + 1) ∧ gI σ1 46 12 = -1 ∧ (∀ x, x < 10 → gI σ1 46 x = gI σ 46 x) := by
    subst hσ1
    refine ⟨?_, ?_, ?_, fun x hx => ?_⟩
    · rw [gI_i, if_neg (by simp), gI_i, if_neg (by simp), gI_i, if_pos ⟨rfl, rfl⟩]
    · rw [gI_i, if_neg (by simp), gI_i, if_pos ⟨rfl, rfl⟩]
    · rw [gI_i, if_pos ⟨rfl, rfl⟩]
    · rw [gI_i, if_neg (by omega), gI_i, if_neg (by omega), gI_i, if_neg (by omega)]
      rfl
  clear hσ1
  have mo : ∀ i, i ≠ brn h R → pat M (brn h R) 4 (nI (lyn h R)) i = M i := fun i hi => pat_o _ _ hi
  have c1' : Co l w (pat M (brn h R) 4 (nI (lyn h R))) T (lyn h R + 1) := c1.fr (fun i a _ => mo i (by omega))
  have c2' : Re w (pat M (brn h R) 4 (nI (lyn h R))) (lyn h R + 1 + tln T) (bw T) 6 (lyn h R + 1) := c2.fr (mo _ (by omega))
  have hh0 : ∀ c, c ≠ 4 → pat M (brn h R) 4 (nI (lyn h R)) h c = M h c := fun c hc => by
    by_cases z : h = brn h R
    · rw [← z, pat_c _ _ hc]
    · rw [mo h z]
  have K := ru_mid (N := N) (p := lyn h R) (k := k) (r := 6) ht hN hP q1 (g1.wd ht i2) (i3.kp (g1.kp ht)) (hE.fr (fun i hi => mo i (by omega))) (by rw [x1.2.2.2 5 (by decide)]; exact i5) (by rw [x1.2.2.2 4 (by decide)]; exact h4) hop ((hh0 0 (by decide)).trans i6.1) (by decide) hW hl (show h < lyn h R + 1 by omega) (by omega) c1' c2' (fun z => by omega) (fun _ => x1.1) (fun z => by omega) (by omega)
  cases hk : rck l w E op k 6 T with
  | some e =>
    rw [hk] at K
    dsimp only at K ⊢
    obtain ⟨σ', z1, z2, z3⟩ := K
    exact ⟨σ', B.fl z1 (by rw [m1]; omega), z2, g1.fk.tr z3⟩
  | none =>
    rw [hk] at K
    dsimp only at K ⊢
    obtain ⟨σ2, M2, kd, k1, k2, k3, k4, k5, k6, k7, k8⟩ := K
    have ee : eff σ2 t 6 (lyn h R + 1 + tln T) h (lyn h R) (lyn h R) = st_e σ2 (t + 2 + 2) (lyn h R) (nI (lyn h R + 1 + tln T)) := rfl
    rw [ee] at k1
    have fn := k3.tr (FN.c σ2 (c := 2) (by decide) (lyn h R) (nI (lyn h R + 1 + tln T)))
    have fg := g1.tr fn.fg
    have gi : ∀ x, x ≠ 4 → gI (st_e σ2 (t + 2 + 2) (lyn h R) (nI (lyn h R + 1 + tln T))) 46 x = gI σ1 46 x := fun x hx => fn.g6 hx
    have m3 : ∀ i, i ≠ lyn h R → (i < lyn h R + 1 ∨ lyn h R + 1 + tln T ≤ i) → pat M2 (lyn h R) 2 (nI (lyn h R + 1 + tln T)) i = pat M (brn h R) 4 (nI (lyn h R)) i := fun i a b => by rw [pat_o _ _ a, k5 i b]
    have er : ∀ ρ, ρ ≠ 6 → ren h ((6, T) :: R) ρ = ren h R ρ := fun ρ z => if_neg (fun y => z y.symm)
    have nn : ∀ c, c ≠ 2 → pat M2 (lyn h R) 2 (nI (lyn h R + 1 + tln T)) (lyn h R) c = M (lyn h R) c := fun c hc => by rw [pat_c _ _ hc, k5 _ (Or.inl (by omega)), mo _ (by omega)]
    refine ⟨_, pat M2 (lyn h R) 2 (nI (lyn h R + 1 + tln T)), B.tr k1 (by rw [m1]; omega), ⟨k2.e (c := 2) (by decide) _, fg.wd ht i2, i3.kp (fg.kp ht), fg.un ht i4, ?_, ?_, ⟨?_, ?_, ?_, ?_, ?_⟩, ⟨?_, kd, ?_, k7⟩, ?_⟩, fun i hi => ?_, fg.fk, k8⟩
    · rw [gi 5 (by decide), x1.2.2.2 5 (by decide)]; exact i5
    · obtain ⟨a1, a2, a3, a4, a5⟩ := i6
      unfold Hk
      rw [m3 h (by omega) (by omega)]
      exact ⟨(hh0 0 (by decide)).trans a1, (hh0 1 (by decide)).trans a2, fun z => by omega, fun z => by omega, fun z => (hh0 2 (by decide)).trans (a5 z)⟩
    · intro r' T' R' hh hr'
      injection hh with h1 h2
      injection h1 with h1 h3
      omega
    · intro f hf
      rw [er 1 (by decide)] at hf
      rw [gi 7 (by decide), x1.2.2.2 7 (by decide)]; exact i7.2.1 f hf
    · intro f hf
      rw [er 2 (by decide)] at hf
      rw [gi 8 (by decide), x1.2.2.2 8 (by decide)]; exact i7.2.2.1 f hf
    · intro z; omega
    · intro _
      refine ⟨by rw [gi 11 (by decide), eb]; exact x1.2.1, fun _ => ⟨by rw [gi 10 (by decide)]; exact x1.1, by rw [gi 12 (by decide)]; exact x1.2.2.1⟩⟩
    · refine i8.fr (fun i z => ?_)
      have zb := cdn_b z
      rw [m3 i (by omega) (by omega), mo i (fun y => brn_c h R (y ▸ z))]
    · exact k6.fr (fun i a b => pat_o _ _ (by omega))
    · intro _
      unfold LK
      rw [if_pos rfl]
      refine ⟨⟨(nn 0 (by decide)).trans c00, pat_s _ _ _ _, (nn 3 (by decide)).trans c03, (nn 4 (by decide)).trans c04, (nn 1 (by decide)).trans cp⟩, ?_⟩
      exact (LK.nb (i9 o31)).fr (fun i a b c => m3 i (by omega) (by omega))
    · rw [ey] at hi
      rw [m3 i (by omega) (by omega), mo i (by omega)]
/-- the set to come -/
def nsM (M : Nat → Nat → Int32) (h : Nat) (R : List (Nat × Tr)) (v : Int32) : Nat → Nat → Int32 := match (sns h R).head? with
  | some s => pat M s 4 v
  | none => pat M (brn h R) 3 v
theorem nsM_o {v : Int32} {i : Nat} (h1 : i ≠ brn h R) (h2 : i ∉ sns h R) : nsM M h R v i = M i := by
  unfold nsM
  cases hs : (sns h R).head? with
  | none => exact pat_o _ _ h1
  | some s =>
    exact pat_o _ _ (fun z => h2 (by
      rw [z]
      cases hl : sns h R with
      | nil => rw [hl] at hs; cases hs
      | cons a b =>
        rw [hl] at hs
        injection hs with hs
        rw [hs]
        exact List.mem_cons_self ..))
theorem LK.ns {nb ns v : Int32} (q : LK l w E X M h R nb ns) (z : ∃ T R1, R = (6, T) :: R1 ∨ R = (7, T) :: R1) : LK l w E X (nsM M h R v) h R nb v := by
  obtain ⟨T, R1, rfl | rfl⟩ := z
  · have e : nsM M h ((6, T) :: R1) v = pat M (lyn h R1) 3 v := rfl
    rw [e]
    unfold LK at q ⊢
    rw [if_pos rfl] at q ⊢
    exact ⟨⟨by rw [pat_c _ _ (by decide)]; exact q.1.1, by rw [pat_c _ _ (by decide)]; exact q.1.2.1, pat_s _ _ _ _, by rw [pat_c _ _ (by decide)]; exact q.1.2.2.2.1, by rw [pat_c _ _ (by decide)]; exact q.1.2.2.2.2⟩, q.2.fr (fun i a b c => pat_o _ _ (by omega))⟩
  · have e : nsM M h ((7, T) :: R1) v = pat M (lyn h R1) 4 v := rfl
    rw [e]
    unfold LK at q ⊢
    rw [if_neg (by decide), if_pos rfl] at q ⊢
    exact ⟨⟨by rw [pat_c _ _ (by decide)]; exact q.1.1, by rw [pat_c _ _ (by decide)]; exact q.1.2.1, by rw [pat_c _ _ (by decide)]; exact q.1.2.2.1, pat_s _ _ _ _, by rw [pat_c _ _ (by decide)]; exact q.1.2.2.2.2⟩, q.2.fr (fun i a b c => pat_o _ _ (by omega))⟩
/-- a set -/
theorem ru_7 (ht : t = 4 ∨ t = 20) (hN : 20000 < N) (hP : Pw l w) (hI : RI σ t n M l w E X fs tge nc hs h op k R) (h4 : gI σ 46 4 = -1) (hE : EXm M E X fs h) (hop : op < 40) (hC : Ch w op k ((7, T) :: R)) (hs12 : (sns h R).length ≤ 12) (hmem : ∀ j, j < E.length → (E.getD j eN).2.1 = 3 → ((∃ s ∈ (sns h R).reverse, M s 2 = nI (X j)) ↔ (sts l w E R).contains j = true)) (hn : lyn h ((7, T) :: R) ≤ n) (c0 : Mkr w M 7 (lyn h R) (bw T)) (c1 : Co l w M T (lyn h R + mk 7)) (c2 : Re w M (lyn h R + mk 7 + tln T) (bw T) 7 (lyn h R + mk 7)) : RuO N σ t n M l w E X fs tge nc hs h op k R 7 T := by
  obtain ⟨i1, i2, i3, i4, i5, i6, i7, i8, i9⟩ := hI
  obtain ⟨o1, o2, -, -, -, -, o7, o8, -⟩ := Ch_op hC
  have hCR := hC.1
  obtain ⟨-, hW, hl, -⟩ := hC
  have o31 := o2 (by decide)
  have top := o8 rfl
  have eb : brs ((7, T) :: R) = brs R := rfl
  have br0 := o7 (Or.inr rfl)
  rw [eb] at br0
  obtain ⟨d11, d10⟩ := i7.2.2.2.2 o31
  obtain ⟨d10, d12⟩ := d10 br0
  have g := lyn_gt h R
  have gb := brn_b h R
  have m1 : mk 7 = 1 := rfl
  rw [m1] at c1 c2
  obtain ⟨c00, c01, c02, c03, c04⟩ := c0.2 rfl
  have ey : lyn h ((7, T) :: R) = lyn h R + 1 + tln T + 1 := rfl
  have chn : Chn n M (M (brn h R) 3) (sns h R).reverse := by
    have := LK.ch (n := n) (op := op) (k := k) (S := []) (i9 o31) rfl (by omega) hCR top
    rw [List.append_nil] at this
    exact this
  have hsr : ∀ j, j < E.length → 1 ≤ (E.getD j eN).2.1 ∧ (E.getD j eN).2.1 ≤ 3 := fun j hj => by
    rcases hE j hj with ⟨z, -⟩ | ⟨z, -⟩ | z <;> omega
  have B := st_ok (N := N) (i := lyn h R) (k := bw T - 3) (b := brn h R) (S := (sns h R).reverse) (s := (sns h R).head?) ht hN hP i1 i2 i3.1 (by omega) c00 c02 c03 d10 (by omega) chn (by rw [List.length_reverse]; exact hs12) (by
    rw [d12]
    cases (sns h R).head? <;> rfl) (fun s' hs' => by
    cases hl : sns h R with
    | nil => rw [hl] at hs'; cases hs'
    | cons a b =>
      rw [hl] at hs'
      injection hs' with hs'
      have := (sns_b (h := h) (R := R) (s := s') (by rw [hl, hs']; exact List.mem_cons_self ..)).2.1
      omega) hsr
  unfold RuO
  have ah : ahd l w E R 7 T = match fnd l w E (bw T - 3) with
    | none => some (2, kP w (bw T - 3))
    | some j => if (E.getD j eN).2.1 ≠ 3 then some (2, kP w (bw T - 3)) else if (sts l w E R).contains j then some (4, kP w (bw T - 3)) else none := rfl
  rw [ah]
  cases hf : fnd l w E (bw T - 3) with
  | none =>
    rw [hf] at B
    obtain ⟨σ', z1, z2, z3⟩ := B
    exact ⟨σ', z1.mo (by omega), z2, z3.fk⟩
  | some j =>
    rw [hf] at B
    dsimp only at B ⊢
    have lt : j < E.length := (List.findIdx?_eq_some_iff_getElem.mp (show E.findIdx? (fun e => swd l w e.1 (bw T - 3)) = some j from hf)).1
    by_cases s3 : (E.getD j eN).2.1 ≠ 3
    · rw [if_pos s3] at B ⊢
      obtain ⟨σ', z1, z2, z3⟩ := B
      exact ⟨σ', z1.mo (by omega), z2, z3.fk⟩
    rw [if_neg s3] at B ⊢
    have s3 : (E.getD j eN).2.1 = 3 := Decidable.byContradiction s3
    by_cases cm : (sts l w E R).contains j = true
    · rw [if_pos ((hmem j lt s3).mpr cm)] at B
      rw [if_pos cm]
      obtain ⟨σ', z1, z2, z3⟩ := B
      exact ⟨σ', z1.mo (by omega), z2, z3.fk⟩
    rw [if_neg (fun z => cm ((hmem j lt s3).mp z))] at B
    rw [if_neg cm]
    dsimp only
    have gd : (fnd l w E (bw T - 3)).getD 0 = j := by rw [hf]; rfl
    generalize hσ1 : sef σ t (lyn h R) (X j) (brn h R) (sns h R).head? = σ1 at B
    have g1 : FG t σ σ1 := by
      subst hσ1
      unfold sef
      cases (sns h R).head? with
      | none => exact ((FN.c σ (c := 3) (by decide) _ _).tr (FN.c _ (c := 2) (by decide) _ _)).fg.tr (F6.i _ _ (by omega)).fg
      | some s => exact ((FN.c σ (c := 4) (by decide) _ _).tr (FN.c _ (c := 2) (by decide) _ _)).fg.tr (F6.i _ _ (by omega)).fg
    have q1 : CS σ1 t n (pat (nsM M h R (nI (lyn h R))) (lyn h R) 2 (nI (X j))) := by
      subst hσ1
      unfold sef nsM
      cases (sns h R).head? with
      | none => exact ((i1.e (c := 3) (by decide) _).e (c := 2) (by decide) _).i (by omega) _
      | some s => exact ((i1.e (c := 4) (by decide) _).e (c := 2) (by decide) _).i (by omega) _
    have x1 : gI σ1 46 12 = nI (lyn h R) ∧ (∀ x, x < 12 → gI σ1 46 x = gI σ 46 x) := by
      subst hσ1
      unfold sef
      refine ⟨by rw [gI_i, if_pos ⟨rfl, rfl⟩], fun x hx => ?_⟩
      rw [gI_i, if_neg (by omega)]
      cases (sns h R).head? <;> rfl
    clear hσ1
    have ns_n : ∀ i, i = lyn h R ∨ lyn h R < i ∨ i < h ∨ cdn h R i → nsM M h R (nI (lyn h R)) i = M i := fun i hi => nsM_o (fun z => by
      rcases hi with y | y | y | y
      · omega
      · omega
      · omega
      · exact brn_c h R (z ▸ y)) (fun z => by
      have zb := sns_b z
      rcases hi with y | y | y | y
      · omega
      · omega
      · omega
      · exact zb.2.2 y)
    have hh0 : ∀ c, c < 3 → nsM M h R (nI (lyn h R)) h c = M h c := fun c hc => by
      unfold nsM
      cases hs : (sns h R).head? with
      | none =>
        dsimp only
        by_cases z : h = brn h R
        · rw [← z, pat_c _ _ (by omega)]
        · rw [pat_o _ _ z]
      | some s =>
        dsimp only
        by_cases z : h = s
        · rw [← z, pat_c _ _ (by omega)]
        · rw [pat_o _ _ z]
    have mo : ∀ i, i ≠ lyn h R → pat (nsM M h R (nI (lyn h R))) (lyn h R) 2 (nI (X j)) i = nsM M h R (nI (lyn h R)) i := fun i hi => pat_o _ _ hi
    have c1' : Co l w (pat (nsM M h R (nI (lyn h R))) (lyn h R) 2 (nI (X j))) T (lyn h R + 1) := c1.fr (fun i a _ => by rw [mo i (by omega), ns_n i (by omega)])
    have c2' : Re w (pat (nsM M h R (nI (lyn h R))) (lyn h R) 2 (nI (X j))) (lyn h R + 1 + tln T) (bw T) 7 (lyn h R + 1) := c2.fr (by rw [mo _ (by omega), ns_n _ (by omega)])
    have K := ru_mid (N := N) (p := lyn h R) (k := k) (r := 7) ht hN hP q1 (g1.wd ht i2) (i3.kp (g1.kp ht)) (hE.fr (fun i hi => by rw [mo i (by omega), ns_n i (by omega)])) (by rw [x1.2 5 (by decide)]; exact i5) (by rw [x1.2 4 (by decide)]; exact h4) hop (by rw [mo h (by omega), hh0 0 (by decide)]; exact i6.1) (by decide) hW hl (show h < lyn h R + 1 by omega) (by omega) c1' c2' (fun z => by omega) (fun z => by omega) (fun _ => ⟨x1.1, by rw [gd]; exact pat_s _ _ _ _, by rw [gd]; exact lt, by rw [gd]; exact s3⟩) (by omega)
    cases hk : rck l w E op k 7 T with
    | some e =>
      rw [hk] at K
      dsimp only at K ⊢
      obtain ⟨σ', z1, z2, z3⟩ := K
      exact ⟨σ', B.fl z1 (by rw [m1]; omega), z2, g1.fk.tr z3⟩
    | none =>
      rw [hk] at K
      dsimp only at K ⊢
      obtain ⟨σ2, M2, kd, k1, k2, k3, k4, k5, k6, k7, k8⟩ := K
      have ee : eff σ2 t 7 (lyn h R + 1 + tln T) h (lyn h R) (lyn h R) = st_e σ2 (t + 2 + 3) (lyn h R) (nI (lyn h R + 1 + tln T)) := rfl
      rw [ee] at k1
      have fn := k3.tr (FN.c σ2 (c := 3) (by decide) (lyn h R) (nI (lyn h R + 1 + tln T)))
      have fg := g1.tr fn.fg
      have gi : ∀ x, x ≠ 4 → gI (st_e σ2 (t + 2 + 3) (lyn h R) (nI (lyn h R + 1 + tln T))) 46 x = gI σ1 46 x := fun x hx => fn.g6 hx
      have m3 : ∀ i, i ≠ lyn h R → (i < lyn h R + 1 ∨ lyn h R + 1 + tln T ≤ i) → pat M2 (lyn h R) 3 (nI (lyn h R + 1 + tln T)) i = nsM M h R (nI (lyn h R)) i := fun i a b => by rw [pat_o _ _ a, k5 i b, mo i a]
      have er : ∀ ρ, ρ ≠ 7 → ren h ((7, T) :: R) ρ = ren h R ρ := fun ρ z => if_neg (fun y => z y.symm)
      have nn : ∀ c, c ≠ 3 → c ≠ 2 → pat M2 (lyn h R) 3 (nI (lyn h R + 1 + tln T)) (lyn h R) c = M (lyn h R) c := fun c hc hc2 => by rw [pat_c _ _ hc, k5 _ (Or.inl (by omega)), pat_c _ _ hc2, ns_n _ (by omega)]
      refine ⟨_, pat M2 (lyn h R) 3 (nI (lyn h R + 1 + tln T)), B.tr k1 (by rw [m1]; omega), ⟨k2.e (c := 3) (by decide) _, fg.wd ht i2, i3.kp (fg.kp ht), fg.un ht i4, ?_, ?_, ⟨?_, ?_, ?_, ?_, ?_⟩, ⟨?_, kd, ?_, k7⟩, ?_⟩, fun i hi => ?_, fg.fk, k8⟩
      · rw [gi 5 (by decide), x1.2 5 (by decide)]; exact i5
      · obtain ⟨a1, a2, a3, a4, a5⟩ := i6
        unfold Hk
        rw [m3 h (by omega) (by omega)]
        exact ⟨(hh0 0 (by decide)).trans a1, (hh0 1 (by decide)).trans a2, fun z => by omega, fun z => by omega, fun z => (hh0 2 (by decide)).trans (a5 z)⟩
      · intro r' T' R' hh hr'
        injection hh with h1 h2
        injection h1 with h1 h3
        omega
      · intro f hf
        rw [er 1 (by decide)] at hf
        rw [gi 7 (by decide), x1.2 7 (by decide)]; exact i7.2.1 f hf
      · intro f hf
        rw [er 2 (by decide)] at hf
        rw [gi 8 (by decide), x1.2 8 (by decide)]; exact i7.2.2.1 f hf
      · intro z; omega
      · intro _
        refine ⟨by rw [gi 11 (by decide), eb, x1.2 11 (by decide)]; exact d11, fun _ => ⟨by rw [gi 10 (by decide), x1.2 10 (by decide)]; exact d10, by rw [gi 12 (by decide)]; exact x1.1⟩⟩
      · refine i8.fr (fun i z => ?_)
        have zb := cdn_b z
        rw [m3 i (by omega) (by omega), ns_n i (Or.inr (Or.inr (Or.inr z)))]
      · exact k6.fr (fun i a b => pat_o _ _ (by omega))
      · intro _
        unfold LK
        rw [if_neg (by decide), if_pos rfl]
        refine ⟨⟨(nn 0 (by decide) (by decide)).trans c00, ?_, pat_s _ _ _ _, (nn 4 (by decide) (by decide)).trans c04, (nn 1 (by decide) (by decide)).trans c01⟩, ?_⟩
        · rw [pat_c _ _ (by decide), k5 _ (Or.inl (by omega)), gd]; exact pat_s _ _ _ _
        · exact (LK.ns (i9 o31) top).fr (fun i a b c => m3 i (by omega) (by omega))
      · rw [ey] at hi
        rw [m3 i (by omega) (by omega), ns_n i (by omega)]
end RU3
