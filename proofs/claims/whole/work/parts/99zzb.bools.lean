/-! the class's checker: a var that is a truth -/
section VB
variable {N : Nat} {σ σ' : st_S} {t n : Nat} {M : Nat → Nat → Int32} {l : List Int32} {w : List (Nat × Nat × Nat)} {X fs : Nat → Nat} {tge : Int32} {hs : Nat → Nat} {h k : Nat} {R : List (Nat × Tr)} {E : List En} {tg : Option Tr} {C : List It}
theorem FM.kp (ht : t = 4 ∨ t = 20) (q : FM t σ σ') : Kp t σ σ' := ⟨q.2.1, fun a k z => q.1.1 a k (by
  simp only [List.mem_cons, List.not_mem_nil, or_false, Prod.mk.injEq]
  omega), fun a z => (q.1.2.2.2.1 a (by
  simp only [List.mem_cons, List.not_mem_nil, or_false]
  omega)).2⟩
theorem FM.wd (ht : t = 4 ∨ t = 20) (q : FM t σ σ') (hw : Wd σ l) : Wd σ' l := by
  obtain ⟨w1, w2, w3, w4, w5⟩ := hw
  refine ⟨?_, by rw [q.2.1]; exact w2, by rw [q.2.1]; exact w3, w4, ?_⟩
  · rw [q.1.1 2 1 (by simp)]; exact w1
  · rw [(q.1.2.2.2.1 3 (by simp only [List.mem_cons, List.not_mem_nil, or_false]; omega)).2]; exact w5
theorem FM.g46 (q : FM t σ σ') (x : Nat) : gI σ' 46 x = gI σ 46 x := q.1.1 46 x (by simp)
/-- the one rule of a truth -/
theorem one_b (hC : Ch w 29 k R) (hk5 : kK w (k + 3) = 5) : R = [] ∨ ∃ T, R = [(3, T)] := by
  induction R with
  | nil => exact Or.inl rfl
  | cons x R ih =>
    obtain ⟨r, T⟩ := x
    have hB := hC.2.2.2
    have o := Ch_op hC
    have i := ih hC.1
    unfold Bg at hB
    refine Or.inr ⟨T, ?_⟩
    rcases hB with z | z | z | z | z | ⟨T1, R1, z, y, _⟩ | ⟨T1, R1, z, y, _⟩ | ⟨_, _, z, y, _⟩ | ⟨_, _, z, y, _⟩ | ⟨_, _, z, y, _⟩ | ⟨y, _⟩
    · have := z.2.1; omega
    · exact absurd hk5 z.2.2.2.2.2.2
    · rw [z.1, z.2.2.1]
    · have := z.2.1; omega
    · have := z.2.1; omega
    · exfalso
      rcases i with i | ⟨T2, i⟩
      · rw [i] at z; cases z
      · rw [i] at z; injection z with z1 z2; injection z1 with z1; omega
    · exfalso
      rcases i with i | ⟨T2, i⟩
      · rw [i] at z; cases z
      · rw [i] at z; injection z with z1 z2; injection z1 with z1; omega
    · have := o.2.1 (by omega); omega
    · have := o.2.1 (by omega); omega
    · have := o.2.1 (by omega); omega
    · have := o.2.1 (by omega); omega
theorem fi_29b (ht : t = 4 ∨ t = 20) (hN : 200000 < N) (hnv : Nvk l w) (hI : RI σ t n M l w E X fs tge C.length hs h 29 k R) (hT : TS l w E tg C X fs M tge hs h) (hC : Ch w 29 k R) (hk5 : kK w (k + 3) = 5) (h12 : cnt E 3 < 12) (hn : lyn h R < n) (e34 : M (lyn h R) 0 = nI 34) : FiO N σ t n M l w (lyn h R) (fin l w (E, tg, C) 29 k R) := by
  obtain ⟨i1, i2, i3, i4, i5, i6, i7, i8, -⟩ := hI
  have g := lyn_gt h R
  have hh : h < n := by omega
  have a2 : aB (nI h) (gN σ (t + 2)) := i1.a (c := 0) (by decide) hh
  have a6 : aB (nI h) (gN σ (t + 6)) := i1.a (c := 4) (by decide) hh
  have g2 : gE σ (t + 2) (nI h).toNatClampNeg = nI 29 := (i1.g (c := 0) (by decide) hh).trans i6.1
  have g6 : gE σ (t + 6) (nI h).toNatClampNeg = nI 2 := (i1.g (c := 4) (by decide) hh).trans (by rw [i6.2.2.2.1 rfl, if_pos hk5])
  have f67 : F_67 N t σ = F_80 N t σ := by
    unfold F_67
    rw [i5, if_pos a2]
    simp only [g2]
    rw [if_neg (show ¬ nI 29 = 27 by decide), if_neg (show ¬ nI 29 = 28 by decide), if_pos (show nI 29 = 29 from rfl), if_pos a6, g6, if_pos (show nI 2 = 2 from rfl)]
    cases F_80 N t σ <;> rfl
  have l53 := fun k' => L53f (N := N) (k := k') i1 hn e34
  have h9 := i7.2.2.2.1 rfl
  have hfin : fin l w (E, tg, C) 29 k R = sbd (rng l w E k R) fun b => .inr (E ++ [(k + 1, 3, decide (kK w (k + 3) = 5), .leaf 0, (0, 0), b, cnt E 3, cnt E 3)], tg, C) := rfl
  rw [hfin]
  unfold rng
  rw [if_pos hk5]
  rcases one_b hC hk5 with rfl | ⟨T, rfl⟩
  · have h9 : gI σ 46 9 = -1 := h9
    dsimp only
    rw [sbd_r]
    obtain ⟨σ1, v1, v2, v3, v4⟩ := var_ok (N := N) ht i1 i2 i3 i4 hT i5 hh i6 h12 (show h ≤ lyn h [] + 1 by omega) 0 1 0
    have f80 : F_80 N t σ = some (0, σ1) := by
      unfold F_80
      rw [h9, if_neg (by decide), v1]
      rfl
    refine ⟨σ1, M, _, _, tge, hs, fun k' => ?_, v2, fun _ _ => rfl, v3, v4⟩
    rw [l53, f67, f80, ob_some]
    rfl
  · have e1 : lyn h [] + mk 3 = h + 1 := rfl
    have h9 : gI σ 46 9 = nI (h + 1 + tln T) := h9
    obtain ⟨-, kd, i8, i8'⟩ := i8
    rw [e1] at i8
    have co : cOn 29 = true := rfl
    rw [co] at i8
    have ey : lyn h [(3, T)] = h + 1 + tln T + 1 := rfl
    have pT := tln_pos T
    have mf := hT.2.2.2.1.mf hT.1 i3 i1 (show h ≤ n by omega)
    have K := F69c (N := N) ht hN hT.2.1 hnv hT.2.2.1 mf i4 hC.2.1 hC.2.2.1 i8 (by omega)
    dsimp only
    have p0 : (0 : Int32) ≤ nI (h + 1 + tln T) := (nI_lei (a := 0) (by decide) (by have := i1.2.1; omega)).mpr (by omega)
    cases he : eT l w E T with
    | inl er =>
      rw [he] at K
      dsimp only at K
      obtain ⟨k1, k2, σ1, k3, k4, k5⟩ := K
      rw [sbd_l, sbd_l]
      refine ⟨σ1, fun k' => ?_, k4, k5⟩
      have f80 : F_80 N t σ = some (nI er.1, σ1) := by
        unfold F_80
        rw [h9, if_pos p0, k3, ob_some]
        dsimp only
        rw [if_neg (show ¬ nI er.1 = 0 from nik (m := 0) (by omega) (by decide) k1)]
      rw [l53, f67, f80, ob_some]
      dsimp only
      rw [if_neg (show ¬ nI er.1 = 0 from nik (m := 0) (by omega) (by decide) k1)]
    | inr v =>
      rw [he] at K
      dsimp only at K
      obtain ⟨k0, σ1, M1, k1, k2, k3, k4, k5, k6, k7⟩ := K
      rw [sbd_r, sbd_r]
      have fe := k5 (h + 1 + tln T) (Or.inr (Nat.le_refl _))
      have a4 : aB (nI (h + 1 + tln T)) (gN σ1 (t + 4)) := k2.1.a (c := 2) (by decide) (by omega)
      have g4 : gE σ1 (t + 4) (nI (h + 1 + tln T)).toNatClampNeg = nI (h + 1 + tln T - 1) := (k2.1.g (c := 2) (by decide) (by omega)).trans (by rw [fe]; exact i8.2.2.2.2.2.1)
      have a8 : aB (nI (h + 1 + tln T - 1)) (gN σ1 (t + 8)) := k2.1.a (c := 6) (by decide) (by omega)
      have g8 : gE σ1 (t + 8) (nI (h + 1 + tln T - 1)).toNatClampNeg = v.1.toInt32 := (k2.1.g (c := 6) (by decide) (by omega)).trans k7.1
      obtain ⟨σ2, v1, v2, v3, v4⟩ := var_ok (N := N) (b := lyn h [(3, T)] + 1) ht k2.1 (k3.wd ht i2) (i3.kp (k3.kp ht)) k4 (hT.fr (fun i hi => k5 i (by omega))) (by rw [k3.g46]; exact i5) hh (by unfold Hk; rw [k5 h (by omega)]; exact i6) h12 (by omega) 0 1 v.1.toInt32
      have f80 : F_80 N t σ = some (0, σ2) := by
        unfold F_80
        rw [h9, if_pos p0, k1, ob_some]
        dsimp only
        rw [if_pos rfl, k3.g46, h9, if_pos p0, if_pos a4, g4, if_pos a8, g8, v1]
        rfl
      refine ⟨σ2, M1, _, _, tge, hs, fun k' => ?_, v2, fun i hi => k5 i (by omega), k3.fk.tr v3, v4.trans (k3.g46 4)⟩
      rw [l53, f67, f80, ob_some]
      rfl
end VB
