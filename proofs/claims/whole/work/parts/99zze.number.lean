/-! the class's checker: a number without a begin -/
section VN
variable {N : Nat} {σ : st_S} {t n : Nat} {M : Nat → Nat → Int32} {l : List Int32} {w : List (Nat × Nat × Nat)} {X fs : Nat → Nat} {tge : Int32} {hs : Nat → Nat} {h k : Nat} {E : List En} {tg : Option Tr} {C : List It} {Th Tl : Tr}
theorem fi_29n (ht : t = 4 ∨ t = 20) (hN : 200000 < N) (hnv : Nvk l w) (hI : RI σ t n M l w E X fs tge C.length hs h 29 k [(2, Th), (1, Tl)]) (hT : TS l w E tg C X fs M tge hs h) (hC : Ch w 29 k [(2, Th), (1, Tl)]) (hk5 : kK w (k + 3) ≠ 5) (h12 : cnt E 3 < 12) (hn : lyn h [(2, Th), (1, Tl)] < n) (e34 : M (lyn h [(2, Th), (1, Tl)]) 0 = nI 34) : FiO N σ t n M l w (lyn h [(2, Th), (1, Tl)]) (fin l w (E, tg, C) 29 k [(2, Th), (1, Tl)]) := by
  obtain ⟨i1, i2, i3, i4, i5, i6, i7, ⟨⟨-, kl, rl, rl'⟩, kh, rh, rh'⟩, -⟩ := hI
  have ey : lyn h [(2, Th), (1, Tl)] = h + 1 + 0 + tln Tl + 1 + 0 + tln Th + 1 := rfl
  have pl := tln_pos Tl
  have ph := tln_pos Th
  have hh : h < n := by omega
  have wl : wkd l w E k 1 Tl = 1 := rfl
  have wh : wkd l w E k 2 Th = 1 := rfl
  rw [wl] at rl'
  rw [wh] at rh'
  have kl1 : kl = 1 := by omega
  have kh1 : kh = 1 := by omega
  subst kl1 kh1
  have co : cOn 29 = true := rfl
  have pl1 : lyn h [] + mk 1 = h + 1 := rfl
  have ph1 : lyn h [(1, Tl)] + mk 2 = h + 1 + tln Tl + 1 := rfl
  rw [co, pl1] at rl
  rw [co, ph1] at rh
  have h7 : gI σ 46 7 = nI (h + 1 + tln Tl) := i7.2.1 _ rfl
  have h8 : gI σ 46 8 = nI (h + 1 + tln Tl + 1 + tln Th) := i7.2.2.1 _ rfl
  have h9 : gI σ 46 9 = -1 := i7.2.2.2.1 rfl
  have a2 : aB (nI h) (gN σ (t + 2)) := i1.a (c := 0) (by decide) hh
  have a6 : aB (nI h) (gN σ (t + 6)) := i1.a (c := 4) (by decide) hh
  have g2 : gE σ (t + 2) (nI h).toNatClampNeg = nI 29 := (i1.g (c := 0) (by decide) hh).trans i6.1
  have g6 : gE σ (t + 6) (nI h).toNatClampNeg = nI 1 := (i1.g (c := 4) (by decide) hh).trans (by rw [i6.2.2.2.1 rfl, if_neg hk5])
  have f67 : F_67 N t σ = F_82 N t σ := by
    unfold F_67
    rw [i5, if_pos a2]
    simp only [g2]
    rw [if_neg (show ¬ nI 29 = 27 by decide), if_neg (show ¬ nI 29 = 28 by decide), if_pos (show nI 29 = 29 from rfl), if_pos a6, g6, if_neg (show ¬ nI 1 = 2 by decide)]
    cases F_82 N t σ <;> rfl
  have l53 := fun k' => L53f (N := N) (k := k') i1 hn e34
  have mf := hT.2.2.2.1.mf hT.1 i3 i1 (show h ≤ n by omega)
  have K := F82a (N := N) ht hN hT.2.1 hnv hT.2.2.1 mf i4 hC.1.2.1 hC.1.2.2.1 rl hC.2.1 hC.2.2.1 rh (by omega) (by omega) h7 h8
  have hfin : fin l w (E, tg, C) 29 k [(2, Th), (1, Tl)] = sbd (rng l w E k [(2, Th), (1, Tl)]) fun b => .inr (E ++ [(k + 1, 3, decide (kK w (k + 3) = 5), .leaf 0, (0, 0), b, cnt E 3, cnt E 3)], tg, C) := rfl
  have hrng : rng l w E k [(2, Th), (1, Tl)] = sbd (eI l w E Tl) fun lo => sbd (eI l w E Th) fun hi => if hi < lo ∨ ¬ hi - lo < 10000 then .inl (9, kP w (bw Th)) else .inr (lo, hi, lo) := if_neg hk5
  rw [hfin, hrng, sbd2]
  cases he : (sbd (eI l w E Tl) fun lo => sbd (eI l w E Th) fun hi => (.inr (lo, hi) : Rs (Int32 × Int32))) with
  | inl er =>
    rw [he] at K
    dsimp only at K
    obtain ⟨k1, k2, σ1, k3, k4, k5⟩ := K
    rw [sbd_l, sbd_l]
    refine ⟨σ1, fun k' => ?_, k4, k5⟩
    rw [l53, f67, k3, ob_some]
    dsimp only
    rw [if_neg (show ¬ nI er.1 = 0 from nik (m := 0) (by omega) (by decide) k1)]
  | inr v =>
    rw [he] at K
    dsimp only at K
    obtain ⟨σ1, M1, k1, k2, k3, k4, k5, k6, k7, k8⟩ := K
    rw [sbd_r]
    have J := J82f (N := N) k2.1 (el := h + 1 + tln Tl) (eh := h + 1 + tln Tl + 1 + tln Th) (ph := kP w (bw Th)) (by omega) (by omega) (by rw [k3.g46]; exact h7) (by rw [k3.g46]; exact h8) (((k6 _).1 2 (by decide)).trans rl.2.2.2.2.2.1) (((k6 _).1 2 (by decide)).trans rh.2.2.2.2.2.1) (((k6 _).1 1 (by decide)).trans rh.2.2.2.2.1) k7 k8
    by_cases c : v.2 < v.1 ∨ ¬ v.2 - v.1 < 10000
    · rw [if_pos c, sbd_l]
      refine ⟨_, fun k' => ?_, ?_, k3.fk.tr (FK.i σ1 (nI (kP w (bw Th))) (a := 46) (k := 4) (by simp))⟩
      · rw [l53, f67, k1, J.1 c, ob_some]
        rfl
      · rw [gI_i, if_pos ⟨rfl, rfl⟩]
    · rw [if_neg c, sbd_r]
      obtain ⟨σ2, v1, v2, v3, v4⟩ := var_ok (N := N) (b := lyn h [(2, Th), (1, Tl)] + 1) ht k2.1 (k3.wd ht i2) (i3.kp (k3.kp ht)) k4 (hT.fr (fun i hi => k5 i (by omega))) (by rw [k3.g46]; exact i5) hh (by unfold Hk; rw [k5 h (by omega)]; exact i6) h12 (by omega) v.1 v.2 v.1
      refine ⟨σ2, M1, _, _, tge, hs, fun k' => ?_, v2, fun i hi => k5 i (by omega), k3.fk.tr v3, v4.trans (k3.g46 4)⟩
      rw [l53, f67, k1, J.2 c (by rw [k3.g46, h9]; decide), v1, ob_some, ob_some]
      rfl
end VN
