/-! the class's checker: a const, a number with a begin -/
section CN
variable {N : Nat} {σ σ' : st_S} {t n : Nat} {M : Nat → Nat → Int32} {l : List Int32} {w : List (Nat × Nat × Nat)} {X fs : Nat → Nat} {tge : Int32} {hs : Nat → Nat} {h op k : Nat} {R : List (Nat × Tr)} {E : List En} {tg : Option Tr} {C : List It} {Tb Th Tl : Tr}
theorem fi_27 (ht : t = 4 ∨ t = 20) (hN : 200000 < N) (hnv : Nvk l w) (hI : RI σ t n M l w E X fs tge C.length hs h 27 k R) (hT : TS l w E tg C X fs M tge hs h) (hC : Ch w 27 k R) {m : Nat} (hF : Fi w 27 k R m) (h60 : cnt E 1 + cnt E 2 < 60) (hn : lyn h R < n) (e34 : M (lyn h R) 0 = nI 34) : FiO N σ t n M l w (lyn h R) (fin l w (E, tg, C) 27 k R) := by
  obtain ⟨T, rfl⟩ := one_r (r := 0) hC hF (Or.inl rfl) rfl
  obtain ⟨i1, i2, i3, i4, i5, i6, i7, ⟨-, kd, i8, i8'⟩, -⟩ := hI
  have g6 := i7.1 0 T [] rfl (Or.inl rfl)
  have e1 : lyn h [] + mk 0 = h + 1 := rfl
  rw [e1] at g6 i8
  have ey : lyn h [(0, T)] = h + 1 + tln T + 1 := rfl
  have hh : h < n := by rw [ey] at hn; omega
  have pT := tln_pos T
  have co : cOn 27 = true := rfl
  rw [co] at i8
  have hkd := (chk_3 T kd hC.2.1 i8.2.1).2 hC.2.2.1
  have kT : kdT l w E true T = decide (kd = 2) := by unfold kdT; rw [i8.2.1]
  obtain ⟨n2, n3⟩ := i6.2.2.1 (by decide)
  have a2 : aB (nI h) (gN σ (t + 2)) := i1.a (c := 0) (by decide) hh
  have g2 : gE σ (t + 2) (nI h).toNatClampNeg = nI 27 := (i1.g (c := 0) (by decide) hh).trans i6.1
  have f67 : F_67 N t σ = F_68 N t σ := by
    unfold F_67
    rw [i5, if_pos a2]
    simp only [g2]
    rw [if_pos (show nI 27 = 27 from rfl)]
    cases F_68 N t σ <;> rfl
  have l53 := fun k' => L53f (N := N) (k := k') i1 hn e34
  have mf := hT.2.2.2.1.mf hT.1 i3 i1 (show h ≤ n by omega)
  have K := F69c (N := N) ht hN hT.2.1 hnv hT.2.2.1 mf i4 hC.2.1 hC.2.2.1 i8 (by omega)
  have hfin : fin l w (E, tg, C) 27 k [(0, T)] = sbd (eT l w E T) fun v => .inr (E ++ [(k + 1, 1, kdT l w E true T, T, v, (0, 0, 0), 0, cnt E 1 + cnt E 2)], tg, C) := rfl
  rw [hfin]
  cases he : eT l w E T with
  | inl er =>
    rw [he] at K
    dsimp only at K
    obtain ⟨k1, k2, σ1, k3, k4, k5⟩ := K
    have nz : ¬ nI er.1 = 0 := nik (m := 0) (by omega) (by decide) k1
    rw [sbd_l]
    refine ⟨σ1, fun k' => ?_, k4, k5⟩
    have f68 : F_68 N t σ = some (nI er.1, σ1) := by
      unfold F_68
      rw [g6, k3, ob_some]
      dsimp only
      rw [if_neg nz]
    rw [l53, f67, f68, ob_some]
    dsimp only
    rw [if_neg nz]
  | inr v =>
    rw [he] at K
    dsimp only at K
    obtain ⟨k0, σ1, M1, k1, k2, k3, k4, k5, k6, k7⟩ := K
    rw [sbd_r, kT]
    have j1 := k2.1
    have S1 := i3.kp (k3.kp ht)
    have W1 := k3.wd ht i2
    have h5' : gI σ1 46 5 = nI h := by rw [k3.g46]; exact i5
    have h6' : gI σ1 46 6 = nI (h + 1 + tln T) := by rw [k3.g46]; exact g6
    have mh : M1 h = M h := k5 h (by omega)
    have me : M1 (h + 1 + tln T) = M (h + 1 + tln T) := k5 _ (by omega)
    have a4 : aB (nI h) (gN σ1 (t + 4)) := j1.a (c := 2) (by decide) hh
    have a5 : aB (nI h) (gN σ1 (t + 5)) := j1.a (c := 3) (by decide) hh
    have b4' : aB (nI (h + 1 + tln T)) (gN σ1 (t + 4)) := j1.a (c := 2) (by decide) (by omega)
    have g4 : gE σ1 (t + 4) (nI h).toNatClampNeg = nI (kP w (k + 1)) := (j1.g (c := 2) (by decide) hh).trans (by rw [mh]; exact n2)
    have g5 : gE σ1 (t + 5) (nI h).toNatClampNeg = nI (kE w (k + 1) - kP w (k + 1)) := (j1.g (c := 3) (by decide) hh).trans (by rw [mh]; exact n3)
    have ge4 : gE σ1 (t + 4) (nI (h + 1 + tln T)).toNatClampNeg = nI (h + 1 + tln T - 1) := (j1.g (c := 2) (by decide) (by omega)).trans (by rw [me]; exact i8.2.2.2.2.2.1)
    have hT1 : TS l w E tg C X fs M1 tge hs h := hT.fr (fun i hi => k5 i (by omega))
    have sum := exm_sum hT.1
    have S1' := S1
    obtain ⟨sA, sL, ⟨b1, b2, b3, b4, b5⟩, ⟨c1, c2, c3⟩, -⟩ := S1
    have lt72 : E.length < 72 := by omega
    obtain ⟨σ2, hσ2⟩ : ∃ s, s = st_i (nam σ1 w E.length (k + 1) 1 (h + 1 + tln T - 1)) t 8 (nI (cnt E 1 + cnt E 2 + 1)) := ⟨_, rfl⟩
    have f68 : F_68 N t σ = some (0, σ2) := by
      have f := F79' (N := N) sA lt72 (k + 1) 1 (h + 1 + tln T - 1)
      have r27 : (27 : Int32) = nI (srt 1) := rfl
      unfold F_68
      rw [g6, k1, ob_some]
      dsimp only
      rw [if_pos rfl, h5', h6', if_pos a4, if_pos a5, if_pos b4', g4, g5, ge4, r27, f, ob_some, nam_i (by omega), b2, nI_1, hσ2]
    have gi : ∀ a x, ¬ (a = 47 ∧ x = 5) → ¬ (a = t ∧ x = 8) → gI σ2 a x = gI σ1 a x := fun a x z z2 => by
      rw [hσ2, gI_i, if_neg (by omega)]
      exact nam_i z
    have g8 : gI σ2 t 8 = nI (cnt E 1 + cnt E 2 + 1) := by rw [hσ2, gI_i, if_pos ⟨rfl, rfl⟩]
    have ge : ∀ a i, (a < 48 ∨ 51 < a) → gE σ2 a i = gE σ1 a i := fun a i z => by
      rw [hσ2]
      exact nam_o z
    have gn : gN σ2 = gN σ1 := by rw [hσ2]; rfl
    have fk : FK t σ1 σ2 := by
      rw [hσ2]
      exact nam_fk.tr (FK.i _ _ (by simp))
    obtain ⟨e, he'⟩ : ∃ e : En, e = (k + 1, 1, decide (kd = 2), T, v, (0, 0, 0), 0, cnt E 1 + cnt E 2) := ⟨_, rfl⟩
    rw [← he']
    have es : e.2.1 = 1 := by rw [he']
    have ew1 : e.1 = k + 1 := by rw [he']
    have ev : e.2.2.2.2.1 = v := by rw [he']
    have et : e.2.2.1 = decide (kd = 2) := by rw [he']
    have ek : kdn e = kd := by
      unfold kdn
      rw [et]
      rcases hkd with z | z <;> rw [z] <;> rfl
    have sA1 : NA σ2 w (E ++ [e]) (upf X E.length (h + 1 + tln T - 1)) := by
      have z := nam_na (e := e) sA lt72 (h + 1 + tln T - 1)
      rw [es, ew1] at z
      obtain ⟨z1, z2, z3, z4, z5, z6, z7⟩ := z
      have hh : ∀ a i, gE σ2 a i = gE (nam σ1 w E.length (k + 1) 1 (h + 1 + tln T - 1)) a i := fun a i => by rw [hσ2]; rfl
      refine ⟨?_, z2, by rw [gn]; exact z3, by rw [gn]; exact z4, by rw [gn]; exact z5, by rw [gn]; exact z6, fun j hj => ?_⟩
      · rw [hσ2, gI_i, if_neg (by omega)]; exact z1
      · rw [hh 48 j, hh 49 j, hh 50 j, hh 51 j]
        exact z7 j hj
    obtain ⟨t1, t2, t3, t4, t5, t6, t7⟩ := hT1
    have hXo : ∀ j, j < E.length → upf X E.length (h + 1 + tln T - 1) j = X j := fun j hj => upf_o (by omega)
    have hfo : ∀ j, j < E.length → upf fs E.length 0 j = fs j := fun j hj => upf_o (by omega)
    refine ⟨σ2, M1, upf X E.length (h + 1 + tln T - 1), upf fs E.length 0, tge, hs, fun k' => ?_, ⟨?_, ?_, ?_, ?_, ?_, ?_, ?_, ?_, ?_, ?_, ?_⟩, fun i hi => k5 i (by omega), k3.fk.tr fk, (gi 46 4 (by omega) (by omega)).trans (k3.g46 4)⟩
    · rw [l53, f67, f68, ob_some]
      rfl
    · obtain ⟨q1, q2, q3, q4⟩ := j1
      refine ⟨(gi (t + 1) 8 (by omega) (by omega)).trans q1, q2, by rw [gn]; exact q3, fun c hc i hi => ?_⟩
      rw [ge _ _ (by omega)]
      exact q4 c hc i hi
    · obtain ⟨w1, w2, w3, w4, w5⟩ := W1
      exact ⟨(gi 2 1 (by omega) (by omega)).trans w1, by rw [gn]; exact w2, by rw [gn]; exact w3, w4, fun j hj => by rw [ge 3 j (by omega)]; exact w5 j hj⟩
    · refine SP_app (f := 0) S1' t5 gn sA1 ?_ ?_ ?_ (gi t 10 (by omega) (by omega)) (gi t 11 (by omega) (by omega)) ?_ ?_ (fun y _ => ⟨ge _ _ (by omega), ge _ _ (by omega), ge _ _ (by omega), ge _ _ (by omega)⟩) (fun z => by omega) (fun y hy => ge _ _ (by omega)) (fun z => by omega) (funext fun i => ge _ _ (by omega))
      · rw [cnt_app, if_neg (by omega), gi t 7 (by omega) (by omega)]; exact b1
      · rw [cnt_app, cnt_app, if_pos es, if_neg (by omega), g8, show cnt E 1 + 1 + (cnt E 2 + 0) = cnt E 1 + cnt E 2 + 1 by omega]
      · rw [cnt_app, if_neg (by omega), gi t 9 (by omega) (by omega)]; exact b3
      · rw [cnt_app, if_neg (by omega)]; exact c1
      · rw [cnt_app, cnt_app, if_pos es, if_neg (by omega)]; omega
    · intro x hx
      rw [gi 42 5 (by omega) (by omega), ge 44 x (by omega)]
      exact k4 x hx
    · refine EXm_app (t1.mo (by rw [ey]; omega)) (Or.inl ⟨es, by rw [ey]; omega, ?_, ?_, ?_⟩)
      · rw [ek]; exact k7.2.2.trans (kvv_k k0)
      · rw [ev]; exact k7.1
      · rw [ev]; exact k7.2.1
    · exact SF_app t2 t1 (fun z => by omega) (fun z => by omega)
    · refine Cok_app t3 (fun _ => ?_)
      rw [et, ev]
      rcases hkd with z | z <;> rw [z] at k0 ⊢ <;> exact k0
    · exact t4.app (fun z => by omega)
    · exact t5.app (fun z => by omega) (fun z => by omega)
    · exact (t6.app hXo hfo (fun z => by omega)).fr (by rw [ey]; omega) (fun _ _ => rfl)
    · exact (t7.app hXo hfo (fun z => by omega)).fr (by rw [ey]; omega) (fun _ _ => rfl)
theorem fi_29w (ht : t = 4 ∨ t = 20) (hN : 200000 < N) (hnv : Nvk l w) (hI : RI σ t n M l w E X fs tge C.length hs h 29 k [(3, Tb), (2, Th), (1, Tl)]) (hT : TS l w E tg C X fs M tge hs h) (hC : Ch w 29 k [(3, Tb), (2, Th), (1, Tl)]) (hk5 : kK w (k + 3) ≠ 5) (h12 : cnt E 3 < 12) (hn : lyn h [(3, Tb), (2, Th), (1, Tl)] < n) (e34 : M (lyn h [(3, Tb), (2, Th), (1, Tl)]) 0 = nI 34) : FiO N σ t n M l w (lyn h [(3, Tb), (2, Th), (1, Tl)]) (fin l w (E, tg, C) 29 k [(3, Tb), (2, Th), (1, Tl)]) := by
  obtain ⟨i1, i2, i3, i4, i5, i6, i7, ⟨⟨⟨-, kl, rl, rl'⟩, kh, rh, rh'⟩, kb, rb, rb'⟩, -⟩ := hI
  have ey : lyn h [(3, Tb), (2, Th), (1, Tl)] = h + 1 + 0 + tln Tl + 1 + 0 + tln Th + 1 + 0 + tln Tb + 1 := rfl
  have pl := tln_pos Tl
  have ph := tln_pos Th
  have pb := tln_pos Tb
  have hh : h < n := by omega
  have wl : wkd l w E k 1 Tl = 1 := rfl
  have wh : wkd l w E k 2 Th = 1 := rfl
  have wb : wkd l w E k 3 Tb = 1 := by
    have : wkd l w E k 3 Tb = if kK w (k + 3) = 5 then 2 else 1 := rfl
    rw [this, if_neg hk5]
  rw [wl] at rl'
  rw [wh] at rh'
  rw [wb] at rb'
  have kl1 : kl = 1 := by omega
  have kh1 : kh = 1 := by omega
  have kb1 : kb = 1 := by omega
  subst kl1 kh1 kb1
  have co : cOn 29 = true := rfl
  have pl1 : lyn h [] + mk 1 = h + 1 := rfl
  have ph1 : lyn h [(1, Tl)] + mk 2 = h + 1 + tln Tl + 1 := rfl
  have pb1 : lyn h [(2, Th), (1, Tl)] + mk 3 = h + 1 + tln Tl + 1 + tln Th + 1 := rfl
  rw [co, pl1] at rl
  rw [co, ph1] at rh
  rw [co, pb1] at rb
  have h7 : gI σ 46 7 = nI (h + 1 + tln Tl) := i7.2.1 _ rfl
  have h8 : gI σ 46 8 = nI (h + 1 + tln Tl + 1 + tln Th) := i7.2.2.1 _ rfl
  have h9 : gI σ 46 9 = nI (h + 1 + tln Tl + 1 + tln Th + 1 + tln Tb) := i7.2.2.2.1 rfl
  have a2 : aB (nI h) (gN σ (t + 2)) := i1.a (c := 0) (by decide) hh
  have a6 : aB (nI h) (gN σ (t + 6)) := i1.a (c := 4) (by decide) hh
  have g2 : gE σ (t + 2) (nI h).toNatClampNeg = nI 29 := (i1.g (c := 0) (by decide) hh).trans i6.1
  have g6 : gE σ (t + 6) (nI h).toNatClampNeg = nI 1 := (i1.g (c := 4) (by decide) hh).trans (by rw [i6.2.2.2.1 rfl, if_neg hk5])
  have f67 : F_67 N t σ = F_82 N t σ := by
    unfold F_67
    rw [i5, if_pos a2]
    simp only [g2]
    rw [if_neg (show ¬ nI 29 = 27 by decide), if_neg (show ¬ nI 29 = 28 by decide), if_pos (show nI 29 = 29 from rfl), if_pos a6, g6, if_neg (show ¬ nI 1 = 2 by decide)]
    cases F_82 N t σ <;> rfl
  have l53 := fun k' => L53f (N := N) (k := k') i1 hn e34
  have mf := hT.2.2.2.1.mf hT.1 i3 i1 (show h ≤ n by omega)
  have K := F82a (N := N) ht hN hT.2.1 hnv hT.2.2.1 mf i4 hC.1.1.2.1 hC.1.1.2.2.1 rl hC.1.2.1 hC.1.2.2.1 rh (by omega) (by omega) h7 h8
  have hfin : fin l w (E, tg, C) 29 k [(3, Tb), (2, Th), (1, Tl)] = sbd (rng l w E k [(3, Tb), (2, Th), (1, Tl)]) fun b => .inr (E ++ [(k + 1, 3, decide (kK w (k + 3) = 5), .leaf 0, (0, 0), b, cnt E 3, cnt E 3)], tg, C) := rfl
  have hrng : rng l w E k [(3, Tb), (2, Th), (1, Tl)] = sbd (eI l w E Tl) fun lo => sbd (eI l w E Th) fun hi => if hi < lo ∨ ¬ hi - lo < 10000 then .inl (9, kP w (bw Th)) else sbd (eI l w E Tb) fun b => if b < lo ∨ ¬ b ≤ hi then .inl (9, kP w (bw Tb)) else .inr (lo, hi, b) := if_neg hk5
  rw [hfin, hrng, sbd2]
  cases he : (sbd (eI l w E Tl) fun lo => sbd (eI l w E Th) fun hi => (.inr (lo, hi) : Rs (Int32 × Int32))) with
  | inl er =>
    rw [he] at K
    dsimp only at K
    obtain ⟨k1, k2, σ1, k3, k4, k5⟩ := K
    rw [sbd_l, sbd_l]
    refine ⟨σ1, fun k' => ?_, k4, k5⟩
    rw [l53, f67, k3, ob_some]
    dsimp only
    rw [if_neg (show ¬ nI er.1 = 0 from nik (m := 0) (by omega) (by decide) k1)]
  | inr v =>
    rw [he] at K
    dsimp only at K
    obtain ⟨σ1, M1, k1, k2, k3, k4, k5, k6, k7, k8⟩ := K
    rw [sbd_r]
    have c7 : gI σ1 46 7 = nI (h + 1 + tln Tl) := by rw [k3.g46]; exact h7
    have c8 : gI σ1 46 8 = nI (h + 1 + tln Tl + 1 + tln Th) := by rw [k3.g46]; exact h8
    have c9 : gI σ1 46 9 = nI (h + 1 + tln Tl + 1 + tln Th + 1 + tln Tb) := by rw [k3.g46]; exact h9
    have el2 := ((k6 (h + 1 + tln Tl)).1 2 (by decide)).trans rl.2.2.2.2.2.1
    have eh2 := ((k6 (h + 1 + tln Tl + 1 + tln Th)).1 2 (by decide)).trans rh.2.2.2.2.2.1
    by_cases c : v.2 < v.1 ∨ ¬ v.2 - v.1 < 10000
    · have J := J82f (N := N) k2.1 (el := h + 1 + tln Tl) (eh := h + 1 + tln Tl + 1 + tln Th) (ph := kP w (bw Th)) (by omega) (by omega) c7 c8 el2 eh2 (((k6 _).1 1 (by decide)).trans rh.2.2.2.2.1) k7 k8
      rw [if_pos c, sbd_l]
      refine ⟨_, fun k' => ?_, ?_, k3.fk.tr (FK.i σ1 (nI (kP w (bw Th))) (a := 46) (k := 4) (by simp))⟩
      · rw [l53, f67, k1, J.1 c, ob_some]
        rfl
      · rw [gI_i, if_pos ⟨rfl, rfl⟩]
    · rw [if_neg c]
      have rb1 := rb.fr (M' := M1) (fun i z _ => k5 i (by omega))
      have K3 := F83c (N := N) ht hN hT.2.1 hnv hT.2.2.1 k2 k4 hC.2.1 hC.2.2.1 rb1 (by omega)
      cases he3 : eI l w E Tb with
      | inl er =>
        rw [he3] at K3
        dsimp only at K3
        obtain ⟨m1, m2, σ3, m3, m4, m5⟩ := K3
        have J := (J82b (N := N) (σ3 := σ3) (M3 := M1) (pb := 0) (bg := 0) k2.1 (el := h + 1 + tln Tl) (eh := h + 1 + tln Tl + 1 + tln Th) (eb := h + 1 + tln Tl + 1 + tln Th + 1 + tln Tb) (by omega) (by omega) (by omega) c7 c8 c9 el2 eh2 k7 k8 c).1 er.1 m1 m2 m3
        rw [sbd_l, sbd_l]
        refine ⟨σ3, fun k' => ?_, m4, k3.fk.tr m5⟩
        rw [l53, f67, k1, J, ob_some]
        dsimp only
        rw [if_neg (show ¬ nI er.1 = 0 from nik (m := 0) (by omega) (by decide) m1)]
      | inr bg =>
        rw [he3] at K3
        dsimp only at K3
        obtain ⟨σ3, M3, m1, m2, m3, m4, m5, m6, m7⟩ := K3
        have me := m5 (h + 1 + tln Tl + 1 + tln Th + 1 + tln Tb) (by omega)
        have J := (J82b (N := N) (σ3 := σ3) (M3 := M3) (pb := kP w (bw Tb)) (bg := bg) k2.1 (el := h + 1 + tln Tl) (eh := h + 1 + tln Tl + 1 + tln Th) (eb := h + 1 + tln Tl + 1 + tln Th + 1 + tln Tb) (by omega) (by omega) (by omega) c7 c8 c9 el2 eh2 k7 k8 c).2 m2.1 (by rw [m3.g46]; exact c9) (by rw [me]; exact rb1.2.2.2.2.2.1) (by rw [me]; exact rb1.2.2.2.2.1) m7 m1
        rw [sbd_r]
        have fm := k3.tr m3
        by_cases z : bg < v.1 ∨ ¬ bg ≤ v.2
        · rw [if_pos z] at J
          rw [if_pos z, sbd_l]
          refine ⟨_, fun k' => ?_, ?_, fm.fk.tr (FK.i σ3 (nI (kP w (bw Tb))) (a := 46) (k := 4) (by simp))⟩
          · rw [l53, f67, k1, J, ob_some]
            rfl
          · rw [gI_i, if_pos ⟨rfl, rfl⟩]
        · rw [if_neg z] at J
          rw [if_neg z, sbd_r]
          obtain ⟨σ4, v1, v2, v3, v4⟩ := var_ok (N := N) (b := lyn h [(3, Tb), (2, Th), (1, Tl)] + 1) ht m2.1 (fm.wd ht i2) (i3.kp (fm.kp ht)) m4 (hT.fr (fun i hi => by rw [m5 i (by omega), k5 i (by omega)])) (by rw [fm.g46]; exact i5) hh (by unfold Hk; rw [m5 h (by omega), k5 h (by omega)]; exact i6) h12 (by omega) v.1 v.2 bg
          refine ⟨σ4, M3, _, _, tge, hs, fun k' => ?_, v2, fun i hi => by rw [m5 i (by omega), k5 i (by omega)], fm.fk.tr v3, v4.trans (fm.g46 4)⟩
          rw [l53, f67, k1, J, v1, ob_some, ob_some]
          rfl
end CN
