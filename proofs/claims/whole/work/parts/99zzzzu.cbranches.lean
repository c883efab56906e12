/-! the class explores: the branches of a command, its chances -/
section KN
variable {N t n : Nat} {l : List Int32} {w : List (Nat × Nat × Nat)} {x : Tx} {X fs hs : Nat → Nat} {tge : Int32} {M M' : Nat → Nat → Int32} {vs nx : Vl} {σ σ' σ0 : st_S} {k hd pl : Nat} {K : Nat × (Nat → Nat) × (Nat → Nat)} {ow cf : Nat → Nat} {C : Nat}
theorem KFl.ne {e : Nat × Nat} (q : KFl t n l w x X fs tge hs σ0 e σ) : ¬ nI e.1 = 0 := by
  have := q.1
  exact nik (m := 0) (by omega) (by decide) (by omega)
theorem z32 {v : Int64} (h : v.toInt.natAbs < 1000000000) : v.toInt32 = 0 ↔ v = 0 := by
  constructor
  · intro z
    rw [← toL h, z]
    rfl
  · intro z
    rw [z]
    rfl
/-- the branches -/
theorem L118 (G : KGv N t n l w x) (hq : gC σ0 + 50000 < vz_M0) (hv : Vv x.1 vs) (hh : hd < n) {A : Nat} (hA : 0 < A) (hA2 : A < 1000000000) (hK : 1 ≤ K.1) : ∀ (Bs : List (Tr × List Tr)) (Ls : List (Int64 × Int64)) (q : Nat) (p : Int32) (σ : st_S) (M : Nat → Nat → Int32) (s : Pst × Bn) (tt : Nat), BrsK l w x.1 X fs n M p Bs → (∀ b ∈ Bs, b.2.length ≤ 12) → Ls.length = Bs.length → q + Bs.length ≤ 8 → M hd 1 = nI pl → KXs t n l w x X fs tge hs vs σ0 σ M → KPt σ (cnt x.1 3) s.1 → KBr σ s.2 → KCm σ K s.2.1 → K.2.2 (K.1 - 1) ≤ s.2.1 → KSt σ k ow cf C s.1.1 → (∀ v ∈ Ls, Fq A v ∧ C01 v) → (∀ j (hj : j < Ls.length), gE σ 63 (q + j) = Ls[j].1.toInt32 ∧ gE σ 64 (q + j) = Ls[j].2.toInt32) → Fqr A (K.2.2 (K.1 - 1)) s.2 tt → tt + (Ls.map (wt A)).sum ≤ A → match xbs l w x.1 (cnt x.1 3) vs pl (K.2.2 (K.1 - 1)) (Bs.zip Ls) s with
    | .inl e => ∃ σ', (∀ f, L_118 N t (f + Bs.length + 1) (nI hd) 0 p (nI q) σ = some (nI e.1, σ')) ∧ KFl t n l w x X fs tge hs σ0 e σ'
    | .inr s' => ∃ σ' M', (∀ f, L_118 N t (f + Bs.length + 1) (nI hd) 0 p (nI q) σ = some (0, σ')) ∧ KXs t n l w x X fs tge hs vs σ0 σ' M' ∧ Sta M M' ∧ KPt σ' (cnt x.1 3) s'.1 ∧ KBr σ' s'.2 ∧ KCm σ' K s'.2.1 ∧ KSt σ' k ow cf C s'.1.1 := by
  have ht := G.1
  have hn : n ≤ 24600 := G.2.2.1
  intro Bs
  induction Bs with
  | nil =>
    intro Ls q p σ M s tt hB0 _ _ _ _ h hP hB hC hb hT _ _ _ _
    have hB0 : p = -1 := hB0
    refine ⟨σ, M, fun f => ?_, h, Sta.rf M, hP, hB, hC, hT⟩
    unfold L_118
    rw [hB0]
    by_cases c : (8 : Int32) ≤ nI q
    · rw [if_pos c]
    · rw [if_neg c, if_pos (by decide)]
  | cons b Bs ih =>
    intro Ls q p σ M s tt hB0 h12 hLl hq8 hpl h hP hB hC hb hT hFq hL hF ht'
    cases Ls with
    | nil => cases hLl
    | cons v Ls =>
      rw [List.length_cons] at hq8
      rw [List.map_cons, List.sum_cons] at ht'
      obtain ⟨i0, e, q1, q2, q3, q4, q5, q6, q7⟩ := hB0
      obtain ⟨fv, cv⟩ := hFq v List.mem_cons_self
      have v9 : v.1.toInt.natAbs < 1000000000 := by have := cv.1; have := cv.2.1; have := cv.2.2.2; omega
      obtain ⟨e5, e6⟩ := hL 0 (by rw [List.length_cons]; omega)
      have e5 : gE σ 63 q = v.1.toInt32 := e5
      have e6 : gE σ 64 q = v.2.toInt32 := e6
      have cs := h.1.2.1
      have e5c : gE σ 63 (nI q).toNatClampNeg = v.1.toInt32 := by rw [nI_clamp (by omega)]; exact e5
      have g6 : gE σ (t + 6) (nI i0).toNatClampNeg = M i0 4 := cs.g (c := 4) (by decide) q2
      have st : ∀ f, L_118 N t (f + 1) (nI hd) 0 p (nI q) σ = if v.1 = 0 then L_118 N t f (nI hd) 0 (M i0 4) (nI (q + 1)) σ else (F_122 N t (nI hd) (nI i0) (nI q) σ).bind fun p_28 => if aB (nI i0) (gN p_28.2 (t + 6)) then L_118 N t f (nI hd) p_28.1 (gE (p_28.2) (t + 6) (nI i0).toNatClampNeg) (nI (q + 1)) (p_28.2) else none := fun f => by
        conv => lhs; unfold L_118
        rw [if_neg (show ¬ (8 : Int32) ≤ nI q from nle_nI (a := 8) (by omega) (by decide)), q1, if_neg (show ¬ nI i0 < 0 from fun z => by have := (nI_lti (b := 0) (by omega) (by decide)).mp z; omega), if_pos rfl, if_pos (show aB (nI q) (gN σ 63) by rw [h.2.1.2.1]; exact aB_nI (by omega) (by decide)), e5c, if_pos (show aB (nI i0) (gN σ (t + 6)) from cs.a (c := 4) (by decide) q2), g6, nI_1]
        by_cases c0 : v.1 = 0
        · rw [if_pos ((z32 v9).mpr c0), if_pos c0]
        · rw [if_neg (fun z => c0 ((z32 v9).mp z)), if_neg c0]
      have hz : (b :: Bs).zip (v :: Ls) = (b, v) :: Bs.zip Ls := rfl
      rw [hz]
      unfold xbs
      have hL' : ∀ (s : st_S), gE s 63 = gE σ 63 → gE s 64 = gE σ 64 → ∀ j (hj : j < Ls.length), gE s 63 (q + 1 + j) = Ls[j].1.toInt32 ∧ gE s 64 (q + 1 + j) = Ls[j].2.toInt32 := fun s z1 z2 j hj => by
        have := hL (j + 1) (by rw [List.length_cons]; omega)
        rw [z1, z2, show q + 1 + j = q + (j + 1) by omega]
        exact this
      have hLl' : Ls.length = Bs.length := by rw [List.length_cons, List.length_cons] at hLl; omega
      by_cases c0 : v.1 = 0
      · rw [if_pos c0]
        have I := ih Ls (q + 1) (M i0 4) σ M s tt q7 (fun b' hb' => h12 b' (List.mem_cons_of_mem _ hb')) hLl' (by omega) hpl h hP hB hC hb hT (fun u hu => hFq u (List.mem_cons_of_mem _ hu)) (hL' σ rfl rfl) hF (by omega)
        cases hx : xbs l w x.1 (cnt x.1 3) vs pl (K.2.2 (K.1 - 1)) (Bs.zip Ls) s with
        | inl e' =>
          rw [hx] at I
          obtain ⟨s', i1, i2⟩ := I
          refine ⟨s', fun f => ?_, i2⟩
          rw [List.length_cons, show f + (Bs.length + 1) + 1 = f + Bs.length + 1 + 1 by omega, st, if_pos c0, i1]
        | inr s2 =>
          rw [hx] at I
          obtain ⟨s', M2, i1, i2⟩ := I
          refine ⟨s', M2, fun f => ?_, i2⟩
          rw [List.length_cons, show f + (Bs.length + 1) + 1 = f + Bs.length + 1 + 1 by omega, st, if_pos c0, i1]
      · rw [if_neg c0]
        have fq := Fqr.s (v := v) hA hA2 fv (by omega) hF
        have F := F122 (pl := pl) G hq hv h q2 q3 q6 (h12 b List.mem_cons_self) hh hpl hP hB hC hK hb hT (by omega) e5 e6 fq
        cases hx1 : xb1 l w x.1 (cnt x.1 3) vs pl (K.2.2 (K.1 - 1)) b v s with
        | inl e' =>
          rw [hx1] at F
          rw [sbd_l]
          obtain ⟨s', m1, m2⟩ := F
          refine ⟨s', fun f => ?_, m2⟩
          obtain ⟨M1, -, c1⟩ := m2.2.2.1
          rw [List.length_cons, show f + (Bs.length + 1) + 1 = f + Bs.length + 1 + 1 by omega, st, if_neg c0, m1, ob_some]
          dsimp only
          rw [if_pos (show aB (nI i0) (gN s' (t + 6)) from c1.a (c := 4) (by decide) q2)]
          unfold L_118
          have ne := m2.ne
          by_cases y1 : (8 : Int32) ≤ nI (q + 1)
          · rw [if_pos y1]
          · rw [if_neg y1]
            by_cases y2 : gE s' (t + 6) (nI i0).toNatClampNeg < 0
            · rw [if_pos y2]
            · rw [if_neg y2, if_neg ne]
        | inr s1 =>
          rw [hx1] at F
          rw [sbd_r]
          obtain ⟨σ1, M1, m1, m2, m3, m4, m5, m6, m7, m8⟩ := F
          have hx2 := hx1
          unfold xb1 at hx2
          obtain ⟨nx, -, hx3⟩ := sbd_i hx2
          unfold xb2 at hx3
          cases hgo : xgo (cnt x.1 3) s.1 nx with
          | none => rw [hgo] at hx3; cases hx3
          | some pp =>
            rw [hgo] at hx3
            dsimp only at hx3
            cases hbw : xbw (K.2.2 (K.1 - 1)) s.2 pp.1 v with
            | none => rw [hbw] at hx3; cases hx3
            | some B' =>
              rw [hbw] at hx3
              injection hx3 with hx3
              subst hx3
              obtain ⟨w1, w2, w3, w4, w5⟩ := xbw_ok hA hA2 fv (by omega) hB.2.1 hb hF hbw
              have c1 := m2.1.2.1
              have na : ∀ y, y = 63 ∨ y = 64 → y ∉ [44, 45, 53, 54, 55, 56, 58, 59, 60, 61, 65, t + 7, t + 8, t + 9] := fun y z => by simp only [List.mem_cons, List.not_mem_nil, or_false]; omega
              have I := ih Ls (q + 1) (M1 i0 4) σ1 M1 (pp.2, B') (tt + wt A v) (by rw [(m3 i0).1 4 (by decide)]; exact q7.sta m3) (fun b' hb' => h12 b' (List.mem_cons_of_mem _ hb')) hLl' (by omega) (((m3 hd).1 1 (by decide)).trans hpl) m2 m4 m5 m6 (by show _ ≤ B'.1; omega) m7 (fun u hu => hFq u (List.mem_cons_of_mem _ hu)) (hL' σ1 (m8.2.2.2.1 63 (na _ (Or.inl rfl))).2 (m8.2.2.2.1 64 (na _ (Or.inr rfl))).2) w5 (by omega)
              have st1 : ∀ f, L_118 N t (f + 1) (nI hd) 0 p (nI q) σ = L_118 N t f (nI hd) 0 (M1 i0 4) (nI (q + 1)) σ1 := fun f => by
                rw [st, if_neg c0, m1, ob_some]
                dsimp only
                rw [if_pos (show aB (nI i0) (gN σ1 (t + 6)) from c1.a (c := 4) (by decide) q2), show gE σ1 (t + 6) (nI i0).toNatClampNeg = M1 i0 4 from c1.g (c := 4) (by decide) q2]
              cases hx : xbs l w x.1 (cnt x.1 3) vs pl (K.2.2 (K.1 - 1)) (Bs.zip Ls) (pp.2, B') with
              | inl e' =>
                rw [hx] at I
                obtain ⟨s', i1, i2⟩ := I
                refine ⟨s', fun f => ?_, i2⟩
                rw [List.length_cons, show f + (Bs.length + 1) + 1 = f + Bs.length + 1 + 1 by omega, st1, i1]
              | inr s2 =>
                rw [hx] at I
                obtain ⟨s', M2, i1, i2, i3, i4⟩ := I
                refine ⟨s', M2, fun f => ?_, i2, m3.tr i3, i4⟩
                rw [List.length_cons, show f + (Bs.length + 1) + 1 = f + Bs.length + 1 + 1 by omega, st1, i1]
/-- what chances may change in the class -/
abbrev FKc (t : Nat) (σ σ' : st_S) : Prop := Fr 0 [(42, 6)] [(42, 7), (42, 8)] [] [44, 45, 63, 64, t + 7, t + 8, t + 9] [] σ σ'
/-- the chances, one by one -/
theorem L119 (G : KGv N t n l w x) (hv : Vv x.1 vs) : ∀ (Bs : List (Tr × List Tr)) (q : Nat) (p : Int32) (σ : st_S) (M : Nat → Nat → Int32), BrsK l w x.1 X fs n M p Bs → q + Bs.length ≤ 8 → KXs t n l w x X fs tge hs vs σ0 σ M → match xch l w x.1 vs Bs with
    | .inl e => ∃ σ', (∀ f, L_119 N t (f + Bs.length + 1) (nI hd) (nI q) p (nI q) σ = some (nI e.1, σ')) ∧ KFl t n l w x X fs tge hs σ0 e σ'
    | .inr Ls => Ls.length = Bs.length ∧ (∀ v ∈ Ls, C01 v) ∧ ∃ σ' M', (∀ f, L_119 N t (f + Bs.length + 1) (nI hd) (nI q) p (nI q) σ = (F_120 N t (nI hd) (nI (q + Bs.length)) σ').bind fun p_3 => some (p_3.1, p_3.2)) ∧ KXs t n l w x X fs tge hs vs σ0 σ' M' ∧ Sta M M' ∧ (∀ j, j < q → gE σ' 63 j = gE σ 63 j ∧ gE σ' 64 j = gE σ 64 j) ∧ (∀ j (hj : j < Ls.length), gE σ' 63 (q + j) = Ls[j].1.toInt32 ∧ gE σ' 64 (q + j) = Ls[j].2.toInt32) ∧ FKc t σ σ' ∧ gN σ' = gN σ := by
  have ht := G.1
  have hn : n ≤ 24600 := G.2.2.1
  intro Bs
  induction Bs with
  | nil =>
    intro q p σ M hB0 hq h
    have hB0 : p = -1 := hB0
    refine ⟨rfl, (fun v hv => by cases hv), σ, M, fun f => ?_, h, Sta.rf M, fun _ _ => ⟨rfl, rfl⟩, fun j hj => absurd hj (Nat.not_lt_zero j), Fr.rf σ, rfl⟩
    unfold L_119
    rw [hB0]
    by_cases c : (8 : Int32) ≤ nI q
    · rw [if_pos c]; rfl
    · rw [if_neg c, if_pos (by decide)]; rfl
  | cons b Bs ih =>
    intro q p σ M hB0 hq h
    rw [List.length_cons] at hq
    obtain ⟨i0, e, q1, q2, q3, q4, q5, q6, q7⟩ := hB0
    obtain ⟨e1, en⟩ : 1 ≤ e ∧ e < n := by
      obtain ⟨a, m, r1, r2, -⟩ := q5
      have := tln_pos b.1
      omega
    have cs := h.1.2.1
    have K := ks_ev G hv h q5 (by decide)
    have st : ∀ f, L_119 N t (f + 1) (nI hd) (nI q) p (nI q) σ = (F_70 N t (nI e) σ).bind fun p_7 =>
          if p_7.1 = 0 then
            if aB (nI e) (gN p_7.2 (t + 4)) then
            if aB (gE (p_7.2) (t + 4) (nI e).toNatClampNeg) (gN p_7.2 (t + 8)) then
            if aB (gE (p_7.2) (t + 4) (nI e).toNatClampNeg) (gN p_7.2 (t + 9)) then
            if (gE (p_7.2) (t + 8) ((gE (p_7.2) (t + 4) (nI e).toNatClampNeg) : Int32).toNatClampNeg) < 0 then
              J_119_119 N t (nI e) (p_7.2)
            else
              if (gE (p_7.2) (t + 8) ((gE (p_7.2) (t + 4) (nI e).toNatClampNeg) : Int32).toNatClampNeg) ≤ (gE (p_7.2) (t + 9) ((gE (p_7.2) (t + 4) (nI e).toNatClampNeg) : Int32).toNatClampNeg) then
                if aB (nI q) (gN p_7.2 63) then
                if aB (nI q) (gN p_7.2 64) then
                if aB (nI i0) (gN p_7.2 (t + 6)) then
                L_119 N t f (nI hd) (nI (q + 1)) (gE (p_7.2) (t + 6) (nI i0).toNatClampNeg) (nI (q + 1)) (st_e (st_e (p_7.2) 63 ((nI q).toNatClampNeg) (gE (p_7.2) (t + 8) ((gE (p_7.2) (t + 4) (nI e).toNatClampNeg) : Int32).toNatClampNeg)) 64 ((nI q).toNatClampNeg) (gE (p_7.2) (t + 9) ((gE (p_7.2) (t + 4) (nI e).toNatClampNeg) : Int32).toNatClampNeg))
                else none
                else none
                else none
              else
                J_119_119 N t (nI e) (p_7.2)
            else none
            else none
            else none
          else
            (F_116 N p_7.1 (gI p_7.2 42 6) (p_7.2)).bind fun p_17 =>
            some (p_17.1, p_17.2) := fun f => by
      conv => lhs; unfold L_119
      rw [if_neg (show ¬ (8 : Int32) ≤ nI q from nle_nI (a := 8) (by omega) (by decide)), q1, if_neg (show ¬ nI i0 < 0 from fun z => by have := (nI_lti (b := 0) (by omega) (by decide)).mp z; omega), if_pos (show aB (nI i0) (gN σ (t + 4)) from cs.a (c := 2) (by decide) q2), show gE σ (t + 4) (nI i0).toNatClampNeg = nI e from (cs.g (c := 2) (by decide) q2).trans q4, nI_1]
    unfold xch
    cases hev : exv l w x.1 vs b.1 with
    | inl er =>
      rw [hev] at K
      rw [sbd_l, sbd_l]
      obtain ⟨s, k1, k2, k3⟩ := K
      refine ⟨_, fun f => ?_, k2⟩
      rw [List.length_cons, show f + (Bs.length + 1) + 1 = f + Bs.length + 1 + 1 by omega, st, k1, ob_some]
      dsimp only
      rw [if_neg k3]
      rfl
    | inr v =>
      rw [hev] at K
      rw [sbd_r]
      obtain ⟨ok, s, M1, k1, k2, k3, k4, k5⟩ := K
      have cs1 := k2.1.2.1
      obtain ⟨o1, o2, o3⟩ := okv1.mp ok
      obtain ⟨a, m, r1, r2, r3, r4, r5, r6, r7, r8, -⟩ := q5
      have ge : gE s (t + 4) (nI e).toNatClampNeg = nI (e - 1) := (cs1.g (c := 2) (by decide) en).trans (((k4 e).1 2 (by decide)).trans r7)
      have g8 : gE s (t + 8) (nI (e - 1)).toNatClampNeg = v.1.toInt32 := (cs1.g (c := 6) (by decide) (by omega)).trans k3.1
      have g9 : gE s (t + 9) (nI (e - 1)).toNatClampNeg = v.2.toInt32 := by
        refine (cs1.g (c := 7) (by decide) (by omega)).trans (k3.2.1.trans ?_)
        unfold bl1
        rw [if_neg (fun z => by rw [z, L0] at o2; omega)]
      have g6 : gE s (t + 6) (nI i0).toNatClampNeg = M1 i0 4 := cs1.g (c := 4) (by decide) q2
      have g3 : gE s (t + 3) (nI e).toNatClampNeg = nI (kP w (bw b.1)) := (cs1.g (c := 1) (by decide) en).trans (((k4 e).1 1 (by decide)).trans r6)
      have n63 : gN s 63 = 8 := k2.2.1.2.1
      have n64 : gN s 64 = 8 := k2.2.1.2.2.1
      have cq : (nI q).toNatClampNeg = q := nI_clamp (by omega)
      have lt0 : v.1.toInt32 < 0 ↔ v.1 < 0 := (c32 o1 0).1
      have le2 : v.1.toInt32 ≤ v.2.toInt32 ↔ v.1 ≤ v.2 := by
        have := (c32 o1 v.2.toInt32).2
        rw [toL (show v.2.toInt.natAbs < 1000000000 by omega)] at this
        exact this
      have eJ : J_119_119 N t (nI e) s = some (nI 11, st_i s 62 8 (nI (kP w (bw b.1)))) := by
        unfold J_119_119
        rw [if_pos (show aB (nI e) (gN s (t + 3)) from cs1.a (c := 1) (by decide) en), g3]
        rfl
      have st2 : ∀ f, L_119 N t (f + 1) (nI hd) (nI q) p (nI q) σ = if v.1.toInt32 < 0 then J_119_119 N t (nI e) s else if v.1.toInt32 ≤ v.2.toInt32 then L_119 N t f (nI hd) (nI (q + 1)) (M1 i0 4) (nI (q + 1)) (st_e (st_e s 63 q v.1.toInt32) 64 q v.2.toInt32) else J_119_119 N t (nI e) s := fun f => by
        rw [st, k1, ob_some]
        dsimp only
        rw [if_pos rfl, if_pos (show aB (nI e) (gN s (t + 4)) from cs1.a (c := 2) (by decide) en), ge, if_pos (show aB (nI (e - 1)) (gN s (t + 8)) from cs1.a (c := 6) (by decide) (by omega)), if_pos (show aB (nI (e - 1)) (gN s (t + 9)) from cs1.a (c := 7) (by decide) (by omega)), g8, g9, if_pos (show aB (nI q) (gN s 63) by rw [n63]; exact aB_nI (by omega) (by decide)), if_pos (show aB (nI q) (gN s 64) by rw [n64]; exact aB_nI (by omega) (by decide)), if_pos (show aB (nI i0) (gN s (t + 6)) from cs1.a (c := 4) (by decide) q2), g6, cq]
      unfold xc1
      by_cases cc : v.1 < 0 ∨ v.2 < v.1
      · rw [if_pos cc, sbd_l]
        refine ⟨_, fun f => ?_, (KFl.st (N := N) ht k2 (f := 11) (p := kP w (bw b.1)) (by decide)).2⟩
        rw [List.length_cons, show f + (Bs.length + 1) + 1 = f + Bs.length + 1 + 1 by omega, st2, eJ]
        by_cases c1 : v.1.toInt32 < 0
        · rw [if_pos c1]
        · rw [if_neg c1, if_neg (fun z => by
            rcases cc with y | y
            · exact c1 (lt0.mpr y)
            · exact Int64.lt_irrefl (Int64.lt_of_lt_of_le y (le2.mp z)))]
      · rw [if_neg cc, sbd_r]
        have c1 : ¬ v.1 < 0 := fun z => cc (Or.inl z)
        have c2 : ¬ v.2 < v.1 := fun z => cc (Or.inr z)
        have fr : Fr 0 [] [] [] [63, 64] [] s (st_e (st_e s 63 q v.1.toInt32) 64 q v.2.toInt32) := Fr.t0 (Fr.e _ _ _ (by simp)) (Fr.e _ _ _ (by simp))
        have kx3 : KXs t n l w x X fs tge hs vs σ0 (st_e (st_e s 63 q v.1.toInt32) 64 q v.2.toInt32) M1 := ⟨k2.1.fr ht fr (by simp) (by intro a z; simp only [List.mem_cons, List.not_mem_nil, or_false] at z; omega), k2.2.1.eq rfl, Fr.t0 k2.2.2 (fr.mo (by simp) (by simp) (by simp) (by intro a z; simp only [List.mem_cons, List.not_mem_nil, or_false] at z ⊢; omega) (by simp))⟩
        have I := ih (q + 1) (M1 i0 4) _ M1 (by rw [(k4 i0).1 4 (by decide)]; exact q7.sta k4) (by omega) kx3
        have st3 : ∀ f, L_119 N t (f + 1) (nI hd) (nI q) p (nI q) σ = L_119 N t f (nI hd) (nI (q + 1)) (M1 i0 4) (nI (q + 1)) (st_e (st_e s 63 q v.1.toInt32) 64 q v.2.toInt32) := fun f => by rw [st2, if_neg (fun z => c1 (lt0.mp z)), if_pos (le2.mpr (Int64.not_lt.mp c2))]
        cases hx : xch l w x.1 vs Bs with
        | inl e' =>
          rw [hx] at I
          rw [sbd_l]
          obtain ⟨s', i1, i2⟩ := I
          refine ⟨s', fun f => ?_, i2⟩
          rw [List.length_cons, show f + (Bs.length + 1) + 1 = f + Bs.length + 1 + 1 by omega, st3, i1]
        | inr Ls =>
          rw [hx] at I
          rw [sbd_r]
          obtain ⟨i1, i2, s', M2, i3, i4, i5, i6, i7, i8, i9⟩ := I
          have na : ∀ y, y = 63 ∨ y = 64 → y ∉ [t + 7, t + 8, t + 9, 44, 45] := fun y z => by simp only [List.mem_cons, List.not_mem_nil, or_false]; omega
          have e5 : gE s' 63 q = v.1.toInt32 ∧ gE s' 64 q = v.2.toInt32 := by
            obtain ⟨y1, y2⟩ := i6 q (Nat.lt_succ_self q)
            rw [y1, y2]
            exact ⟨by rw [gE_e, if_neg (fun z => absurd z.1 (by decide)), gE_e, if_pos ⟨rfl, rfl⟩], by rw [gE_e, if_pos ⟨rfl, rfl⟩]⟩
          refine ⟨by rw [List.length_cons, List.length_cons, i1], fun u hu => ?_, s', M2, fun f => ?_, i4, k4.tr i5, fun j hj => ?_, fun j hj => ?_, Fr.t0 (k5.1.mo (fun _ q => q) (fun _ q => q) (by simp) (by intro a z; simp only [List.mem_cons, List.not_mem_nil, or_false] at z ⊢; omega) (by simp)) (Fr.t0 (fr.mo (by simp) (by simp) (by simp) (by intro a z; simp only [List.mem_cons, List.not_mem_nil, or_false] at z ⊢; omega) (by simp)) i8), i9.trans k5.2.1⟩
          · rcases List.mem_cons.mp hu with z | z
            · rw [z]; exact c01_of ok c1 c2
            · exact i2 u z
          · rw [List.length_cons, show f + (Bs.length + 1) + 1 = f + Bs.length + 1 + 1 by omega, st3, i3, show q + 1 + Bs.length = q + (Bs.length + 1) by omega]
          · obtain ⟨y1, y2⟩ := i6 j (by omega)
            rw [y1, y2, gE_e, if_neg (fun z => by omega), gE_e, if_neg (fun z => by omega), gE_e, if_neg (fun z => by omega), gE_e, if_neg (fun z => by omega), (k5.1.2.2.2.1 63 (na _ (Or.inl rfl))).2, (k5.1.2.2.2.1 64 (na _ (Or.inr rfl))).2]
            exact ⟨rfl, rfl⟩
          · cases j with
            | zero => exact e5
            | succ j =>
              have := i7 j (by rw [List.length_cons] at hj; omega)
              rw [show q + (j + 1) = q + 1 + j by omega]
              exact this
end KN
