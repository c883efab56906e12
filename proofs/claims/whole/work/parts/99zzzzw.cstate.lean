/-! the class explores: a state -/
/-- the graph in the class -/
def KGh (σ : st_S) (V k : Nat) (G : Gsh) : Prop := KPt σ V G.1 ∧ KSt σ k G.2.1 G.2.2.1 G.2.2.2.1.1 G.1.1 ∧ KCm σ G.2.2.2.1 G.2.2.2.2.1 ∧ KBr σ G.2.2.2.2
/-- how much a command has -/
def CmW (c : It) : Prop := (bsr c.2.2).length ≤ 8 ∧ ∀ b ∈ bsr c.2.2, b.2.length ≤ 12
section KP
variable {N t n : Nat} {l : List Int32} {w : List (Nat × Nat × Nat)} {x : Tx} {X fs hs : Nat → Nat} {tge : Int32} {M M' : Nat → Nat → Int32} {vs nx : Vl} {σ σ' σ0 : st_S} {k i : Nat} {c : It} {G : Gsh}
theorem F117 {e kd : Nat} {v : Int64 × Int64} {T : Tr} (h : KXs t n l w x X fs tge hs vs σ0 σ M) (hR : RuK l w x.1 X fs n M 2 T e) (hV : Va M (e - 1) v) (ok : okv 2 v) : F_117 N t (nI e) σ = some ((if v.1 = 1 then 1 else 0 : Int32), σ) := by
  obtain ⟨a, m, r1, r2, r3, r4, r5, r6, r7, r8, -⟩ := hR
  have tp := tln_pos T
  have cs := h.1.2.1
  unfold F_117
  rw [if_pos (show aB (nI e) (gN σ (t + 4)) from cs.a (c := 2) (by decide) r2), show gE σ (t + 4) (nI e).toNatClampNeg = nI (e - 1) from (cs.g (c := 2) (by decide) r2).trans r7, if_pos (show aB (nI (e - 1)) (gN σ (t + 8)) from cs.a (c := 6) (by decide) (by omega)), show gE σ (t + 8) (nI (e - 1)).toNatClampNeg = M (e - 1) 6 from cs.g (c := 6) (by decide) (by omega)]
  have t1 := hV.t1 ok
  by_cases c : v.1 = 1
  · rw [if_pos (t1.mpr c), if_pos c]
  · rw [if_neg (fun z => c (t1.mp z)), if_neg c]
/-- a command in a state -/
theorem F118 (H : KGv N t n l w x) (hq : gC σ0 + 50000 < vz_M0) (hvs : Vr x.1 vs) (hc : x.2.2.reverse[i]? = some c) (hw : CmW c) (h : KXs t n l w x X fs tge hs vs σ0 σ M) (hG : KGh σ (cnt x.1 3) k G) (hI : GI x.1 k G) : match xco l w x.1 (cnt x.1 3) vs k i c G with
    | .inl e => ∃ σ', F_118 N t (nI k) (nI i) σ = some (nI e.1, σ') ∧ KFl t n l w x X fs tge hs σ0 e σ'
    | .inr G' => ∃ σ' M', F_118 N t (nI k) (nI i) σ = some (0, σ') ∧ KXs t n l w x X fs tge hs vs σ0 σ' M' ∧ Sta M M' ∧ KGh σ' (cnt x.1 3) k G' := by
  have ht := H.1
  have hN : 1000000 < N := H.2.1
  have hn : n ≤ 24600 := H.2.2.1
  have hv := hvs.vv H.2.2.2.2.2.2.2.1
  obtain ⟨km, cs, sq, -⟩ := id h.1
  obtain ⟨c1, c2, c3, ⟨e, c4, c5⟩, c6⟩ := km.2.2.2.2.2 i c hc
  have il := rev_lt hc
  have n60 := sq.2.2.1.2.2
  have e15 : gE σ (t + 15) (nI i).toNatClampNeg = nI (hs i) := by rw [nI_clamp (by omega)]; exact sq.2.2.2.2.2 i il
  have l15 : gN σ (t + 15) = 60 := sq.1.2.2.2.2.2.1
  have e5 : gE σ (t + 5) (nI (hs i)).toNatClampNeg = nI e := (cs.g (c := 3) (by decide) c1).trans c4
  have K := ks_ev H hv h c5 (by decide)
  have st : F_118 N t (nI k) (nI i) σ = (F_70 N t (nI e) σ).bind fun p_3 =>
      if p_3.1 = 0 then
        (F_117 N t (nI e) (p_3.2)).bind fun p_5 =>
        if p_5.1 = 0 then
          some (0, p_5.2)
        else
          if aB (nI (hs i)) (gN p_5.2 (t + 4)) then
          if aB (nI k) (gN p_5.2 55) then
          if (gE (p_5.2) 55 (nI k).toNatClampNeg) = 0 then
            (F_119 N t (nI (hs i)) (st_e (p_5.2) 55 ((nI k).toNatClampNeg) (gE (p_5.2) (t + 4) (nI (hs i)).toNatClampNeg))).bind fun p_10 =>
            if p_10.1 = 0 then
              (F_121 N (nI k) (nI i) (p_10.2)).bind fun p_12 =>
              if aB (nI (hs i)) (gN p_12 (t + 6)) then
              L_118 N t N (nI (hs i)) p_10.1 (gE (p_12) (t + 6) (nI (hs i)).toNatClampNeg) 0 (p_12)
              else none
            else
              some (p_10.1, p_10.2)
          else
            if (gE (p_5.2) 55 (nI k).toNatClampNeg) = (gE (p_5.2) (t + 4) (nI (hs i)).toNatClampNeg) then
              (F_119 N t (nI (hs i)) (st_e (p_5.2) 55 ((nI k).toNatClampNeg) (gE (p_5.2) (t + 4) (nI (hs i)).toNatClampNeg))).bind fun p_15 =>
              if p_15.1 = 0 then
                (F_121 N (nI k) (nI i) (p_15.2)).bind fun p_17 =>
                if aB (nI (hs i)) (gN p_17 (t + 6)) then
                L_118 N t N (nI (hs i)) p_15.1 (gE (p_17) (t + 6) (nI (hs i)).toNatClampNeg) 0 (p_17)
                else none
              else
                some (p_15.1, p_15.2)
            else
              if aB (nI (hs i)) (gN p_5.2 (t + 3)) then
              (F_116 N 13 (gE (p_5.2) (t + 3) (nI (hs i)).toNatClampNeg) (p_5.2)).bind fun p_20 =>
              some (p_20.1, p_20.2)
              else none
          else none
          else none
      else
        (F_116 N p_3.1 (gI p_3.2 42 6) (p_3.2)).bind fun p_21 =>
        some (p_21.1, p_21.2) := by
    unfold F_118
    rw [if_pos (show aB (nI i) (gN σ (t + 15)) by rw [l15]; exact aB_nI (by omega) (by decide)), e15, if_pos (show aB (nI (hs i)) (gN σ (t + 5)) from cs.a (c := 3) (by decide) c1), e5]
  rw [st]
  unfold xco
  cases hev : exv l w x.1 vs (gdr c.2.2) with
  | inl er =>
    rw [hev] at K
    rw [sbd_l]
    obtain ⟨s, k1, k2, k3⟩ := K
    refine ⟨_, ?_, k2⟩
    rw [k1, ob_some]
    dsimp only
    rw [if_neg k3]
    rfl
  | inr v =>
    rw [hev] at K
    rw [sbd_r]
    obtain ⟨ok, s, M1, k1, k2, k3, k4, k5⟩ := K
    have fM : ∀ y, 53 ≤ y → y ∉ [t + 7, t + 8, t + 9, 44, 45] := fun y z => by simp only [List.mem_cons, List.not_mem_nil, or_false]; omega
    have f17 := F117 (N := N) (kd := 2) k2 (c5.sta k4) k3 ok
    obtain ⟨P, ow, cf, ⟨C, cm, bf⟩, B⟩ := G
    obtain ⟨hP, hT, hC, hB⟩ := hG
    have hP : KPt s (cnt x.1 3) P := hP.fr k5.1 (by simp) ⟨fM _ (by decide), fM _ (by decide), fM _ (by decide), fM _ (by decide)⟩ (by rw [k5.2.1])
    have hT : KSt s k ow cf C P.1 := hT.fr k5.1 (fM _ (by decide)) (fM _ (by decide)) (by simp)
    have hC : KCm s (C, cm, bf) B.1 := hC.fr k5.1 (by simp) ⟨fM _ (by decide), fM _ (by decide)⟩
    have hB : KBr s B := hB.fr k5.1 (by simp) ⟨fM _ (by decide), fM _ (by decide), fM _ (by decide)⟩
    obtain ⟨g1, g2, g3, g4, g5, g6, g7, g8, g9⟩ := id hI
    have g1 : k < P.1 := g1
    have g2 : P.1 ≤ 512 := g2
    have g4 : C ≤ B.1 := g4
    have g5 : B.1 ≤ 4096 := g5
    have g6 : ∀ j, j ≤ k → ow j ≤ 3 ∧ cf j ≤ C := g6
    rw [k1, ob_some]
    dsimp only
    rw [if_pos rfl, f17, ob_some]
    dsimp only
    by_cases cv : v.1 = 1
    · rw [if_pos cv, if_pos cv, if_neg (by decide)]
      have cs1 := k2.1.2.1
      have g4' : gE s (t + 4) (nI (hs i)).toNatClampNeg = nI (pwo w c) := (cs1.g (c := 2) (by decide) c1).trans (((k4 _).1 2 (by decide)).trans c3)
      have g3' : gE s (t + 3) (nI (hs i)).toNatClampNeg = nI (kP w c.2.1) := (cs1.g (c := 1) (by decide) c1).trans (((k4 _).1 1 (by decide)).trans c2)
      have ck : (nI k).toNatClampNeg = k := nI_clamp (by omega)
      have g55 : gE s 55 (nI k).toNatClampNeg = nI (ow k) := by rw [ck]; exact (hT.1 k (Nat.le_refl _)).1
      have n55 : k < gN s 55 ∧ gN s 55 ≤ 1024 := ⟨by have := hP.2.2.2.1.2.2.2.2; omega, hP.2.2.2.1.2.2.2.1⟩
      obtain ⟨s1, es1⟩ : ∃ s1, st_e s 55 k (nI (pwo w c)) = s1 := ⟨_, rfl⟩
      have es1' : st_e s 55 (nI k).toNatClampNeg (nI (pwo w c)) = s1 := by rw [ck]; exact es1
      have f1 : Fr 0 [] [] [] [55] [] s s1 := by rw [← es1]; exact Fr.e _ _ _ (by simp)
      have n1 : gN s1 = gN s := by rw [← es1]; rfl
      have o3 := (g6 k (Nat.le_refl _)).1
      have st2 : (if aB (nI (hs i)) (gN s (t + 4)) then
          if aB (nI k) (gN s 55) then
          if (gE s 55 (nI k).toNatClampNeg) = 0 then
            (F_119 N t (nI (hs i)) (st_e s 55 ((nI k).toNatClampNeg) (gE s (t + 4) (nI (hs i)).toNatClampNeg))).bind fun p_10 =>
            if p_10.1 = 0 then
              (F_121 N (nI k) (nI i) (p_10.2)).bind fun p_12 =>
              if aB (nI (hs i)) (gN p_12 (t + 6)) then
              L_118 N t N (nI (hs i)) p_10.1 (gE (p_12) (t + 6) (nI (hs i)).toNatClampNeg) 0 (p_12)
              else none
            else
              some (p_10.1, p_10.2)
          else
            if (gE s 55 (nI k).toNatClampNeg) = (gE s (t + 4) (nI (hs i)).toNatClampNeg) then
              (F_119 N t (nI (hs i)) (st_e s 55 ((nI k).toNatClampNeg) (gE s (t + 4) (nI (hs i)).toNatClampNeg))).bind fun p_15 =>
              if p_15.1 = 0 then
                (F_121 N (nI k) (nI i) (p_15.2)).bind fun p_17 =>
                if aB (nI (hs i)) (gN p_17 (t + 6)) then
                L_118 N t N (nI (hs i)) p_15.1 (gE (p_17) (t + 6) (nI (hs i)).toNatClampNeg) 0 (p_17)
                else none
              else
                some (p_15.1, p_15.2)
            else
              if aB (nI (hs i)) (gN s (t + 3)) then
              (F_116 N 13 (gE s (t + 3) (nI (hs i)).toNatClampNeg) s).bind fun p_20 =>
              some (p_20.1, p_20.2)
              else none
          else none
          else none) = if ow k = 0 ∨ ow k = pwo w c then ((F_119 N t (nI (hs i)) s1).bind fun p_10 =>
            if p_10.1 = 0 then
              (F_121 N (nI k) (nI i) (p_10.2)).bind fun p_12 =>
              if aB (nI (hs i)) (gN p_12 (t + 6)) then
              L_118 N t N (nI (hs i)) p_10.1 (gE (p_12) (t + 6) (nI (hs i)).toNatClampNeg) 0 (p_12)
              else none
            else
              some (p_10.1, p_10.2)) else some (nI 13, st_i s 62 8 (nI (kP w c.2.1))) := by
        rw [if_pos (show aB (nI (hs i)) (gN s (t + 4)) from cs1.a (c := 2) (by decide) c1), if_pos (show aB (nI k) (gN s 55) from aB_nI n55.1 (by omega)), g55, g4', es1', if_pos (show aB (nI (hs i)) (gN s (t + 3)) from cs1.a (c := 1) (by decide) c1), g3']
        by_cases c0 : ow k = 0
        · rw [if_pos (by rw [c0]; rfl), if_pos (Or.inl c0)]
        · rw [if_neg (show ¬ nI (ow k) = 0 from nik (m := 0) (by omega) (by decide) c0)]
          by_cases cp : ow k = pwo w c
          · rw [if_pos (by rw [cp]), if_pos (Or.inr cp)]
          · rw [if_neg (nik (by omega) (by have := (pwo_le w c).1; omega) cp), if_neg (fun z => z.elim c0 cp)]
            rfl
      rw [st2]
      unfold xcm
      by_cases co : ow k = 0 ∨ ow k = pwo w c
      · rw [if_pos co, if_pos (show (P, ow, cf, (C, cm, bf), B).2.1 k = 0 ∨ (P, ow, cf, (C, cm, bf), B).2.1 k = pwo w c from co)]
        have kx1 : KXs t n l w x X fs tge hs vs σ0 s1 M1 := ⟨k2.1.fr ht f1 (by simp) (by simp), k2.2.1.eq n1, Fr.t0 k2.2.2 (f1.mo (by simp) (by simp) (by simp) (by simp) (by simp))⟩
        have br := c6.sta k4
        have L := L119 (hd := hs i) H hv (bsr c.2.2).reverse 0 (M (hs i) 4) s1 M1 br (by rw [List.length_reverse]; have := hw.1; omega) kx1
        rw [List.length_reverse] at L
        have E1 : F_119 N t (nI (hs i)) s1 = L_119 N t N (nI (hs i)) (nI 0) (M (hs i) 4) (nI 0) s1 := by
          unfold F_119
          have cs2 := kx1.1.2.1
          rw [if_pos (show aB (nI (hs i)) (gN s1 (t + 6)) from cs2.a (c := 4) (by decide) c1), show gE s1 (t + 6) (nI (hs i)).toNatClampNeg = M (hs i) 4 from (cs2.g (c := 4) (by decide) c1).trans ((k4 _).1 4 (by decide))]
          rfl
        rw [E1]
        have b8 := hw.1
        have feq : ∀ R, (∀ f, L_119 N t (f + (bsr c.2.2).length + 1) (nI (hs i)) (nI 0) (M (hs i) 4) (nI 0) s1 = R) → L_119 N t N (nI (hs i)) (nI 0) (M (hs i) 4) (nI 0) s1 = R := fun R z => by
          have := z (N - (bsr c.2.2).length - 1)
          rw [show N - (bsr c.2.2).length - 1 + (bsr c.2.2).length + 1 = N by omega] at this
          exact this
        cases hx : xch l w x.1 vs (bsr c.2.2).reverse with
        | inl e' =>
          rw [hx] at L
          rw [sbd_l]
          obtain ⟨s2, q1, q2⟩ := L
          refine ⟨s2, ?_, q2⟩
          rw [feq _ q1, ob_some]
          dsimp only
          rw [if_neg q2.ne]
        | inr Ls =>
          rw [hx] at L
          rw [sbd_r]
          obtain ⟨q0, q0', s2, M2, q1, q2, q3, q4, q5, q6, q7⟩ := L
          have cs2 := q2.1.2.1
          have pl2 : M2 (hs i) 1 = nI (kP w c.2.1) := ((q3 _).1 1 (by decide)).trans (((k4 _).1 1 (by decide)).trans c2)
          have F := F120 (pl := kP w c.2.1) H q2 c1 pl2 (by omega) q0' (fun j hj => by have := q5 j hj; rw [Nat.zero_add] at this; exact this)
          rw [feq _ q1, Nat.zero_add, ← q0]
          cases hy : xlc (kP w c.2.1) Ls 1 with
          | inl e' =>
            rw [hy] at F
            rw [sbd_l]
            obtain ⟨s3, r1, r2⟩ := F
            refine ⟨s3, ?_, r2⟩
            rw [r1, ob_some, ob_some]
            dsimp only
            rw [if_neg r2.ne]
          | inr A =>
            rw [hy] at F
            rw [sbd_r]
            obtain ⟨F1, F2⟩ := F
            by_cases csm : xsm A Ls 0 = A
            · rw [if_pos csm, F1 csm, ob_some, ob_some]
              dsimp only
              rw [if_pos rfl]
              obtain ⟨a1, a2, a3, a4, -⟩ := chs_ok q0' (by omega) hy csm
              have fC : ∀ y, 53 ≤ y → y ≠ 63 → y ≠ 64 → y ∉ [44, 45, 63, 64, t + 7, t + 8, t + 9] := fun y z1 z2 z3 => by simp only [List.mem_cons, List.not_mem_nil, or_false]; omega
              have P2 : KPt s2 (cnt x.1 3) P := (hP.fr2 f1 (by simp) (by simp) (by rw [n1]; exact ⟨rfl, rfl, rfl⟩)).fr q6 (by simp) ⟨fC _ (by decide) (by decide) (by decide), fC _ (by decide) (by decide) (by decide), fC _ (by decide) (by decide) (by decide), fC _ (by decide) (by decide) (by decide)⟩ (by rw [q7])
              have C2 : KCm s2 (C, cm, bf) B.1 := (hC.fr f1 (by simp) (by simp)).fr q6 (by simp) ⟨fC _ (by decide) (by decide) (by decide), fC _ (by decide) (by decide) (by decide)⟩
              have B2 : KBr s2 B := (hB.fr f1 (by simp) (by simp)).fr q6 (by simp) ⟨fC _ (by decide) (by decide) (by decide), fC _ (by decide) (by decide) (by decide), fC _ (by decide) (by decide) (by decide)⟩
              have T1 : KSt s1 k (upv ow k (pwo w c)) cf C P.1 := by
                obtain ⟨w1, w2, w3, w4, w5⟩ := hT
                refine ⟨fun j hj => ?_, ?_, fun j a1 a2 => ?_, w4, w5.fr f1 (by simp)⟩
                · rw [(f1.2.2.2.1 56 (by simp)).2, ← es1, gE_e]
                  by_cases cj : j = k
                  · rw [if_pos ⟨rfl, cj⟩, cj, upv_s]
                    exact ⟨rfl, (w1 k (Nat.le_refl _)).2⟩
                  · rw [if_neg (fun z => cj z.2), upv_o _ _ cj]
                    exact w1 j hj
                · rw [(f1.2.2.2.1 56 (by simp)).2]; exact w2
                · rw [← es1, gE_e, if_neg (fun z => by omega)]; exact w3 j a1 a2
              have T2 : KSt s2 k (upv ow k (pwo w c)) cf C P.1 := T1.fr q6 (fC _ (by decide) (by decide) (by decide)) (fC _ (by decide) (by decide) (by decide)) (by simp)
              have gc2 := KXs.gc ht q2.b0 hq
              obtain ⟨s3, r1, r2, r3, r4, r5, r6⟩ := F121 (N := N) (i := i) (σ := s2) (K := (C, cm, bf)) (W := B.1) (by omega) q2.2.1 C2 B2.1 (by show C ≤ 4096; omega) (show P.1 ≤ gN s2 55 from P2.2.2.2.1.2.2.2.2) T2
              have r2 : KCm s3 (C + 1, upv cm C i, upv bf C B.1) B.1 := r2
              have r4 : KSt s3 k (upv ow k (pwo w c)) cf (C + 1) P.1 := r4
              have kx3 : KXs t n l w x X fs tge hs vs σ0 s3 M2 := ⟨q2.1.fr ht r6 (by simp) (by intro a z; simp only [List.mem_cons, List.not_mem_nil, or_false] at z; omega), r3, Fr.t0 q2.2.2 (r6.mo (by simp) (by simp) (by simp) (by intro a z; simp only [List.mem_cons, List.not_mem_nil, or_false] at z ⊢; omega) (by simp))⟩
              have n56 : gN s3 56 = gN s2 56 := by
                have y1 := r3.2.2.2.2.1.2.1
                have y2 := q2.2.1.2.2.2.2.1.2.1
                omega
              have P3 : KPt s3 (cnt x.1 3) P := P2.fr2 r6 (by simp) (by simp) ⟨(r6.2.2.2.1 65 (by simp)).1, r5, n56⟩
              have B3 : KBr s3 B := B2.fr r6 (by simp) (by simp)
              have cs3 := kx3.1.2.1
              rw [r1, ob_some, if_pos (show aB (nI (hs i)) (gN s3 (t + 6)) from cs3.a (c := 4) (by decide) c1), show gE s3 (t + 6) (nI (hs i)).toNatClampNeg = M (hs i) 4 from (cs3.g (c := 4) (by decide) c1).trans (((q3 _).1 4 (by decide)).trans ((k4 _).1 4 (by decide)))]
              have eb : (C + 1, upv cm C i, upv bf C B.1).2.2 ((C + 1, upv cm C i, upv bf C B.1).1 - 1) = B.1 := by
                show upv bf C B.1 (C + 1 - 1) = B.1
                rw [Nat.add_sub_cancel]
                exact upv_s _ _ _
              have Z := L118 (pl := kP w c.2.1) (K := (C + 1, upv cm C i, upv bf C B.1)) H hq hv c1 a1 a2 (by show 1 ≤ C + 1; omega) (bsr c.2.2).reverse Ls 0 (M (hs i) 4) s3 M2 (P, B) 0 (br.sta q3) (fun b hb => hw.2 b (List.mem_reverse.mp hb)) (by rw [List.length_reverse]; exact q0) (by rw [List.length_reverse]; omega) pl2 kx3 P3 B3 r2 (by rw [eb]; exact Nat.le_refl _) r4 (fun v hv => ⟨a3 v hv, q0' v hv⟩) (fun j hj => by
                rw [(r6.2.2.2.1 63 (by simp)).2, (r6.2.2.2.1 64 (by simp)).2]
                exact q5 j hj) (by rw [eb]; intro d z1 z2; have z2 : d < B.1 := z2; omega) (by omega)
              rw [eb] at Z
              rw [List.length_reverse] at Z
              have fe2 : ∀ R, (∀ f, L_118 N t (f + (bsr c.2.2).length + 1) (nI (hs i)) 0 (M (hs i) 4) (nI 0) s3 = R) → L_118 N t N (nI (hs i)) 0 (M (hs i) 4) 0 s3 = R := fun R z => by
                have := z (N - (bsr c.2.2).length - 1)
                rw [show N - (bsr c.2.2).length - 1 + (bsr c.2.2).length + 1 = N by omega] at this
                exact this
              cases hb : xbs l w x.1 (cnt x.1 3) vs (kP w c.2.1) B.1 ((bsr c.2.2).reverse.zip Ls) (P, B) with
              | inl e' =>
                rw [hb] at Z
                rw [sbd_l]
                obtain ⟨s4, z1, z2⟩ := Z
                exact ⟨s4, fe2 _ z1, z2⟩
              | inr sb =>
                rw [hb] at Z
                rw [sbd_r]
                obtain ⟨s4, M3, z1, z2, z3, z4, z5, z6, z7⟩ := Z
                exact ⟨s4, M3, fe2 _ z1, z2, k4.tr (q3.tr z3), z4, z7, z6, z5⟩
            · rw [if_neg csm]
              obtain ⟨s3, r1, r2⟩ := F2 csm
              refine ⟨s3, ?_, r2⟩
              rw [r1, ob_some, ob_some]
              dsimp only
              rw [if_neg (by decide)]
      · rw [if_neg co, if_neg (show ¬ ((P, ow, cf, (C, cm, bf), B).2.1 k = 0 ∨ (P, ow, cf, (C, cm, bf), B).2.1 k = pwo w c) from co)]
        exact ⟨_, rfl, (KFl.st (N := N) ht k2 (f := 13) (p := kP w c.2.1) (by decide)).2⟩
    · rw [if_neg cv, if_neg cv, if_pos rfl]
      exact ⟨s, M1, rfl, k2, k4, hP, hT, hC, hB⟩
end KP
