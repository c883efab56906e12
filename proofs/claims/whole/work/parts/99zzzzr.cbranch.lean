/-! the class explores: a branch's values -/
/-- what a set may change in the class -/
abbrev FKs (t : Nat) (σ σ' : st_S) : Prop := Fr 0 [(42, 6)] [(42, 7), (42, 8)] [] [44, 45, 65, t + 7, t + 8, t + 9] [] σ σ'
section KB
variable {N t n : Nat} {l : List Int32} {w : List (Nat × Nat × Nat)} {x : Tx} {X fs hs : Nat → Nat} {tge : Int32} {M M' : Nat → Nat → Int32} {vs nx : Vl} {T : Tr} {kd e : Nat} {σ σ' σ0 : st_S}
theorem FM.ks (f : FM t σ σ') : FKs t σ σ' := f.1.mo (fun _ q => q) (fun _ q => q) (by simp) (by intro a q; simp only [List.mem_cons, List.not_mem_nil, or_false] at q ⊢; omega) (by simp)
/-- a value that was worked out, as the class has it -/
theorem va_7 {i : Nat} {v : Int64 × Int64} (h : Va M i v) (hk : okv kd v) : M i 7 = 1 ↔ (kd = 2 ∨ v.2 = 1) := by
  rcases hk with ⟨k, h1, h2, h3, h4⟩ | ⟨k, h1, h2⟩
  · have ok : okv 1 v := Or.inl ⟨rfl, h1, h2, h3, h4⟩
    have e := (h.num ok).2
    constructor
    · intro z
      rw [z] at e
      exact Or.inr e.symm
    · intro z
      rcases z with z | z
      · omega
      · rw [z] at e
        apply Int32.toInt_inj.mp
        rw [← Int32.toInt_toInt64, e]
        rfl
  · have ok : okv 2 v := Or.inr ⟨rfl, h1, h2⟩
    exact ⟨fun _ => Or.inl k, fun _ => (h.tru ok).1⟩
/-- the sets of a branch -/
theorem L122 (G : KGv N t n l w x) (hv : Vv x.1 vs) {l1 l2 l3 : Int32} : ∀ (S : List Tr) (i : Nat) (p : Int32) (σ : st_S) (M : Nat → Nat → Int32) (nx : Vl), SetsK l w x.1 X fs n M p S → i + S.length ≤ 12 → KXs t n l w x X fs tge hs vs σ0 σ M → (∀ v, v < cnt x.1 3 → gE σ 65 v = nx v) → match xst l w x.1 vs S nx with
    | .inl e => ∃ σ', (∀ f, L_122 N t (f + S.length + 1) l1 l2 l3 p (nI i) σ = some (nI e.1, σ')) ∧ KFl t n l w x X fs tge hs σ0 e σ'
    | .inr nx' => ∃ σ' M', (∀ f, L_122 N t (f + S.length + 1) l1 l2 l3 p (nI i) σ = J_122_236 N t l1 l2 l3 σ') ∧ KXs t n l w x X fs tge hs vs σ0 σ' M' ∧ Sta M M' ∧ (∀ v, v < cnt x.1 3 → gE σ' 65 v = nx' v) ∧ FKs t σ σ' ∧ gN σ' = gN σ := by
  have ht := G.1
  have hn : n ≤ 24600 := G.2.2.1
  intro S
  induction S with
  | nil =>
    intro i p σ M nx hS hi h hx
    have hS : p = -1 := hS
    refine ⟨σ, M, fun f => ?_, h, Sta.rf M, hx, Fr.rf σ, rfl⟩
    unfold L_122
    rw [hS]
    by_cases c : (12 : Int32) ≤ nI i
    · rw [if_pos c]
    · rw [if_neg c, if_pos (by decide)]
  | cons T S ih =>
    intro i p σ M nx hS hi h hx
    rw [List.length_cons] at hi
    obtain ⟨i0, e, q1, q2, q3, q4, q5, ⟨j, j1, j2, j3⟩, q6⟩ := hS
    have ej : vjx l w x.1 T = j := by unfold vjx; rw [j1]; rfl
    rw [ej] at q4
    have jl := fnd_lt j1
    have kd0 : kdn (x.1.getD j eN) ≠ 0 := by unfold kdn; split <;> decide
    obtain ⟨e1, en⟩ : 1 ≤ e ∧ e < n := by
      obtain ⟨a, m, r1, r2, -⟩ := j3
      have := tln_pos T
      omega
    have cs := h.1.2.1
    have K := ks_ev G hv h j3 kd0
    have st : ∀ f, L_122 N t (f + 1) l1 l2 l3 p (nI i) σ = (F_70 N t (nI e) σ).bind fun p_6 =>
          if p_6.1 = 0 then
            if aB (nI e) (gN p_6.2 (t + 4)) then
            if aB (gE (p_6.2) (t + 4) (nI e).toNatClampNeg) (gN p_6.2 (t + 8)) then
            if aB (nI i0) (gN p_6.2 (t + 4)) then
            if aB (gE (p_6.2) (t + 4) (nI e).toNatClampNeg) (gN p_6.2 (t + 9)) then
            if (gE (p_6.2) (t + 9) ((gE (p_6.2) (t + 4) (nI e).toNatClampNeg) : Int32).toNatClampNeg) = 1 then
              if aB (gE (p_6.2) (t + 4) (nI i0).toNatClampNeg) (gN p_6.2 (t + 10)) then
              if (gE (p_6.2) (t + 8) ((gE (p_6.2) (t + 4) (nI e).toNatClampNeg) : Int32).toNatClampNeg) < (gE (p_6.2) (t + 10) ((gE (p_6.2) (t + 4) (nI i0).toNatClampNeg) : Int32).toNatClampNeg) then
                J_122_192 N t (nI i0) (p_6.2)
              else
                if aB (gE (p_6.2) (t + 4) (nI i0).toNatClampNeg) (gN p_6.2 (t + 11)) then
                if (gE (p_6.2) (t + 8) ((gE (p_6.2) (t + 4) (nI e).toNatClampNeg) : Int32).toNatClampNeg) ≤ (gE (p_6.2) (t + 11) ((gE (p_6.2) (t + 4) (nI i0).toNatClampNeg) : Int32).toNatClampNeg) then
                  if aB (gE (p_6.2) (t + 4) (nI i0).toNatClampNeg) (gN p_6.2 65) then
                  if aB (nI i0) (gN p_6.2 (t + 6)) then
                  L_122 N t f l1 l2 l3 (gE (p_6.2) (t + 6) (nI i0).toNatClampNeg) (nI (i + 1)) (st_e (p_6.2) 65 (((gE (p_6.2) (t + 4) (nI i0).toNatClampNeg) : Int32).toNatClampNeg) (gE (p_6.2) (t + 8) ((gE (p_6.2) (t + 4) (nI e).toNatClampNeg) : Int32).toNatClampNeg))
                  else none
                  else none
                else
                  J_122_192 N t (nI i0) (p_6.2)
                else none
              else none
            else
              if aB (nI i0) (gN p_6.2 (t + 3)) then
              (F_116 N 8 (gE (p_6.2) (t + 3) (nI i0).toNatClampNeg) (p_6.2)).bind fun p_20 =>
              some (p_20.1, p_20.2)
              else none
            else none
            else none
            else none
            else none
          else
            (F_116 N p_6.1 (gI p_6.2 42 6) (p_6.2)).bind fun p_21 =>
            some (p_21.1, p_21.2) := fun f => by
      conv => lhs; unfold L_122
      rw [if_neg (show ¬ (12 : Int32) ≤ nI i from nle_nI (a := 12) (by omega) (by decide)), q1, if_neg (show ¬ nI i0 < 0 from fun z => by have := (nI_lti (b := 0) (by omega) (by decide)).mp z; omega), if_pos (show aB (nI i0) (gN σ (t + 5)) from cs.a (c := 3) (by decide) q2), show gE σ (t + 5) (nI i0).toNatClampNeg = nI e from (cs.g (c := 3) (by decide) q2).trans q5, nI_1]
    unfold xst
    cases hev : exv l w x.1 vs T with
    | inl er =>
      rw [hev] at K
      rw [sbd_l, sbd_l]
      obtain ⟨s, k1, k2, k3⟩ := K
      refine ⟨_, fun f => ?_, k2⟩
      rw [List.length_cons, show f + (S.length + 1) + 1 = f + S.length + 1 + 1 by omega, st, k1, ob_some]
      dsimp only
      rw [if_neg k3]
      rfl
    | inr v =>
      rw [hev] at K
      rw [sbd_r]
      obtain ⟨ok, s, M1, k1, k2, k3, k4, k5⟩ := K
      have cs1 := k2.1.2.1
      have sq1 := k2.1.2.2.1
      have c4 := (k4 i0).1
      have c4e := (k4 e).1
      obtain ⟨x12, s10, s11, s12, s13⟩ := sq1.2.2.2.1 j jl j2
      obtain ⟨l10, l11, l12, l13, l14, l15, l43, l44, l45⟩ := id sq1.1
      obtain ⟨a, m, r1, r2, r3, r4, r5, r6, r7, r8, -⟩ := j3
      have ge : gE s (t + 4) (nI e).toNatClampNeg = nI (e - 1) := (cs1.g (c := 2) (by decide) en).trans ((c4e 2 (by decide)).trans r7)
      have gx : gE s (t + 4) (nI i0).toNatClampNeg = nI (X j) := (cs1.g (c := 2) (by decide) q2).trans ((c4 2 (by decide)).trans q4)
      have g8 : gE s (t + 8) (nI (e - 1)).toNatClampNeg = v.1.toInt32 := (cs1.g (c := 6) (by decide) (by omega)).trans k3.1
      have g9 : gE s (t + 9) (nI (e - 1)).toNatClampNeg = M1 (e - 1) 7 := cs1.g (c := 7) (by decide) (by omega)
      have g6 : gE s (t + 6) (nI i0).toNatClampNeg = M1 i0 4 := cs1.g (c := 4) (by decide) q2
      have g3 : gE s (t + 3) (nI i0).toNatClampNeg = nI (kP w (bw T - 4)) := (cs1.g (c := 1) (by decide) q2).trans ((c4 1 (by decide)).trans q3)
      have cX : (nI (X j)).toNatClampNeg = X j := nI_clamp (by omega)
      have g10 : gE s (t + 10) (nI (X j)).toNatClampNeg = vlo x.1 j := by rw [cX]; exact s10
      have g11 : gE s (t + 11) (nI (X j)).toNatClampNeg = vhi x.1 j := by rw [cX]; exact s11
      have n65 : gN s 65 = 12 := k2.2.1.2.2.2.1
      have v9 := okv_9 ok
      have st2 : ∀ f, L_122 N t (f + 1) l1 l2 l3 p (nI i) σ = if M1 (e - 1) 7 = 1 then (if v.1.toInt32 < vlo x.1 j then J_122_192 N t (nI i0) s else if v.1.toInt32 ≤ vhi x.1 j then L_122 N t f l1 l2 l3 (M1 i0 4) (nI (i + 1)) (st_e s 65 (X j) v.1.toInt32) else J_122_192 N t (nI i0) s) else (F_116 N 8 (nI (kP w (bw T - 4))) s).bind fun p_20 => some (p_20.1, p_20.2) := fun f => by
        rw [st, k1, ob_some]
        dsimp only
        rw [if_pos rfl, if_pos (show aB (nI e) (gN s (t + 4)) from cs1.a (c := 2) (by decide) en), ge, gx, if_pos (show aB (nI (e - 1)) (gN s (t + 8)) from cs1.a (c := 6) (by decide) (by omega)), if_pos (show aB (nI i0) (gN s (t + 4)) from cs1.a (c := 2) (by decide) q2), if_pos (show aB (nI (e - 1)) (gN s (t + 9)) from cs1.a (c := 7) (by decide) (by omega)), g9, if_pos (show aB (nI (X j)) (gN s (t + 10)) by rw [l10]; exact aB_nI x12 (by decide)), if_pos (show aB (nI (X j)) (gN s (t + 11)) by rw [l11]; exact aB_nI x12 (by decide)), if_pos (show aB (nI (X j)) (gN s 65) by rw [n65]; exact aB_nI x12 (by decide)), if_pos (show aB (nI i0) (gN s (t + 6)) from cs1.a (c := 4) (by decide) q2), if_pos (show aB (nI i0) (gN s (t + 3)) from cs1.a (c := 1) (by decide) q2), g8, g10, g11, g6, g3, cX]
      have eJ : J_122_192 N t (nI i0) s = some (nI 12, st_i s 62 8 (nI (kP w (bw T - 4)))) := by
        unfold J_122_192
        rw [if_pos (show aB (nI i0) (gN s (t + 3)) from cs1.a (c := 1) (by decide) q2), g3]
        rfl
      have v7 := va_7 k3 ok
      unfold xs1
      rw [ej]
      by_cases c1 : kdn (x.1.getD j eN) = 2 ∨ v.2 = 1
      · rw [if_pos c1]
        by_cases c2 : v.1 < (vlo x.1 j).toInt64 ∨ (vhi x.1 j).toInt64 < v.1
        · rw [if_pos c2, sbd_l]
          refine ⟨_, fun f => ?_, (KFl.st (N := N) ht k2 (f := 12) (p := kP w (bw T - 4)) (by decide)).2⟩
          rw [List.length_cons, show f + (S.length + 1) + 1 = f + S.length + 1 + 1 by omega, st2, if_pos (v7.mpr c1), eJ]
          by_cases c3 : v.1.toInt32 < vlo x.1 j
          · rw [if_pos c3]
          · rw [if_neg c3, if_neg (fun z => by
              rcases c2 with y | y
              · exact c3 ((c32 v9 _).1.mpr y)
              · exact Int64.lt_irrefl (Int64.lt_of_lt_of_le y ((c32 v9 _).2.mp z)))]
        · rw [if_neg c2, sbd_r]
          have d1 : ¬ v.1.toInt32 < vlo x.1 j := fun z => c2 (Or.inl ((c32 v9 _).1.mp z))
          have d2 : v.1.toInt32 ≤ vhi x.1 j := (c32 v9 _).2.mpr (Int64.not_lt.mp (fun z => c2 (Or.inr z)))
          have fr : Fr 0 [] [] [] [65] [] s (st_e s 65 (X j) v.1.toInt32) := Fr.e _ _ _ (by simp)
          have xv : vno x.1 j = X j := (k2.1.1.1.1 j jl j2).2.symm
          have kx3 : KXs t n l w x X fs tge hs vs σ0 (st_e s 65 (X j) v.1.toInt32) M1 := ⟨k2.1.fr ht fr (by simp) (by simp), k2.2.1.eq rfl, Fr.t0 k2.2.2 (fr.mo (by simp) (by simp) (by simp) (by simp) (by simp))⟩
          have I := ih (i + 1) (M1 i0 4) (st_e s 65 (X j) v.1.toInt32) M1 (upv nx (vno x.1 j) v.1.toInt32) (by rw [c4 4 (by decide)]; exact q6.sta k4) (by omega) kx3 (fun u hu => by
            rw [gE_e, xv]
            by_cases cu : u = X j
            · rw [if_pos ⟨rfl, cu⟩, cu, upv_s]
            · rw [if_neg (fun z => cu z.2), upv_o _ _ cu, (k5.1.2.2.2.1 65 (by simp only [List.mem_cons, List.not_mem_nil, or_false]; omega)).2]
              exact hx u hu)
          have st3 : ∀ f, L_122 N t (f + 1) l1 l2 l3 p (nI i) σ = L_122 N t f l1 l2 l3 (M1 i0 4) (nI (i + 1)) (st_e s 65 (X j) v.1.toInt32) := fun f => by rw [st2, if_pos (v7.mpr c1), if_neg d1, if_pos d2]
          cases hx2 : xst l w x.1 vs S (upv nx (vno x.1 j) v.1.toInt32) with
          | inl e' =>
            rw [hx2] at I
            obtain ⟨s', i1, i2⟩ := I
            refine ⟨s', fun f => ?_, i2⟩
            rw [List.length_cons, show f + (S.length + 1) + 1 = f + S.length + 1 + 1 by omega, st3, i1]
          | inr nx2 =>
            rw [hx2] at I
            obtain ⟨s', M2, i1, i2, i3, i4, i5, i6⟩ := I
            refine ⟨s', M2, fun f => ?_, i2, k4.tr i3, i4, Fr.t0 (FM.ks k5) (Fr.t0 (fr.mo (by simp) (by simp) (by simp) (by simp) (by simp)) i5), i6.trans k5.2.1⟩
            rw [List.length_cons, show f + (S.length + 1) + 1 = f + S.length + 1 + 1 by omega, st3, i1]
      · rw [if_neg c1, sbd_l]
        refine ⟨_, fun f => ?_, (KFl.st (N := N) ht k2 (f := 8) (p := kP w (bw T - 4)) (by decide)).2⟩
        rw [List.length_cons, show f + (S.length + 1) + 1 = f + S.length + 1 + 1 by omega, st2, if_neg (fun z => c1 (v7.mp z))]
        rfl
end KB
