/-! the reference explores: the sets of a branch -/
theorem cl0 : (0 : Int32).toNatClampNeg = 0 := rfl
theorem aB_0 {n : Nat} (h1 : 0 < n) (h2 : n < 2 ^ 31) : aB 0 n := aB_nI (i := 0) h1 h2
/-- what a set may change -/
abbrev FS (σ σ' : st_S) : Prop := Fr 0 [(66, 16), (66, 17), (66, 23), (165, 1)] [] [] [166, 168, 184] [163, 164, 169, 170] σ σ'
section RS7
variable {N g n k : Nat} {σ σ0 σ' : st_S} {D : Nat → Nat → Int32} {w : List (Nat × Nat × Nat)} {l : List Int32} {X : Tx} {fa : Nat → Nat} {vs nx : Vl} {T : Tr}
theorem FW.fs (fr : FW σ σ') : FS σ σ' := fr.mo (fun _ q => q) (by simp) (by simp) (by intro a q; simp only [List.mem_cons, List.not_mem_nil, or_false] at q ⊢; omega) (fun _ q => q)
theorem FS.fx (fr : FS σ σ') : FX σ σ' := fr.mo (by intro a q; simp only [List.mem_cons, List.not_mem_nil, or_false] at q ⊢; rcases q with q | q | q | q <;> simp [q]) (by simp) (by simp) (by intro a q; simp only [List.mem_cons, List.not_mem_nil, or_false] at q ⊢; omega) (by intro a q; simp only [List.mem_cons, List.not_mem_nil, or_false] at q ⊢; omega)
/-- a fault is told while exploring -/
def XFl (g : Nat) (l : List Int32) (w : List (Nat × Nat × Nat)) (X : Tx) (n : Nat) (D : Nat → Nat → Int32) (fa : Nat → Nat) (σ0 : st_S) (e : Nat × Nat) (σ : st_S) : Prop := (5 ≤ e.1 ∧ e.1 ≤ 13) ∧ gI σ 66 16 = nI e.1 ∧ gI σ 66 17 = nI e.2 ∧ RX0 g l w X n D fa σ0 σ
theorem XFl.ne {e : Nat × Nat} (h : XFl g l w X n D fa σ0 e σ) : ¬ gI σ 66 16 = 0 := by
  have := h.1
  rw [h.2.1]
  exact nik (m := 0) (by omega) (by decide) (by omega)
theorem XFl.st (hg : g = 79 ∨ g = 115) (h : RX0 g l w X n D fa σ0 σ) (f p : Nat) (hf : 5 ≤ f ∧ f ≤ 13) : ∃ σ', F_165 N (nI f) (nI p) σ = some σ' ∧ XFl g l w X n D fa σ0 (f, p) σ' ∧ Fr 0 [(66, 16), (66, 17)] [] [] [] [] σ σ' := by
  have fr : Fr 0 [(66, 16), (66, 17)] [] [] [] [] σ (st_i (st_i σ 66 16 (nI f)) 66 17 (nI p)) := Fr.t0 (Fr.i _ _ (by simp)) (Fr.i _ _ (by simp))
  exact ⟨_, rfl, ⟨hf, rfl, rfl, h.eq hg (fr.mo (by intro a q; simp only [List.mem_cons, List.not_mem_nil, or_false] at q ⊢; rcases q with q | q <;> simp [q]) (by simp) (by simp) (by simp) (by simp)) rfl rfl rfl⟩, fr⟩
/-- a set -/
theorem F217 (G : XG N g l w X n σ0) (hv : Vv X.1 vs) (h : RXs g l w X n D fa vs σ0 σ) {j a : Nat} (hj : fnd l w X.1 (bw T - 3) = some j) (h3 : (X.1.getD j eN).2.1 = 3) (hR : RuR l w X.1 fa D n (kdn (X.1.getD j eN)) T a) (hx : ∀ v, v < cnt X.1 3 → gE σ 184 v = nx v) : match sbd (exv l w X.1 vs T) (fun v => xs1 l w X.1 T nx v) with
    | .inl e => ∃ σ', F_217 N g (nI (rnm X.1 j)) (nI a) (nI (kP w (bw T - 4))) σ = some σ' ∧ XFl g l w X n D fa σ0 e σ'
    | .inr nx' => ∃ σ', F_217 N g (nI (rnm X.1 j)) (nI a) (nI (kP w (bw T - 4))) σ = some σ' ∧ RXs g l w X n D fa vs σ0 σ' ∧ (∀ v, v < cnt X.1 3 → gE σ' 184 v = nx' v) ∧ FS σ σ' := by
  have K := rx_ev G hv h hR
  have hg := G.1
  have jl := fnd_lt hj
  have ej : vjx l w X.1 T = j := by unfold vjx; rw [hj]; rfl
  cases hev : exv l w X.1 vs T with
  | inl e =>
    rw [hev] at K
    rw [sbd_l]
    obtain ⟨s, k1, k2, k3, k4, k5⟩ := K
    have xf : XFl g l w X n D fa σ0 e s := ⟨by have := h.1.1.er hR hev; omega, k2, k3, k4⟩
    refine ⟨s, ?_, xf⟩
    unfold F_217
    rw [k1, ob_some, if_neg xf.ne]
  | inr v =>
    rw [hev] at K
    rw [sbd_r]
    obtain ⟨ok, s, k1, k2, k3, k4, k5⟩ := K
    obtain ⟨s0, sf, s7, sm⟩ := id k4
    obtain ⟨⟨t1, t2, t3, t4, t5⟩, sk, ⟨x1, x2, x3, x4, x5, x6, x7, x8, x9, x10, x11, x12⟩, -⟩ := id s0
    obtain ⟨n1, n2⟩ := (t3 j jl).2.2.1 h3
    obtain ⟨m1, m2, m3, m4, m5⟩ := t2.2.1 j jl h3
    have l18 : gN s (g + 18) = 12 := t4.2.1 _ (by omega) (by omega)
    have l19 : gN s (g + 19) = 12 := t4.2.1 _ (by omega) (by omega)
    have l20 : gN s (g + 20) = 12 := t4.2.1 _ (by omega) (by omega)
    have l63 : gN s 163 = 16400 := t4.2.2.2.2.1
    have l64 : gN s 164 = 16400 := t4.2.2.2.2.2.1
    have cl : (nI (rnm X.1 j)).toNatClampNeg = rnm X.1 j := nI_clamp (by omega)
    have e0 : ∀ R : Option st_S, J_217_46 N g (nI (rnm X.1 j)) (nI (kP w (bw T - 4))) s = R → (kdn (X.1.getD j eN) = 2 ∨ v.2 = 1) → F_217 N g (nI (rnm X.1 j)) (nI a) (nI (kP w (bw T - 4))) σ = R := fun R hJ hc => by
      unfold F_217
      rw [k1, ob_some, if_pos sf, if_pos (by rw [l18]; exact aB_nI n1 (by decide)), cl, n2]
      by_cases cb : (X.1.getD j eN).2.2.1 = true
      · rw [if_pos cb, if_neg (by decide)]
        exact hJ
      · rw [if_neg cb, if_pos rfl, if_pos (by rw [l64]; exact aB_0 (by decide) (by decide)), cl0, k3, if_pos ((ceq _ _).mpr (by
          rcases hc with z | z
          · unfold kdn at z
            rw [if_neg cb] at z
            omega
          · exact z))]
        exact hJ
    have eJ : J_217_46 N g (nI (rnm X.1 j)) (nI (kP w (bw T - 4))) s = if v.1 < (vlo X.1 j).toInt64 then F_165 N 12 (nI (kP w (bw T - 4))) s else if v.1 ≤ (vhi X.1 j).toInt64 then some (st_e s 184 (rnm X.1 j) v.1.toInt32) else F_165 N 12 (nI (kP w (bw T - 4))) s := by
      unfold J_217_46
      rw [if_pos (by rw [l63]; exact aB_0 (by decide) (by decide)), if_pos (by rw [l19]; exact aB_nI n1 (by decide)), if_pos (show aB (nI (rnm X.1 j)) (gN s (g + 20)) by rw [l20]; exact aB_nI n1 (by decide)), if_pos (show aB (nI (rnm X.1 j)) (gN s 184) by rw [x10]; exact aB_nI n1 (by decide)), cl, cl0, k2, m3, m4]
      simp only [clt, cle]
      rfl
    unfold xs1
    rw [ej]
    by_cases c1 : kdn (X.1.getD j eN) = 2 ∨ v.2 = 1
    · rw [if_pos c1]
      by_cases c2 : v.1 < (vlo X.1 j).toInt64 ∨ (vhi X.1 j).toInt64 < v.1
      · rw [if_pos c2]
        obtain ⟨s', z1, z2, z3⟩ := XFl.st (N := N) hg s0 12 (kP w (bw T - 4)) (by decide)
        refine ⟨s', e0 _ ?_ c1, z2⟩
        rw [eJ]
        by_cases c3 : v.1 < (vlo X.1 j).toInt64
        · rw [if_pos c3]; exact z1
        · rw [if_neg c3, if_neg (fun z => by
            rcases c2 with y | y
            · exact c3 y
            · exact Int64.lt_irrefl (Int64.lt_of_lt_of_le y z))]
          exact z1
      · rw [if_neg c2]
        have c3 : ¬ v.1 < (vlo X.1 j).toInt64 := fun z => c2 (Or.inl z)
        have c4 : v.1 ≤ (vhi X.1 j).toInt64 := Int64.not_lt.mp (fun z => c2 (Or.inr z))
        rw [if_neg c3, if_pos c4] at eJ
        have fr : FS s (st_e s 184 (rnm X.1 j) v.1.toInt32) := Fr.e s _ _ (by simp)
        have ev : vno X.1 j = rnm X.1 j := m2.symm
        refine ⟨_, e0 _ eJ c1, ⟨s0.eq hg (FS.fx fr) rfl rfl rfl, sf, s7, sm.1, sm.2⟩, fun u hu => ?_, Fr.t0 (FW.fs k5) fr⟩
        rw [gE_e, ev]
        by_cases cu : u = rnm X.1 j
        · rw [cu, if_pos ⟨rfl, rfl⟩, upv_s]
        · rw [if_neg (fun z => cu z.2), upv_o _ _ cu, (k5.2.2.2.1 184 (by decide)).2]
          exact hx u hu
    · rw [if_neg c1]
      obtain ⟨s', z1, z2, z3⟩ := XFl.st (N := N) hg s0 8 (kP w (bw T - 4)) (by decide)
      refine ⟨s', ?_, z2⟩
      have cb : ¬ (X.1.getD j eN).2.2.1 = true := fun z => c1 (Or.inl (by unfold kdn; rw [if_pos z]))
      unfold F_217
      rw [k1, ob_some, if_pos sf, if_pos (by rw [l18]; exact aB_nI n1 (by decide)), cl, n2, if_neg cb, if_pos rfl, if_pos (by rw [l64]; exact aB_0 (by decide) (by decide)), cl0, k3, if_neg (fun z => c1 (Or.inr ((ceq _ _).mp z)))]
      have z1 : F_165 N 8 (nI (kP w (bw T - 4))) s = some s' := z1
      rw [z1, ob_some]
end RS7
