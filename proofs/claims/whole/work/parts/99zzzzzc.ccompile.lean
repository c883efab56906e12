/-! the class compiles: which lengths stay -/
/-- all but the reader's and the code's -/
def Nkp (t : Nat) (σ σ' : st_S) : Prop := ∀ a, (a < 37 ∨ 41 < a) → (a < t + 2 ∨ t + 9 < a) → gN σ' a = gN σ a
section CPD
variable {N : Nat} {σ : st_S} {t n : Nat} {M : Nat → Nat → Int32} {l : List Int32} {w : List (Nat × Nat × Nat)}
theorem F15d (ht : t = 4 ∨ t = 20) (hN : 200000 < N) (ho : Ok l) (hq : gC σ + 400000 < vz_M0) (hw : Wd σ l) {Y : Xs} (hs : SJ σ t Y) (hL : LN σ t) (h72 : N72 σ) : match crd (kds l) c0 0 with
    | some e => ∃ σ', F_15 N t σ = some (1, σ') ∧ gI σ' 1 9 = nI (kP (wds l) e) ∧ e < (wds l).length ∧ FB t σ σ' ∧ Nkp t σ σ' ∧ gI σ' 2 1 = 0 ∧ ∃ X', SJ σ' t X'
    | none => ∃ I m, PI (wds l) I m ∧ kK (wds l) m = 0 ∧ m < (wds l).length ∧ match txt l (wds l) I m with
      | .inl e => ∃ σ', F_15 N t σ = some (nI e.1, σ') ∧ gI σ' 1 9 = nI e.2 ∧ FB t σ σ' ∧ Nkp t σ σ' ∧ gI σ' 2 1 = 0 ∧ ∃ X', SJ σ' t X'
      | .inr x => ∃ σ' n M X fs tge hs, F_15 N t σ = some (0, st_i (st_i (st_i (st_i (st_i (st_i (st_r (st_r σ' 1 5 t) 1 6 (24 - t)) 1 7 1) 1 8 0) 52 9 0) 52 10 0) 52 11 0) 52 12 0) ∧ gI σ' 1 9 = -1 ∧ TX σ' t n M l (wds l) x X fs tge hs ∧ FB t σ σ' ∧ Nkp t σ σ' ∧ gI σ' 2 1 = 0 ∧ ∃ X', SJ σ' t X' := by
  have hl := hw.2.2.2.1
  obtain ⟨σ1, r, f1, w1, ⟨p, rc⟩, fl⟩ := F16 (N := N) ht (by omega) ho hq hw hs
  have fb1 : FB t σ σ1 := Fr.t0 (Fr.r _ _ (by simp)) (FL.fb fl)
  have nk : Nkp t σ σ1 := fun a z1 z2 => (fl.2.2.2.1 a (by simp only [List.mem_cons, List.not_mem_nil, or_false]; omega)).1
  have SJi : ∀ {s : st_S} {X' : Xs} {a k : Nat} (v : Int32), a ≠ 36 → a ≠ t + 1 → SJ s t X' → SJ (st_i s a k v) t X' := fun {s X' a k} v h1 h2 hs => by
    obtain ⟨L, hL, z1, z2, z3, z4, z5, z6, z7⟩ := hs
    refine ⟨L, hL, fun j a1 a2 => ?_, ?_, z3, z4, Wa.fr (σ := s) (fun _ _ _ _ => rfl) z5, ⟨?_, z6.2⟩, z7⟩
    · rw [gI_i, if_neg (by omega)]; exact z1 j a1 a2
    · rw [gI_i, if_neg (by omega)]; exact z2
    · rw [gI_i, if_neg (by omega)]; exact z6.1
  cases hc : crd (kds l) c0 0 with
  | some e =>
    rw [hc] at rc
    obtain ⟨r0, -, ⟨q, q1, q2⟩, X', sj⟩ := rc
    dsimp only
    subst r0
    rw [Nat.sub_zero] at q1
    have lt : e < (wds l).length := (List.getElem?_eq_some_iff.mp q1).1
    refine ⟨st_i (st_i σ1 1 9 (gI σ1 2 4)) 2 1 0, ?_, ?_, lt, Fr.t0 fb1 (Fr.t0 (Fr.i _ _ (by simp)) (Fr.i _ _ (by simp))), nk, by rw [gI_i, if_pos ⟨rfl, rfl⟩], X', SJi _ (by omega) (by omega) (SJi _ (by omega) (by omega) sj)⟩
    · unfold F_15
      rw [f1, ob_some]
      rfl
    · rw [gI_i, if_neg (by simp), gI_i, if_pos ⟨rfl, rfl⟩, q2]
      unfold kP
      rw [List.getD_eq_getElem?_getD, q1]
      rfl
  | none =>
    rw [hc] at rc
    obtain ⟨r1, X', xr, sj⟩ := rc
    subst r1
    dsimp only
    have pz : PZ l (wds l) (up p 8 0, Y.2.1, 0, Y.2.2.2) c0 0 := by
      show PX l (wds l) (up p 8 0) Y.2.1 0 Y.2.2.2 0 0 [] false 0
      unfold PX
      rw [if_pos rfl]
      exact ⟨[], rfl, rfl⟩
    have lw := (ws_ok l l.length (skp l 0)).2
    have wo : wok (kds l) = true := (ws_ok l l.length (skp l 0)).1
    have lw : (wds l).length ≤ l.length + 1 := lw
    obtain ⟨I, m, x1, x2, x3, x4⟩ := px_all (l := l) (w := wds l) (wds_Pl hl) (by omega) (wds l) 0 c0 (up p 8 0, Y.2.1, 0, Y.2.2.2) X' rfl wo ⟨rfl, fun q => absurd q (by decide), fun _ => Nat.le_refl _, fun q => absurd rfl q⟩ rfl pz hc xr
    refine ⟨I, m, x1.pi, x2, x3, ?_⟩
    have cs : CS σ1 t X'.2.2.1 X'.2.2.2 := by
      obtain ⟨L, hL, z1, z2, z3, z4, z5, ⟨y1, y2, y3, y4, y5⟩, z7⟩ := sj
      exact ⟨y1, x4, fun c hc => by rw [y5 c hc]; exact ⟨y2, hL⟩, z7⟩
    have ln : LN σ1 t := by
      have g : ∀ a, (t + 10 ≤ a ∧ a ≤ t + 15 ∨ 43 ≤ a ∧ a ≤ 45) → gN σ1 a = gN σ a := fun a h => (fl.2.2.2.1 a (by simp only [List.mem_cons, List.not_mem_nil, or_false]; omega)).1
      obtain ⟨l10, l11, l12, l13, l14, l15, l43, l44, l45⟩ := hL
      exact ⟨(g _ (by omega)).trans l10, (g _ (by omega)).trans l11, (g _ (by omega)).trans l12, (g _ (by omega)).trans l13, (g _ (by omega)).trans l14, (g _ (by omega)).trans l15, (g _ (by omega)).trans l43, (g _ (by omega)).trans l44, (g _ (by omega)).trans l45⟩
    have n72 : N72 σ1 := by
      have g : ∀ a, 48 ≤ a ∧ a ≤ 51 → gN σ1 a = gN σ a := fun a h => (fl.2.2.2.1 a (by simp only [List.mem_cons, List.not_mem_nil, or_false]; omega)).1
      exact ⟨(g _ (by omega)).trans h72.1, (g _ (by omega)).trans h72.2.1, (g _ (by omega)).trans h72.2.2.1, (g _ (by omega)).trans h72.2.2.2⟩
    have K := F53c (N := N) ht hN (wds_Pw hl) wds_nv cs w1 ln n72 x1 (wds_end x2 x3)
    cases ht' : txt l (wds l) I m with
    | inl e =>
      rw [ht'] at K
      dsimp only at K ⊢
      obtain ⟨σ2, k1, k2, k3, k4⟩ := K
      have er := txt_er x1.pi ht'
      refine ⟨st_i (st_i σ2 1 9 (gI σ2 46 4)) 2 1 0, ?_, ?_, Fr.t0 fb1 (Fr.t0 (FH.fb k3) (Fr.t0 (Fr.i _ _ (by simp)) (Fr.i _ _ (by simp)))), fun a z1 z2 => (congrFun k4 a).trans (nk a z1 z2), by rw [gI_i, if_pos ⟨rfl, rfl⟩], ?_⟩
      · unfold F_15
        rw [f1, ob_some]
        dsimp only
        rw [if_neg (by decide), k1, ob_some]
        unfold J_15_58
        dsimp only
        rw [if_neg (show ¬ nI e.1 = 0 from nik (m := 0) (by omega) (by decide) (by omega))]
      · rw [gI_i, if_neg (by simp), gI_i, if_pos ⟨rfl, rfl⟩, k2]
      · obtain ⟨X'', s2⟩ := FH.sj ht k3 k4 sj
        exact ⟨X'', SJi _ (by omega) (by omega) (SJi _ (by omega) (by omega) s2)⟩
    | inr x =>
      rw [ht'] at K
      dsimp only at K ⊢
      obtain ⟨σ2, M2, X, fs, tge, hs2, k1, k2, k3, k4, k5⟩ := K
      have tx : TX σ2 t X'.2.2.1 M2 l (wds l) x X fs tge hs2 := ⟨k3.1, k3.2.2.1.2, k3.2.2.2.2⟩
      refine ⟨st_i (st_i σ2 1 9 (gI σ2 46 4)) 2 1 0, X'.2.2.1, M2, X, fs, tge, hs2, ?_, ?_, tx.fr (fun k a b => ?_) ?_ (fun a _ _ => ⟨rfl, rfl⟩) ⟨rfl, rfl, rfl⟩, Fr.t0 fb1 (Fr.t0 (FH.fb k4) (Fr.t0 (Fr.i _ _ (by simp)) (Fr.i _ _ (by simp)))), fun a z1 z2 => (congrFun k5 a).trans (nk a z1 z2), by rw [gI_i, if_pos ⟨rfl, rfl⟩], ?_⟩
      · unfold F_15
        rw [f1, ob_some]
        dsimp only
        rw [if_neg (by decide), k1, ob_some]
        rfl
      · rw [gI_i, if_neg (by simp), gI_i, if_pos ⟨rfl, rfl⟩, k2]
      · rw [gI_i, if_neg (by omega), gI_i, if_neg (by omega)]
      · rw [gI_i, if_neg (by omega), gI_i, if_neg (by omega)]
      · obtain ⟨X'', s2⟩ := FH.sj ht k4 k5 sj
        exact ⟨X'', SJi _ (by omega) (by omega) (SJi _ (by omega) (by omega) s2)⟩
end CPD
