/-! the class explores -/
section KR
variable {N t n : Nat} {l : List Int32} {w : List (Nat × Nat × Nat)} {x : Tx} {X fs hs : Nat → Nat} {tge : Int32} {M M' : Nat → Nat → Int32} {σ σ' σ0 : st_S} {k : Nat} {G : Gsh} {tg : Tr}
/-- the end of exploring -/
def KEn (t n : Nat) (l : List Int32) (w : List (Nat × Nat × Nat)) (x : Tx) (X fs : Nat → Nat) (tge : Int32) (hs : Nat → Nat) (σ0 : st_S) (o : (Nat × Nat × Nat) ⊕ Gsh) (r : Option st_S) : Prop := match o with
  | .inl e => (5 ≤ e.1 ∧ e.1 ≤ 13) ∧ ∃ σ', r = some σ' ∧ gI σ' 62 7 = nI e.1 ∧ gI σ' 62 8 = nI e.2.1 ∧ gI σ' 62 9 = nI e.2.2 ∧ (gI σ' 52 9 = 0 ∧ gI σ' 52 10 = 0 ∧ gI σ' 52 11 = 0 ∧ gI σ' 52 12 = 0) ∧ KB0 t n l w x X fs tge hs σ0 σ'
  | .inr G' => ∃ σ', r = some σ' ∧ gI σ' 62 7 = 0 ∧ gI σ' 62 8 = -1 ∧ gI σ' 62 9 = -1 ∧ KB0 t n l w x X fs tge hs σ0 σ' ∧ KGk σ' (cnt x.1 3) G'.1.1 G' ∧ GJ x.1 G'.1.1 G'
theorem KB0.fr (ht : t = 4 ∨ t = 20) (h : KB0 t n l w x X fs tge hs σ0 σ) {I : List (Nat × Nat)} (fr : Fr 0 I [] [] [] [] σ σ') (hI : ∀ q ∈ I, q ∈ [(42, 5), (42, 6), (52, 9), (52, 10), (52, 11), (52, 12), (62, 7), (62, 8), (62, 9)]) : KB0 t n l w x X fs tge hs σ0 σ' := by
  obtain ⟨⟨M, km, c1, c2, c3, c4⟩, ⟨b0, ⟨b1, b2, b3, b4, b5⟩, c, s5, s6, s7⟩, ln, fx⟩ := h
  have gn : gN σ' = gN σ := funext fun a => (fr.2.2.2.1 a (by simp)).1
  have ge : gE σ' = gE σ := funext fun a => (fr.2.2.2.1 a (by simp)).2
  have gi : ∀ a j, a ≠ 42 → a ≠ 52 → a ≠ 62 → gI σ' a j = gI σ a j := fun a j z1 z2 z3 => fr.1 a j (fun q => by
    have := hI _ q
    simp only [List.mem_cons, List.not_mem_nil, or_false, Prod.mk.injEq] at this
    omega)
  refine ⟨⟨M, km, (gi _ _ (by omega) (by omega) (by omega)).trans c1, c2, by rw [gn]; exact c3, by rw [ge]; exact c4⟩, ?_, ln.eq gn, Fr.t0 fx (fr.mo hI (by simp) (by simp) (by simp) (by simp))⟩
  unfold SQ LN
  rw [gn, ge, gi t 7 (by omega) (by omega) (by omega), gi t 8 (by omega) (by omega) (by omega), gi t 9 (by omega) (by omega) (by omega), gi t 10 (by omega) (by omega) (by omega), gi t 11 (by omega) (by omega) (by omega)]
  exact ⟨b0, ⟨b1, b2, b3, b4, b5⟩, c, s5, s6, s7⟩
theorem L108 (H : KGv N t n l w x) (hq : gC σ0 + 50000 < vz_M0) (hw : ∀ c ∈ x.2.2, CmW c) (htg : x.2.1 = some tg) : ∀ (f k : Nat) (σ : st_S) (G : Gsh), k + f = 512 → KB0 t n l w x X fs tge hs σ0 σ → gI σ 62 7 = 0 → KGk σ (cnt x.1 3) k G → GJ x.1 k G → ∀ f', KEn t n l w x X fs tge hs σ0 (xal l w x.1 (cnt x.1 3) tg x.2.2.reverse f k G) (L_108 N t (f' + f + 1) (nI k) σ) := by
  have ht := H.1
  have fin : ∀ (k : Nat) (σ : st_S) (G : Gsh), KB0 t n l w x X fs tge hs σ0 σ → gI σ 62 7 = 0 → KGk σ (cnt x.1 3) k G → GJ x.1 k G → ¬ k < G.1.1 → ∀ f', KEn t n l w x X fs tge hs σ0 (.inr G) (L_108 N t (f' + 1) (nI k) σ) := by
    intro k σ G h h7 hG hJ hk f'
    have ek : k = G.1.1 := by have := hJ.1; omega
    refine ⟨σ, ?_, h7, hG.2.1.2.2.2.2.1, hG.2.1.2.2.2.2.2, h, by rw [← ek]; exact hG, by rw [← ek]; exact hJ⟩
    unfold L_108
    by_cases c : (512 : Int32) ≤ nI k
    · rw [if_pos c]
    · rw [if_neg c, hG.1.2.1, ek, if_pos (Int32.le_refl _)]
  intro f
  induction f with
  | zero =>
    intro k σ G hk h h7 hG hJ f'
    have := hJ.2.2.1
    exact fin k σ G h h7 hG hJ (by omega) f'
  | succ f ih =>
    intro k σ G hk h h7 hG hJ f'
    unfold xal
    by_cases c : k < G.1.1
    · rw [if_pos c]
      have S5 := hJ.2.2.1
      have K := F114 H hq hw htg h c hG hJ
      have st : ∀ f', L_108 N t (f' + 1) (nI k) σ = (F_114 N t (nI k) σ).bind fun p_6 =>
          if p_6.1 = 0 then
            L_108 N t f' (nI (k + 1)) (st_i (p_6.2) 62 7 p_6.1)
          else
            (F_91 N (st_i (st_i (p_6.2) 62 7 p_6.1) 62 9 (nI k))).bind fun p_8 =>
            some (p_8) := fun f' => by
        conv => lhs; unfold L_108
        rw [if_neg (show ¬ (512 : Int32) ≤ nI k from nle_nI (a := 512) (by omega) (by decide)), hG.1.2.1, if_neg (nle_nI c (by omega)), nI_1]
      rw [show f' + (f + 1) + 1 = f' + f + 1 + 1 by omega, st]
      cases hx : xen l w x.1 (cnt x.1 3) k tg x.2.2.reverse G with
      | inl e =>
        rw [hx] at K
        obtain ⟨s, k1, k2⟩ := K
        obtain ⟨s', es⟩ : ∃ s', st_i (st_i (st_i (st_i (st_i (st_i s 62 7 (nI e.1)) 62 9 (nI k)) 52 9 0) 52 10 0) 52 11 0) 52 12 0 = s' := ⟨_, rfl⟩
        have fr : Fr 0 [(62, 7), (62, 9), (52, 9), (52, 10), (52, 11), (52, 12)] [] [] [] [] s s' := by
          rw [← es]
          iterate 5 refine Fr.t0 ?_ (Fr.i _ _ (by simp))
          exact Fr.i _ _ (by simp)
        refine ⟨k2.1, s', ?_, by rw [← es]; rfl, ?_, by rw [← es]; rfl, by rw [← es]; exact ⟨rfl, rfl, rfl, rfl⟩, k2.2.2.fr ht fr (by intro q z; simp only [List.mem_cons, List.not_mem_nil, or_false] at z ⊢; rcases z with z | z | z | z | z | z <;> simp [z])⟩
        · rw [k1, ob_some]
          dsimp only
          rw [if_neg k2.ne, ← es]
          rfl
        · rw [fr.1 62 8 (by simp)]; exact k2.2.1
      | inr G' =>
        rw [hx] at K
        obtain ⟨s, k1, k2, k3, k4⟩ := K
        have fr : Fr 0 [(62, 7)] [] [] [] [] s (st_i s 62 7 0) := Fr.i _ _ (by simp)
        have G3 : KGk (st_i s 62 7 0) (cnt x.1 3) (k + 1) G' := ⟨k3.1.fr fr (by simp) (by simp) rfl, k3.2.1, k3.2.2.1.fr fr (by simp) (by simp), k3.2.2.2.fr fr (by simp) (by simp)⟩
        have I := ih (k + 1) (st_i s 62 7 0) G' (by omega) (k2.fr ht fr (by simp)) rfl G3 k4 f'
        rw [k1, ob_some]
        dsimp only
        rw [if_pos rfl]
        exact I
    · rw [if_neg c]
      exact fin k σ G h h7 hG hJ c _
theorem F111b {V : Nat} {nx : Vl} (hN : 1000 < N) (hV : V ≤ 12) (h9 : gI σ 52 9 = nI V) (h65 : gN σ (t + 12) = 12) (hx : ∀ v, v < V → gE σ (t + 12) v = nx v) : F_111b N t σ = some (nI (hsh V nx), σ) := by
  have L : ∀ (r v : Nat) (z : Int32), v + r = V → ∀ f, L_111b N t (f + r + 1) z (nI v) σ = some (hmx (hfd nx r v z), σ) := by
    intro r
    induction r with
    | zero =>
      intro v z hv f
      rw [Nat.add_zero] at hv
      subst hv
      unfold L_111b
      rw [h9, if_pos (Int32.le_refl _)]
      rfl
    | succ r ih =>
      intro v z hv f
      rw [show f + (r + 1) + 1 = f + r + 1 + 1 by omega]
      conv => lhs; unfold L_111b
      rw [h9, if_neg (nle_nI (by omega) (by omega)), if_pos (by rw [h65]; exact aB_nI (by omega) (by decide)), nI_clamp (by omega), hx v (by omega), nI_1]
      have e : hfd nx (r + 1) v z = hfd nx r (v + 1) (hst z (nx v)) := by conv => lhs; unfold hfd
      rw [e]
      exact ih (v + 1) (hst z (nx v)) (by omega) f
  unfold F_111b
  have := L V 0 0 (by omega) (N - V - 1)
  rw [show N - V - 1 + V + 1 = N by omega] at this
  rw [(hsh_ok V nx).1]
  exact this
theorem nzs_0 {tab : Nat → Nat} (h : ∀ p, tab p = 0) : ∀ m, nzs tab m = 0 := by
  intro m
  induction m with
  | zero => rfl
  | succ m ih =>
    show nzs tab m + (if tab m = 0 then 0 else 1) = 0
    rw [ih, if_pos (h m)]
theorem fl_in {σ : st_S} {a j : Nat} {v : Int32} (h : j < gN σ a) : gE (st_fl σ a v) a j = v := by
  show va_up (gE σ) a (fun i => if i < gN σ a then v else gE σ a i) a j = v
  unfold va_up
  rw [if_pos rfl, if_pos h]
theorem fl_out {σ : st_S} {a b : Nat} (v : Int32) (h : b ≠ a) : gE (st_fl σ a v) b = gE σ b := by
  show va_up (gE σ) a _ b = gE σ b
  unfold va_up
  rw [if_neg h]
/-- the class explores a text -/
theorem F108 (H : KGv N t n l w x) (hq : gC σ + 60000 < vz_M0) (hw : ∀ c ∈ x.2.2, CmW c) (htg : x.2.1 = some tg) (h : KB0 t n l w x X fs tge hs σ σ) : KEn t n l w x X fs tge hs σ (xex l w x tg) (F_108 N t σ) := by
  have ht := H.1
  have hN : 1000000 < N := H.2.1
  obtain ⟨v1, v2, v3, v4, v5⟩ := H.2.2.2.2
  obtain ⟨⟨M, km, cs⟩, sq, ln, fx⟩ := id h
  obtain ⟨l10, l11, l12, l13, l14, l15, l43, l44, l45⟩ := id sq.1
  obtain ⟨m53, m63, m64, m65, ⟨m54, m56, m55, m55'⟩, m58, m59⟩ := id ln
  have hV : cnt x.1 3 ≤ 12 := sq.2.2.1.1
  have e7 : gI σ t 7 = nI (cnt x.1 3) := sq.2.1.1
  -- where it begins
  obtain ⟨s1, es1⟩ : ∃ s1, st_i (st_fl (st_i (st_r (st_r (st_i (st_i (st_i (st_r (st_r σ 62 5 t) 62 6 (t + 1)) 62 7 0) 62 8 (-1)) 62 9 (-1)) 42 3 t) 42 4 (t + 1)) 42 5 1) 44 0) 52 9 0 = s1 := ⟨_, rfl⟩
  obtain ⟨s2, es2⟩ : ∃ s2, st_fl (st_i (st_i (st_i (st_i s1 52 10 0) 52 11 0) 52 12 0) 52 9 (nI (cnt x.1 3))) 53 0 = s2 := ⟨_, rfl⟩
  have f2 : Fr 0 [(42, 5), (52, 9), (52, 10), (52, 11), (52, 12), (62, 7), (62, 8), (62, 9)] [] [(42, 3), (42, 4), (62, 5), (62, 6)] [44, 53] [] σ s2 := by
    rw [← es2, ← es1]
    refine Fr.t0 ?_ (Fr.fl _ _ (by simp))
    iterate 5 refine Fr.t0 ?_ (Fr.i _ _ (by simp))
    refine Fr.t0 ?_ (Fr.fl _ _ (by simp))
    refine Fr.t0 ?_ (Fr.i _ _ (by simp))
    refine Fr.t0 ?_ (Fr.r _ _ (by simp))
    refine Fr.t0 ?_ (Fr.r _ _ (by simp))
    iterate 3 refine Fr.t0 ?_ (Fr.i _ _ (by simp))
    refine Fr.t0 ?_ (Fr.r _ _ (by simp))
    exact Fr.r _ _ (by simp)
  have n2 : gN s2 = gN σ := by rw [← es2, ← es1]; rfl
  have i2 : gI s2 52 9 = nI (cnt x.1 3) ∧ gI s2 52 10 = 0 ∧ gI s2 52 11 = 0 ∧ gI s2 52 12 = 0 ∧ gI s2 62 7 = 0 ∧ gI s2 62 8 = -1 ∧ gI s2 62 9 = -1 := by
    rw [← es2, ← es1]
    exact ⟨rfl, rfl, rfl, rfl, rfl, rfl, rfl⟩
  have g53 : ∀ j, j < 1024 → gE s2 53 j = 0 := fun j hj => by
    rw [← es2]
    refine fl_in ?_
    show j < gN s1 53
    rw [← es1]; exact m53.symm ▸ hj
  have g44 : ∀ j, j < 60 → gE s2 44 j = 0 := fun j hj => by
    have : gE s2 44 j = gE s1 44 j := by rw [← es2]; exact congrFun (fl_out _ (by decide)) j
    rw [this, ← es1]
    refine fl_in (σ := st_i (st_r (st_r (st_i (st_i (st_i (st_r (st_r σ 62 5 t) 62 6 (t + 1)) 62 7 0) 62 8 (-1)) 62 9 (-1)) 42 3 t) 42 4 (t + 1)) 42 5 1) ?_
    show j < gN σ 44
    rw [l44]; exact hj
  have ga : ∀ a, a ≠ 44 → a ≠ 53 → gE s2 a = gE σ a := fun a z1 z2 => (f2.2.2.2.1 a (by simp only [List.mem_cons, List.not_mem_nil, or_false]; omega)).2
  have gi : ∀ a j, a ≠ 42 → a ≠ 52 → a ≠ 62 → gI s2 a j = gI σ a j := fun a j z1 z2 z3 => f2.1 a j (by simp only [List.mem_cons, List.not_mem_nil, or_false, Prod.mk.injEq]; omega)
  obtain ⟨a9, a10, a11, a12, b7, b8, b9⟩ := i2
  have hx : ∀ v, v < cnt x.1 3 → gE s2 (t + 12) v = vi0 x.1 v := fun v hv => by
    rw [ga (t + 12) (by omega) (by omega)]
    obtain ⟨j, j1, j2, j3⟩ := v1 v hv
    rw [← j3, vi0_at v2 j1 j2]
    have xj : X j = vno x.1 j := (km.1.1 j j1 j2).2
    rw [← xj]
    exact (sq.2.2.2.1 j j1 j2).2.2.2.1
  -- the first state
  obtain ⟨s3, es3⟩ : ∃ s3, st_e s2 53 (hsh (cnt x.1 3) (vi0 x.1)) (nI 1) = s3 := ⟨_, rfl⟩
  obtain ⟨s4, es4⟩ : ∃ s4, st_i (st_e (st_ac s3 (t + 12) 0 54 0 (cnt x.1 3)) 55 0 0) 52 10 (nI 1) = s4 := ⟨_, rfl⟩
  have hlt := (hsh_ok (cnt x.1 3) (vi0 x.1)).2
  have f3 : Fr 0 [] [] [] [53] [] s2 s3 := by rw [← es3]; exact Fr.e _ _ _ (by simp)
  have n3 : gN s3 = gN σ := by rw [← es3]; exact n2
  have f4 : Fr 0 [(52, 10)] [] [] [54, 55] [] s3 s4 := by rw [← es4]; exact Fr.t0 (ac_fr (by simp)) (Fr.t0 (Fr.e _ _ _ (by simp)) (Fr.i _ _ (by simp)))
  have n4 : gN s4 = gN σ := by
    rw [← es4]
    show gN (st_ac s3 (t + 12) 0 54 0 (cnt x.1 3)) = _
    rw [ac_N]; exact n3
  have h12' : ∀ v, v < cnt x.1 3 → gE s4 54 v = vi0 x.1 v := fun v hv => by
    have : gE s4 54 v = gE (st_ac s3 (t + 12) 0 54 0 (cnt x.1 3)) 54 v := by rw [← es4]; show gE (st_e (st_ac s3 (t + 12) 0 54 0 (cnt x.1 3)) 55 0 0) 54 v = _; rw [gE_e, if_neg (fun z => by omega)]
    rw [this, ac_E, if_pos ⟨Nat.zero_le _, by omega⟩, show 0 + (v - 0) = v by omega, (f3.2.2.2.1 (t + 12) (by simp only [List.mem_cons, List.not_mem_nil, or_false]; omega)).2]
    exact hx v hv
  have start : F_108 N t σ = L_108 N t N (nI 0) s4 := by
    have e55 : F_55 N t (st_i (st_i (st_i (st_r (st_r σ 62 5 t) 62 6 (t + 1)) 62 7 0) 62 8 (-1)) 62 9 (-1)) = some (st_fl (st_i (st_r (st_r (st_i (st_i (st_i (st_r (st_r σ 62 5 t) 62 6 (t + 1)) 62 7 0) 62 8 (-1)) 62 9 (-1)) 42 3 t) 42 4 (t + 1)) 42 5 1) 44 0) := F55s _ l44
    have e109 : ∀ s, st_i s 52 9 0 = s1 → F_109 N (nI (cnt x.1 3)) s = some s2 := fun s hs => by
      unfold F_109 F_91
      rw [ob_some]
      have g : gN (st_i (st_i (st_i (st_i s 52 9 0) 52 10 0) 52 11 0) 52 12 0) 53 = 1024 := by
        rw [hs]
        show gN s1 53 = _
        rw [← es1]; exact m53
      rw [if_pos (by rw [g]; decide), hs, es2]
    have e110 : F_110b N t s2 = some (nI 0, s4) := by
      unfold F_110b
      rw [F111b (by omega) hV a9 (by rw [n2]; exact l12) hx, ob_some]
      dsimp only
      rw [show N = N - 1 + 1 by omega]
      have c1024 : ¬ (1024 : Int32) ≤ 0 := by decide
      unfold L_110b
      have e53 : gE s2 53 (nI (hsh (cnt x.1 3) (vi0 x.1))).toNatClampNeg = 0 := by rw [nI_clamp (by omega)]; exact g53 _ hlt
      rw [if_neg c1024, if_pos (show aB (nI (hsh (cnt x.1 3) (vi0 x.1))) (gN s2 53) by rw [n2, m53]; exact aB_nI hlt (by decide)), e53, if_pos rfl]
      unfold J_110b_63
      have o1 : (0 : Int32) + 1 = nI 1 := rfl
      rw [a10, if_pos (by decide), if_pos (show aB (nI (hsh (cnt x.1 3) (vi0 x.1))) (gN s2 53) by rw [n2, m53]; exact aB_nI hlt (by decide)), o1, nI_clamp (by omega), es3]
      have t10 : gI s3 52 10 = 0 := by rw [f3.1 52 10 (by simp)]; exact a10
      have t9 : gI s3 52 9 = nI (cnt x.1 3) := by rw [f3.1 52 9 (by simp)]; exact a9
      have e113 : F_113b N (t) s3 = some s4 := by
        unfold F_113b
        rw [t10, if_pos (show (0 : Int32) < nI (gN s3 55) from (nI_lti (a := 0) (by decide) (by rw [n3]; omega)).mpr (by rw [n3]; omega))]
        unfold J_113b_61
        have z12 : (0 : Int32) * 12 = 0 := by decide
        have ac : acB (gN s3 (t + 12)) (gN s3 54) 0 0 (nI (cnt x.1 3)) := by
          refine ⟨by decide, by decide, fun z => ?_, ?_, ?_⟩
          · have := (nI_lti (b := 0) (by omega) (by decide)).mp z; omega
          · rw [cl0, nI_clamp (by omega), n3, l12]; omega
          · rw [cl0, nI_clamp (by omega), n3, m54]; omega
        rw [t10, t9, z12, if_pos ac, if_pos (show aB 0 (gN s3 55) from aB_0 (by rw [n3]; omega) (by rw [n3]; omega)), o1, cl0, nI_clamp (by omega), es4]
      have e113' : F_113b (N - 1 + 1) t s3 = some s4 := by
        rw [show N - 1 + 1 = N by omega]; exact e113
      rw [e113', ob_some]
      have t4 : gI s4 52 10 = nI 1 := by rw [← es4]; rfl
      rw [t4]
      rfl
    have e7' : ∀ s, gI s t 7 = gI σ t 7 → gI s t 7 = nI (cnt x.1 3) := fun s z => z.trans e7
    unfold F_108
    rw [e55, ob_some, e7' _ (by
      show gI (st_i (st_r (st_r (st_i (st_i (st_i (st_r (st_r σ 62 5 t) 62 6 (t + 1)) 62 7 0) 62 8 (-1)) 62 9 (-1)) 42 3 t) 42 4 (t + 1)) 42 5 1) t 7 = _
      rw [gI_i, if_neg (fun z => by omega)]
      show gI (st_i (st_i (st_i (st_r (st_r σ 62 5 t) 62 6 (t + 1)) 62 7 0) 62 8 (-1)) 62 9 (-1)) t 7 = _
      rw [gI_i, if_neg (fun z => by omega), gI_i, if_neg (fun z => by omega), gI_i, if_neg (fun z => by omega)]
      rfl), e109 _ es1, ob_some, e110, ob_some]
    rfl
  have f24 : FKx t σ s4 := Fr.t0 (f2.mo (by intro q z; simp only [List.mem_cons, List.not_mem_nil, or_false] at z ⊢; rcases z with z | z | z | z | z | z | z | z <;> simp [z]) (by simp) (fun _ q => q) (by intro a z; simp only [List.mem_cons, List.not_mem_nil, or_false] at z ⊢; omega) (by simp)) (Fr.t0 (f3.mo (by simp) (by simp) (by simp) (by simp) (by simp)) (f4.mo (by simp) (by simp) (by simp) (by intro a z; simp only [List.mem_cons, List.not_mem_nil, or_false] at z ⊢; omega) (by simp)))
  have ga4 : ∀ a, a < 53 → a ≠ 44 → gE s4 a = gE σ a := fun a z1 z2 => by
    rw [(f4.2.2.2.1 a (by simp only [List.mem_cons, List.not_mem_nil, or_false]; omega)).2, (f3.2.2.2.1 a (by simp only [List.mem_cons, List.not_mem_nil, or_false]; omega)).2, ga a z2 (by omega)]
  have gi4 : ∀ a j, a ≠ 42 → a ≠ 52 → a ≠ 62 → gI s4 a j = gI σ a j := fun a j z1 z2 z3 => by
    rw [f4.1 a j (by simp only [List.mem_cons, List.not_mem_nil, or_false, Prod.mk.injEq]; omega), f3.1 a j (by simp), gi a j z1 z2 z3]
  have hb : KB0 t n l w x X fs tge hs σ s4 := by
    obtain ⟨c1, c2, c3, c4⟩ := cs
    obtain ⟨b0, ⟨b1, b2, b3, b4, b5⟩, c, s5, s6, s7⟩ := sq
    refine ⟨⟨M, km, (gi4 _ _ (by omega) (by omega) (by omega)).trans c1, c2, by rw [n4]; exact c3, fun c hc j hj => by rw [ga4 _ (by omega) (by omega)]; exact c4 c hc j hj⟩, ?_, ln.eq n4, f24⟩
    unfold SQ LN
    rw [n4, gi4 t 7 (by omega) (by omega) (by omega), gi4 t 8 (by omega) (by omega) (by omega), gi4 t 9 (by omega) (by omega) (by omega), gi4 t 10 (by omega) (by omega) (by omega), gi4 t 11 (by omega) (by omega) (by omega), ga4 (t + 10) (by omega) (by omega), ga4 (t + 11) (by omega) (by omega), ga4 (t + 12) (by omega) (by omega), ga4 (t + 13) (by omega) (by omega), ga4 (t + 14) (by omega) (by omega), ga4 (t + 15) (by omega) (by omega)]
    exact ⟨b0, ⟨b1, b2, b3, b4, b5⟩, c, s5, s6, s7⟩
  have i4 : ∀ a j, (a, j) ≠ (52, 10) → gI s4 a j = gI s2 a j := fun a j z => by rw [f4.1 a j (by simpa using z), f3.1 a j (by simp)]
  have t4 : gI s4 52 10 = nI 1 := by rw [← es4]; rfl
  have g55 : gE s4 55 0 = 0 := by
    rw [← es4]
    show gE (st_e (st_ac s3 (t + 12) 0 54 0 (cnt x.1 3)) 55 0 0) 55 0 = 0
    rw [gE_e, if_pos ⟨rfl, rfl⟩]
  have k4 : KGk s4 (cnt x.1 3) 0 (G00 x.1) := by
    refine ⟨⟨(i4 52 9 (by simp)).trans a9, t4, (show 1 ≤ 512 by decide), by rw [n4]; exact ⟨m54, m56, m55, m55', (show 1 ≤ gN σ 55 by omega)⟩, by rw [n4]; exact m65, fun k hk v hv => ?_, ⟨by rw [n4]; exact m53, upv (fun _ => 0) (hsh (cnt x.1 3) (vi0 x.1)) 1, fun p hp => ?_, ?_⟩, fun i j z1 z2 => ?_⟩, ⟨fun j hj => absurd hj (Nat.not_lt_zero j), fun z => absurd z (by decide), fun j z1 z2 => ?_, fun y hy => ⟨0, Nat.le_refl _, ?_⟩, (i4 62 8 (by simp)).trans b8, (i4 62 9 (by simp)).trans b9⟩, ⟨(i4 52 11 (by simp)).trans a11, Nat.zero_le _, fun c hc => absurd hc (Nat.not_lt_zero c), fun z => absurd z (by show ¬ 1 ≤ 0; decide)⟩, (i4 52 12 (by simp)).trans a12, (show 0 ≤ 4096 by decide), Nat.zero_le _, fun i hi => absurd hi (Nat.not_lt_zero i)⟩
    · have hk : k < 1 := hk
      have : k = 0 := by omega
      subst this
      rw [Nat.mul_zero, Nat.zero_add]
      exact h12' v hv
    · rw [(f4.2.2.2.1 53 (by simp)).2, ← es3, gE_e]
      unfold upv
      by_cases c : p = hsh (cnt x.1 3) (vi0 x.1)
      · rw [if_pos ⟨rfl, c⟩, if_pos c]
      · rw [if_neg (fun z => c z.2), if_neg c]
        exact g53 p hp
    · have e0 : Htb (cnt x.1 3) (0, fun _ => vi0 x.1) (fun _ => 0) := ⟨fun p _ => Nat.le_refl _, nzs_0 (fun _ => rfl) _, fun k hk => absurd hk (Nat.not_lt_zero k)⟩
      have A := e0.add (nx := vi0 x.1) (d := 0) rfl (by decide) (fun d' z => absurd z (Nat.not_lt_zero d'))
      rw [show (hsh (cnt x.1 3) (vi0 x.1) + 0) % 1024 = hsh (cnt x.1 3) (vi0 x.1) from Nat.mod_eq_of_lt hlt] at A
      refine ⟨A.1, A.2.1, fun k hk => ?_⟩
      obtain ⟨d, d1, d2, d3⟩ := A.2.2 k hk
      have hk : k < 1 := hk
      have : k = 0 := by omega
      subst this
      have ee : upv (fun _ => vi0 x.1) 0 (vi0 x.1) 0 = vi0 x.1 := upv_s _ _ _
      have d2 : upv (fun _ => 0) (hsh (cnt x.1 3) (vi0 x.1)) 1 ((hsh (cnt x.1 3) (upv (fun _ => vi0 x.1) 0 (vi0 x.1) 0) + d) % 1024) = 0 + 1 := d2
      have d3 : ∀ d', d' < d → upv (fun _ => 0) (hsh (cnt x.1 3) (vi0 x.1)) 1 ((hsh (cnt x.1 3) (upv (fun _ => vi0 x.1) 0 (vi0 x.1) 0) + d') % 1024) ≠ 0 := d3
      rw [ee] at d2 d3
      exact ⟨d, d1, d2, d3⟩
    · have z2 : j < 1 := z2
      omega
    · have z2 : j < 1 := z2
      rw [show j = 0 by omega]
      exact g55
    · have : gE s4 44 y = gE s2 44 y := by rw [(f4.2.2.2.1 44 (by simp)).2, (f3.2.2.2.1 44 (by simp)).2]
      rw [this]
      exact g44 y hy
  have J0 : GJ x.1 0 (G00 x.1) := by
    refine ⟨(show 0 ≤ 1 by decide), (show 1 ≤ 1 by decide), (show 1 ≤ 512 by decide), fun j _ i hi s => ?_, (show 0 ≤ 0 by decide), (show 0 ≤ 4096 by decide), fun j hj => absurd hj (Nat.not_lt_zero j), fun j hj => absurd hj (Nat.not_lt_zero _), fun c hc => absurd hc (Nat.not_lt_zero c), fun c hc => absurd hc (Nat.not_lt_zero _)⟩
    show vlo x.1 i ≤ vi0 x.1 (vno x.1 i) ∧ vi0 x.1 (vno x.1 i) ≤ vhi x.1 i
    rw [vi0_at v2 hi s]
    exact v5 i hi s
  have Z := L108 (X := X) (fs := fs) (tge := tge) (hs := hs) (σ0 := σ) H (by omega) hw htg 512 0 s4 (G00 x.1) (by omega) hb ((i4 62 7 (by simp)).trans b7) k4 J0 (N - 512 - 1)
  rw [show N - 512 - 1 + 512 + 1 = N by omega] at Z
  rw [start]
  exact Z
end KR
