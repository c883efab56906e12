/-! the class explores: rules are worked out -/
/-- what holds of a text's nodes, whatever values they have -/
def KM (l : List Int32) (w : List (Nat × Nat × Nat)) (x : Tx) (X fs : Nat → Nat) (n : Nat) (tge : Int32) (hs : Nat → Nat) (M : Nat → Nat → Int32) : Prop := SF l w x.1 X fs ∧ Cok x.1 ∧ (∀ j, j < x.1.length → (x.1.getD j eN).2.1 = 1 ∨ (x.1.getD j eN).2.1 = 2 ∨ (x.1.getD j eN).2.1 = 3) ∧ (∀ j, j < x.1.length → (x.1.getD j eN).2.1 = 2 → fs j + tln (fTr x.1 j) < n ∧ M (fs j + tln (fTr x.1 j)) 0 = nI 26 ∧ M (fs j + tln (fTr x.1 j)) 2 = nI (fs j + tln (fTr x.1 j) - 1) ∧ M (fs j + tln (fTr x.1 j)) 4 = nI (fs j) ∧ Cr l w x.1 X M (fTr x.1 j) (fs j)) ∧ (∃ tg e, x.2.1 = some tg ∧ tge = nI e ∧ RuK l w x.1 X fs n M 2 tg e) ∧ ∀ i c, x.2.2.reverse[i]? = some c → CoK l w x.1 X fs n M (hs i) c
section KE
variable {N t n : Nat} {l : List Int32} {w : List (Nat × Nat × Nat)} {x : Tx} {X fs hs : Nat → Nat} {tge : Int32} {M M' : Nat → Nat → Int32} {vs vs' : Vl} {T : Tr} {kd e : Nat} {σ σ' : st_S}
theorem KM.sta (q : KM l w x X fs n tge hs M) (s : Sta M M') : KM l w x X fs n tge hs M' := by
  obtain ⟨q1, q2, q3, q4, ⟨tg, e, q5, q6, q7⟩, q8⟩ := q
  refine ⟨q1, q2, q3, fun j hj z => ?_, ⟨tg, e, q5, q6, q7.sta s⟩, fun i c hi => (q8 i c hi).sta s⟩
  obtain ⟨a1, a2, a3, a4, a5⟩ := q4 j hj z
  have c := (s (fs j + tln (fTr x.1 j))).1
  exact ⟨a1, (c 0 (by decide)).trans a2, (c 2 (by decide)).trans a3, (c 4 (by decide)).trans a4, s.cr a5⟩
/-- a text that was taken -/
theorem TX.km (q : TX σ t n M l w x X fs tge hs) {tg : Tr} (htg : x.2.1 = some tg) (hc : ∀ c ∈ x.2.2, Cmd w c) : KM l w x X fs n tge hs M := by
  obtain ⟨c1, c2, t1, t2, t3, t4, t5, t6, t7⟩ := q
  have n3 := c1.2.1
  rw [htg] at t6
  obtain ⟨a, m, q1, q2, q3⟩ := t6
  refine ⟨t2, t3, fun j hj => ?_, fun j hj z => ?_, ⟨tg, _, htg, q1, q3.ruk q2⟩, fun i c hi => t7.at' (by omega) hc hi⟩
  · rcases t1 j hj with ⟨z, -⟩ | ⟨z, -⟩ | z
    · exact Or.inl z
    · exact Or.inr (Or.inl z)
    · exact Or.inr (Or.inr z)
  · obtain ⟨a1, a2, a3⟩ := t4 j hj z
    rcases t1 j hj with ⟨y, -⟩ | ⟨-, -, y3, y4, -⟩ | y
    · omega
    · exact ⟨y3, a1, y4, a2, a3⟩
    · omega
/-- what is given -/
def KGv (N t n : Nat) (l : List Int32) (w : List (Nat × Nat × Nat)) (x : Tx) : Prop := (t = 4 ∨ t = 20) ∧ 1000000 < N ∧ n ≤ 24600 ∧ Nvk l w ∧ Evx x.1
/-- marks of formulas that were met: none is to come -/
def Stpk (σ : st_S) : Prop := ∃ st, st ≤ 600 ∧ gI σ 42 5 = nI st ∧ ∀ y, y < 60 → ∃ m, m ≤ st ∧ gE σ 44 y = nI m
/-- in a state -/
def KX (t n : Nat) (l : List Int32) (w : List (Nat × Nat × Nat)) (x : Tx) (X fs : Nat → Nat) (tge : Int32) (hs : Nat → Nat) (vs : Vl) (σ : st_S) (M : Nat → Nat → Int32) : Prop := KM l w x X fs n tge hs M ∧ CS σ t n M ∧ SQ σ t x.1 X fs tge x.2.2.length hs ∧ Mtt l w x.1 X fs vs σ M ∧ (∀ v, v < cnt x.1 3 → gE σ 43 v = vs v) ∧ Stpk σ
theorem SQ.fm (ht : t = 4 ∨ t = 20) {E : List En} {nc : Nat} (q : SQ σ t E X fs tge nc hs) (f : FM t σ σ') : SQ σ' t E X fs tge nc hs := by
  obtain ⟨⟨l10, l11, l12, l13, l14, l15, l43, l44, l45⟩, ⟨b1, b2, b3, b4, b5⟩, c, s5, s6, s7⟩ := q
  obtain ⟨f1, f2, -⟩ := f
  have gi : ∀ k, gI σ' t k = gI σ t k := fun k => f1.1 t k (by simp only [List.mem_cons, List.not_mem_nil, or_false, Prod.mk.injEq]; omega)
  have ge : ∀ a, t + 10 ≤ a → a ≤ t + 15 → gE σ' a = gE σ a := fun a z1 z2 => (f1.2.2.2.1 a (by simp only [List.mem_cons, List.not_mem_nil, or_false]; omega)).2
  unfold SQ LN
  rw [f2, gi, gi, gi, gi, gi, ge (t + 10) (by omega) (by omega), ge (t + 11) (by omega) (by omega), ge (t + 12) (by omega) (by omega), ge (t + 13) (by omega) (by omega), ge (t + 14) (by omega) (by omega), ge (t + 15) (by omega) (by omega)]
  exact ⟨⟨l10, l11, l12, l13, l14, l15, l43, l44, l45⟩, ⟨b1, b2, b3, b4, b5⟩, c, s5, s6, s7⟩
theorem KM.mf (q : KM l w x X fs n tge hs M) (c : CS σ t n M) {nc : Nat} (s : SQ σ t x.1 X fs tge nc hs) : MF σ t n M l w x.1 X fs := by
  obtain ⟨q1, q2, q3, q4, -⟩ := q
  obtain ⟨⟨l10, l11, l12, l13, l14, l15, l43, l44, l45⟩, -, -, -, s6, -⟩ := s
  refine ⟨c, l43, l44, l45, l14, fun j hj z => ?_⟩
  obtain ⟨a1, a2, a3, a4, a5⟩ := q4 j hj z
  exact ⟨s6 j hj z, a1, a2, a3, a4, a5⟩
/-- a rule is worked out in a state -/
theorem kx_ev (G : KGv N t n l w x) (hv : Vv x.1 vs) (h : KX t n l w x X fs tge hs vs σ M) (hR : RuK l w x.1 X fs n M kd T e) (hk : kd ≠ 0) : match exv l w x.1 vs T with
    | .inl er => (6 ≤ er.1 ∧ er.1 ≤ 8) ∧ ∃ σ' M', F_70 N t (nI e) σ = some (nI er.1, σ') ∧ gI σ' 42 6 = nI er.2 ∧ KM l w x X fs n tge hs M' ∧ CS σ' t n M' ∧ SQ σ' t x.1 X fs tge x.2.2.length hs ∧ FM t σ σ'
    | .inr v => okv kd v ∧ ∃ σ' M', F_70 N t (nI e) σ = some (0, σ') ∧ KX t n l w x X fs tge hs vs σ' M' ∧ Va M' (e - 1) v ∧ Sta M M' ∧ FM t σ σ' := by
  obtain ⟨ht, hN, hn, hnv, hE⟩ := G
  obtain ⟨km, cs, sq, mt, h43, st, st1, st2, st3⟩ := h
  obtain ⟨a, m, r1, r2, r3, r4, r5, r6, r7, r8, r9, r10, r11, r12, r13, r14⟩ := hR
  obtain ⟨sf, cok, kn, kf, -⟩ := id km
  obtain ⟨vs', hvs'⟩ : ∃ vs' : Vl, vs' = fun v => gE σ 43 v := ⟨_, rfl⟩
  have F : ∀ j, j < x.1.length → (x.1.getD j eN).2.1 = 2 → Wf w (fTr x.1 j) ∧ NBl l w x.1 j (fTr x.1 j) := fun j hj z => ⟨(sf.2.1 j hj z).2.1, (sf.2.1 j hj z).2.2.2.1⟩
  have hvv : ∀ j, j < x.1.length → (x.1.getD j eN).2.1 = 3 → vs (vno x.1 j) = vs' (vno x.1 j) := fun j hj z => by
    rw [hvs']
    exact (h43 _ (hE.2.2.1 j hj z)).symm
  have cg := fvn_cg F hvv kn
  have okf : ∀ j, j < x.1.length → ∀ v, fvn l w x.1 vs j = .inr v → okv (if (x.1.getD j eN).2.2.1 then 2 else 1) v := fvn_okv hnv cok hv (fun j hj z => ⟨(sf.2.1 j hj z).2.1, (sf.2.1 j hj z).2.2.2.2⟩) (fun j hj => by have := kn j hj; omega)
  have ec : exv l w x.1 vs T = evl l w x.1 (fvn l w x.1 vs') T false := evl_cg (m := m) (fun j hj => cg j (by omega)) T false r9 r12
  have GV : Gv N t n l w x.1 X fs vs' (2 * n + 2) false := ⟨ht, by omega, hn, by omega, sf, hnv, fun j hj _ v z => okf j hj v (by rw [cg j hj]; exact z)⟩
  have mf := km.mf cs sq
  have ph := phi2_le (σ := σ) sf r11 r13
  have nf : nfo x.1 m ≤ 60 := by
    have := nfo_cnt r11
    have := sq.2.2.1.2.1
    omega
  have mt' : Mtt l w x.1 X fs vs' σ M := fun j hj z1 z2 => by
    obtain ⟨v, y1, y2⟩ := mt j hj z1 z2
    exact ⟨v, by rw [← cg j hj]; exact y1, y2⟩
  have P : PrS t n l w x.1 X fs vs' m 0 (2 * n + 2) σ M a e 0 (2 * tln T) := ⟨mf, mt', fun v _ => by rw [hvs'], fun j hj z1 z2 => by
    by_cases c : j < m
    · exact Or.inl (r13 j c z1)
    · exact Or.inr (by have := r14 j (by omega) hj z1; omega), by omega, by omega⟩
  have K := F70r (N := N) GV (by omega) r11 (co := false) (by decide) r9 r10 r12.nf r4 hk r3 r1 r2 P r5 r8
  have er : ∀ e', exv l w x.1 vs T = .inl e' → e'.1 = 6 ∨ e'.1 = 7 ∨ e'.1 = 8 := fun e' z => evl_eb (m := m) (fun j hj u hu => fvn_eb F (fun j hj => by have := kn j hj; omega) j (by omega) u hu) T false e' r9 r12 z
  have ok : ∀ v, exv l w x.1 vs T = .inr v → okv kd v := fun v z => evl_ok (co := false) hnv (fun j hj _ => okf j hj) T false kd v r9 r4 hk z
  cases hev : exv l w x.1 vs T with
  | inl e' =>
    rw [← ec, hev] at K
    obtain ⟨s, M1, k1, k2, k3, k4, k5, k6⟩ := K
    exact ⟨by have := er e' hev; omega, s, M1, k1, k2, km.sta k5, k4, sq.fm ht k3, k3⟩
  | inr v =>
    rw [← ec, hev] at K
    obtain ⟨s, M1, q, k1, k2, k3⟩ := K
    obtain ⟨y1, y2, y3, y4, y5, y6, y7, y8, y9, y10⟩ := k2
    refine ⟨ok v hev, s, M1, k1, ⟨km.sta y8, y2.1, sq.fm ht y4, fun j hj z1 z2 => ?_, fun u hu => by rw [y5.1]; exact h43 u hu, st, st1, (FM.r5 y4).trans st2, fun y hy => (by
      rcases y5.2.2 y with z | z
      · rw [z]; exact st3 y hy
      · exact ⟨st, Nat.le_refl _, z.trans st2⟩)⟩, k3, y8, y4⟩
    obtain ⟨u, u1, u2⟩ := y3 j hj z1 z2
    exact ⟨u, by rw [cg j hj]; exact u1, u2⟩
end KE
