/-! exploring: what holds of the graph -/
/-- a command's rules give values, its sets name vars -/
def CmV (l : List Int32) (w : List (Nat × Nat × Nat)) (E : List En) (c : It) : Prop := ∀ b ∈ bsr c.2.2, Stv l w E b.2 ∧ ∀ vs, Vr E vs → (∀ v, exv l w E vs b.1 = .inr v → okv 1 v) ∧ ∀ T ∈ b.2, ∀ v, exv l w E vs T = .inr v → v.1.toInt.natAbs < 1000000000
section INV2
variable {l : List Int32} {w : List (Nat × Nat × Nat)} {E : List En} {vs nx nx' : Vl} {V b0 a pl k i : Nat} {v : Int64 × Int64} {T : Tr} {c : It}
theorem xbs_ok (hi : Vij E) (hvs : Vr E vs) (ha : 0 < a) (ha2 : a < 1000000000) : ∀ (S : List ((Tr × List Tr) × (Int64 × Int64))) (s : Pst × Bn) (t : Nat) (s' : Pst × Bn), (∀ x ∈ S, Fq a x.2 ∧ Stv l w E x.1.2 ∧ ∀ T ∈ x.1.2, ∀ v, exv l w E vs T = .inr v → v.1.toInt.natAbs < 1000000000) → Fqr a b0 s.2 t → t + (S.map fun x => wt a x.2).sum ≤ a → b0 ≤ s.2.1 → s.2.1 ≤ 4096 → s.1.1 ≤ 512 → (∀ k, k < s.1.1 → Vr E (s.1.2 k)) → xbs l w E V vs pl b0 S s = .inr s' → s.2.1 ≤ s'.2.1 ∧ s'.2.1 ≤ 4096 ∧ s.1.1 ≤ s'.1.1 ∧ s'.1.1 ≤ 512 ∧ (∀ k, k < s.1.1 → s'.1.2 k = s.1.2 k) ∧ (∀ k, k < s'.1.1 → Vr E (s'.1.2 k)) ∧ (∀ i, i < b0 → s'.2.2 i = s.2.2 i) ∧ ((∃ x ∈ S, x.2.1 ≠ 0) → b0 < s'.2.1) ∧ Fqr a b0 s'.2 a := by
  intro S
  induction S with
  | nil =>
    intro s t s' _ hF ht hb hB hP hV h
    injection h with h
    subst h
    exact ⟨Nat.le_refl _, hB, Nat.le_refl _, hP, fun _ _ => rfl, hV, fun _ _ => rfl, fun ⟨x, z, _⟩ => (by cases z), fun i h1 h2 => ⟨(hF i h1 h2).1, by have := (hF i h1 h2).2; omega⟩⟩
  | cons x S ih =>
    obtain ⟨b, v⟩ := x
    intro s t s' hS hF ht hb hB hP hV h
    rw [List.map_cons, List.sum_cons] at ht
    have ht : t + (wt a v + (S.map fun x => wt a x.2).sum) ≤ a := ht
    unfold xbs at h
    obtain ⟨q1, q2, q3⟩ := hS (b, v) List.mem_cons_self
    have hS' := fun x hx => hS x (List.mem_cons_of_mem _ hx)
    by_cases c0 : v.1 = 0
    · rw [if_pos c0] at h
      obtain ⟨i1, i2, i3, i4, i5, i6, i7, i8, i9⟩ := ih s t s' hS' hF (by omega) hb hB hP hV h
      refine ⟨i1, i2, i3, i4, i5, i6, i7, fun ⟨x, z1, z2⟩ => ?_, i9⟩
      rcases List.mem_cons.mp z1 with z | z
      · rw [z] at z2; exact absurd c0 z2
      · exact i8 ⟨x, z, z2⟩
    · rw [if_neg c0] at h
      obtain ⟨s1, h1, h2⟩ := sbd_i h
      unfold xb1 at h1
      obtain ⟨n1, h3, h4⟩ := sbd_i h1
      unfold xb2 at h4
      cases hgo : xgo V s.1 n1 with
      | none => rw [hgo] at h4; cases h4
      | some p =>
        rw [hgo] at h4
        dsimp only at h4
        cases hbw : xbw b0 s.2 p.1 v with
        | none => rw [hbw] at h4; cases h4
        | some B' =>
          rw [hbw] at h4
          injection h4 with h4
          subst h4
          obtain ⟨w1, w2, w3, w4, w5⟩ := xbw_ok ha ha2 q1 (by omega) hB hb hF hbw
          obtain ⟨g1, g2, g3, g4, g5⟩ := xgo_ok hP hgo
          have rn : Vr E n1 := xst_r hi (fun T hT u hu => q3 T (List.mem_reverse.mp hT) u hu) (fun T hT => q2 T (List.mem_reverse.mp hT)) hvs h3
          have vP : ∀ k, k < p.2.1 → Vr E (p.2.2 k) := fun k hk => by
            by_cases ck : k < s.1.1
            · rw [g4 k ck]; exact hV k ck
            · rw [g5 k (by omega) hk]; exact rn
          obtain ⟨i1, i2, i3, i4, i5, i6, i7, i8, i9⟩ := ih (p.2, B') (t + wt a v) s' hS' w5 (by omega) (by show b0 ≤ B'.1; omega) w2 g3 vP h2
          have i1 : B'.1 ≤ s'.2.1 := i1
          have i3 : p.2.1 ≤ s'.1.1 := i3
          exact ⟨by omega, i2, by omega, i4, fun k hk => by rw [i5 k (by show k < p.2.1; omega)]; exact g4 k hk, i6, fun i hi' => by rw [i7 i hi']; exact w4 i hi', fun _ => by omega, i9⟩
theorem c01_of (h : okv 1 v) (h1 : ¬ v.1 < 0) (h2 : ¬ v.2 < v.1) : C01 v := by
  rw [okv1] at h
  have h1 := Int64.not_lt.mp h1
  have h2 := Int64.not_lt.mp h2
  rw [Int64.le_iff_toInt_le] at h1 h2
  rw [L0] at h1
  exact ⟨h1, h2, h.2.1, h.2.2⟩
theorem xch_ok : ∀ {B : List (Tr × List Tr)} {Ls : List (Int64 × Int64)}, (∀ b ∈ B, ∀ v, exv l w E vs b.1 = .inr v → okv 1 v) → xch l w E vs B = .inr Ls → Ls.length = B.length ∧ ∀ v ∈ Ls, C01 v := by
  intro B
  induction B with
  | nil =>
    intro Ls _ h
    injection h with h
    subst h
    exact ⟨rfl, fun v hv => by cases hv⟩
  | cons b B ih =>
    intro Ls hb h
    unfold xch at h
    obtain ⟨u, h1, h2⟩ := sbd_i h
    obtain ⟨L, h3, h4⟩ := sbd_i h2
    injection h4 with h4
    subst h4
    obtain ⟨u', h5, h6⟩ := sbd_i h1
    obtain ⟨i1, i2⟩ := ih (fun b hb' => hb b (List.mem_cons_of_mem _ hb')) h3
    refine ⟨by rw [List.length_cons, List.length_cons, i1], fun v hv => ?_⟩
    rcases List.mem_cons.mp hv with z | z
    · unfold xc1 at h6
      split at h6
      · cases h6
      · rename_i cc
        injection h6 with h6
        rw [z, ← h6]
        exact c01_of (hb b List.mem_cons_self u' h5) (fun z => cc (Or.inl z)) (fun z => cc (Or.inr z))
    · exact i2 v z
/-- the chances of a command are parts of a whole -/
theorem chs_ok {Ls : List (Int64 × Int64)} {A : Int64} (h1 : ∀ v ∈ Ls, C01 v) (h8 : Ls.length ≤ 8) (h2 : xlc pl Ls 1 = .inr A) (h3 : xsm A Ls 0 = A) : 0 < A.toInt.toNat ∧ A.toInt.toNat < 1000000000 ∧ (∀ v ∈ Ls, Fq A.toInt.toNat v) ∧ (Ls.map (wt A.toInt.toNat)).sum = A.toInt.toNat ∧ ∃ v ∈ Ls, v.1 ≠ 0 := by
  obtain ⟨q1, q2, -, q4⟩ := xlc_ok h1 (by decide) (by decide) h2
  have fq : ∀ v ∈ Ls, Fq A.toInt.toNat v := fun v hv => ⟨(h1 v hv).1, (h1 v hv).2.2.1, q4 v hv⟩
  have S := xsm_ok q1 q2 (L := Ls) (s := 0) (fun v hv => ⟨fq v hv, h1 v hv⟩) (by decide) (by rw [L0]; omega)
  rw [h3, L0] at S
  refine ⟨by omega, by omega, fq, by omega, ?_⟩
  apply Classical.byContradiction
  intro no
  have z : ∀ v ∈ Ls, wt A.toInt.toNat v = 0 := fun v hv => by
    have : v.1 = 0 := Classical.byContradiction fun z => no ⟨v, hv, z⟩
    unfold wt
    rw [this, L0]
    simp
  have : ∀ (L : List (Int64 × Int64)), (∀ v ∈ L, wt A.toInt.toNat v = 0) → (L.map (wt A.toInt.toNat)).sum = 0 := by
    intro L
    induction L with
    | nil => intro _; rfl
    | cons a L ih => intro h; rw [List.map_cons, List.sum_cons, h a List.mem_cons_self, ih (fun v hv => h v (List.mem_cons_of_mem _ hv))]
  have := this Ls z
  omega
theorem zip_s {α : Type} {B : List α} {Ls : List (Int64 × Int64)} (h : Ls.length = B.length) (f : Int64 × Int64 → Nat) : ((B.zip Ls).map fun x => f x.2).sum = (Ls.map f).sum := by
  have e : (B.zip Ls).map (fun x => f x.2) = ((B.zip Ls).map Prod.snd).map f := by rw [List.map_map]; rfl
  rw [e, List.map_snd_zip (by omega)]
/-- the graph of the states before the k-th, and of the k-th so far -/
def GI (E : List En) (k : Nat) (G : Gsh) : Prop := k < G.1.1 ∧ G.1.1 ≤ 512 ∧ (∀ j, j < G.1.1 → Vr E (G.1.2 j)) ∧ G.2.2.2.1.1 ≤ G.2.2.2.2.1 ∧ G.2.2.2.2.1 ≤ 4096 ∧ (∀ j, j ≤ k → G.2.1 j ≤ 3 ∧ G.2.2.1 j ≤ G.2.2.2.1.1) ∧ (∀ j, j < k → G.2.2.1 j ≤ G.2.2.1 (j + 1)) ∧ (∀ c, c < G.2.2.2.1.1 → G.2.2.2.1.2.2 c ≤ G.2.2.2.2.1) ∧ ∀ c, c + 1 < G.2.2.2.1.1 → G.2.2.2.1.2.2 c ≤ G.2.2.2.1.2.2 (c + 1)
theorem pwo_le (w : List (Nat × Nat × Nat)) (c : It) : pwo w c ≤ 3 ∧ pwo w c ≠ 0 := by unfold pwo; split <;> decide
theorem xcm_ok (hi : Vij E) (hvs : Vr E vs) (hc : CmV l w E c) (h8 : (bsr c.2.2).length ≤ 8) {G G' : Gsh} (hG : GI E k G) (h : xcm l w E V vs k i c G = .inr G') : GI E k G' ∧ (∀ j, j < G.1.1 → G'.1.2 j = G.1.2 j) ∧ G.1.1 ≤ G'.1.1 := by
  obtain ⟨g1, g2, g3, g4, g5, g6, g7, g8, g9⟩ := hG
  unfold xcm at h
  split at h
  · obtain ⟨Ls, h1, h2⟩ := sbd_i h
    obtain ⟨A, h3, h4⟩ := sbd_i h2
    obtain ⟨l1, l2⟩ := xch_ok (fun b hb => ((hc b (List.mem_reverse.mp hb)).2 vs hvs).1) h1
    rw [List.length_reverse] at l1
    split at h4
    · rename_i hs
      obtain ⟨a1, a2, a3, a4, v0, v1, v2⟩ := chs_ok l2 (by omega) h3 hs
      obtain ⟨s, h5, h6⟩ := sbd_i h4
      injection h6 with h6
      have X := xbs_ok (t := 0) hi hvs a1 a2 ((bsr c.2.2).reverse.zip Ls) (G.1, G.2.2.2.2) s (fun x hx => ⟨a3 _ (List.of_mem_zip hx).2, (hc _ (List.mem_reverse.mp (List.of_mem_zip hx).1)).1, ((hc _ (List.mem_reverse.mp (List.of_mem_zip hx).1)).2 vs hvs).2⟩) (fun i h1 h2 => by have h2 : i < G.2.2.2.2.1 := h2; have h1 : G.2.2.2.2.1 ≤ i := h1; omega) (by rw [zip_s (by rw [List.length_reverse]; omega) (wt A.toInt.toNat)]; omega) (Nat.le_refl _) g5 g2 g3 h5
      obtain ⟨x1, x2, x3, x4, x5, x6, x7, x8, x9⟩ := X
      have x1 : G.2.2.2.2.1 ≤ s.2.1 := x1
      have x3 : G.1.1 ≤ s.1.1 := x3
      have nz : ∃ x ∈ (bsr c.2.2).reverse.zip Ls, x.2.1 ≠ 0 := by
        have : v0 ∈ ((bsr c.2.2).reverse.zip Ls).map Prod.snd := by rw [List.map_snd_zip (by rw [List.length_reverse]; omega)]; exact v1
        obtain ⟨x, z1, z2⟩ := List.mem_map.mp this
        exact ⟨x, z1, by rw [z2]; exact v2⟩
      have x8 : G.2.2.2.2.1 < s.2.1 := x8 nz
      subst h6
      refine ⟨⟨by show k < s.1.1; omega, x4, x6, ?_, x2, fun j hj => ⟨?_, ?_⟩, g7, fun d hd => ?_, fun d hd => ?_⟩, x5, x3⟩
      · show G.2.2.2.1.1 + 1 ≤ s.2.1
        omega
      · show upv G.2.1 k (pwo w c) j ≤ 3
        by_cases cj : j = k
        · rw [cj, upv_s]; exact (pwo_le w c).1
        · rw [upv_o _ _ cj]; exact (g6 j hj).1
      · show G.2.2.1 j ≤ G.2.2.2.1.1 + 1
        have := (g6 j hj).2
        omega
      · have hd : d < G.2.2.2.1.1 + 1 := hd
        show upv G.2.2.2.1.2.2 G.2.2.2.1.1 G.2.2.2.2.1 d ≤ s.2.1
        by_cases cd : d = G.2.2.2.1.1
        · rw [cd, upv_s]; exact x1
        · rw [upv_o _ _ cd]
          have := g8 d (by omega)
          omega
      · have hd : d + 1 < G.2.2.2.1.1 + 1 := hd
        show upv G.2.2.2.1.2.2 G.2.2.2.1.1 G.2.2.2.2.1 d ≤ upv G.2.2.2.1.2.2 G.2.2.2.1.1 G.2.2.2.2.1 (d + 1)
        rw [upv_o _ _ (show d ≠ G.2.2.2.1.1 by omega)]
        by_cases cd : d + 1 = G.2.2.2.1.1
        · rw [cd, upv_s]
          exact g8 d (by omega)
        · rw [upv_o _ _ cd]
          exact g9 d (by omega)
    · cases h4
  · cases h
theorem xcs_ok (hi : Vij E) (hvs : Vr E vs) : ∀ (L : List It) (i : Nat) (G G' : Gsh), (∀ c ∈ L, CmV l w E c ∧ (bsr c.2.2).length ≤ 8) → GI E k G → xcs l w E V vs k i L G = .inr G' → GI E k G' ∧ (∀ j, j < G.1.1 → G'.1.2 j = G.1.2 j) ∧ G.1.1 ≤ G'.1.1 := by
  intro L
  induction L with
  | nil =>
    intro i G G' _ hG h
    injection h with h
    subst h
    exact ⟨hG, fun _ _ => rfl, Nat.le_refl _⟩
  | cons c L ih =>
    intro i G G' hL hG h
    unfold xcs at h
    obtain ⟨G1, h1, h2⟩ := sbd_i h
    obtain ⟨c1, c2⟩ := hL c List.mem_cons_self
    unfold xco at h1
    obtain ⟨u, h3, h4⟩ := sbd_i h1
    have K : GI E k G1 ∧ (∀ j, j < G.1.1 → G1.1.2 j = G.1.2 j) ∧ G.1.1 ≤ G1.1.1 := by
      split at h4
      · exact xcm_ok hi hvs c1 c2 hG h4
      · injection h4 with h4
        subst h4
        exact ⟨hG, fun _ _ => rfl, Nat.le_refl _⟩
    obtain ⟨k1, k2, k3⟩ := K
    obtain ⟨i1, i2, i3⟩ := ih (i + 1) G1 G' (fun c hc => hL c (List.mem_cons_of_mem _ hc)) k1 h2
    exact ⟨i1, fun j hj => by rw [i2 j (by omega)]; exact k2 j hj, by omega⟩
end INV2
