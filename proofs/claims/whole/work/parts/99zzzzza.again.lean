/-! the reference's reading: its list of wanted words stays in bounds -/
def Bq (L : Nat) (σ : st_S) : Prop := ∃ c, c ≤ L ∧ gI σ 77 1 = nI c ∧ c ≤ gN σ 78 ∧ 16 ≤ gN σ 78 ∧ gN σ 78 ≤ 40000
def Bqs (L : Nat) (o : Option st_S) : Prop := ∀ p, o = some p → Bq L p
def Bqp (L : Nat) (o : Option (Int32 × st_S)) : Prop := ∀ p, o = some p → Bq L p.2
def B78 (σ : st_S) : Prop := 16 ≤ gN σ 78 ∧ gN σ 78 ≤ 40000
section BQ
variable {N L L' : Nat} {σ : st_S} {v a b c : Int32}
theorem bq_n (h : Bq L σ) (hL : L < 10100) : Bqs (L + 1) (N_133 N 77 v σ) := by
  obtain ⟨n, h1, h2, h3, h4, h5⟩ := h
  intro p hp
  unfold N_133 at hp
  split at hp
  · rename_i e
    split at hp
    · injection hp with hp
      rw [h2] at e
      have e := (nI_eq (by omega) (show gN σ 78 < 2 ^ 31 by omega)).mp e
      have e' : n = gN σ 78 := e
      have e78 : gN p 78 = 2 * gN σ 78 := by
        rw [← hp]
        show gN (st_gw σ (77 + 1) (gN σ (77 + 1)) (2 * gN σ (77 + 1))) 78 = _
        exact (gw_N _ _ _ _ _).trans (if_pos rfl)
      refine ⟨n + 1, by omega, ?_, by omega, by omega, by omega⟩
      rw [← hp, gI_i, if_pos ⟨rfl, rfl⟩, e]
    · cases hp
  · split at hp
    · rename_i e z
      injection hp with hp
      have e78 : gN p 78 = gN σ 78 := by rw [← hp]; rfl
      have lt : n < gN σ 78 := by
        rcases Nat.lt_or_ge n (gN σ 78) with q | q
        · exact q
        · exact absurd (by rw [h2, show n = gN σ (77 + 1) from Nat.le_antisymm h3 q]) e
      refine ⟨n + 1, by omega, ?_, by omega, by omega, by omega⟩
      rw [← hp, gI_i, if_pos ⟨rfl, rfl⟩, h2, nI_clamp (by omega)]
    · cases hp
theorem bq_sp {o : Option st_S} {f : st_S → Option (Int32 × st_S)} (h : Bqs L o) (hf : ∀ s, Bq L s → Bqp L' (f s)) : Bqp L' (o.bind f) := by
  intro p hp
  cases ho : o with
  | none => rw [ho] at hp; cases hp
  | some s => rw [ho] at hp; exact hf s (h s ho) p hp
theorem bq_ss {o : Option st_S} {f : st_S → Option st_S} (h : Bqs L o) (hf : ∀ s, Bq L s → Bqs L' (f s)) : Bqs L' (o.bind f) := by
  intro p hp
  cases ho : o with
  | none => rw [ho] at hp; cases hp
  | some s => rw [ho] at hp; exact hf s (h s ho) p hp
theorem bq_pp {o : Option (Int32 × st_S)} {f : Int32 × st_S → Option (Int32 × st_S)} (h : Bqp L o) (hf : ∀ s : Int32 × st_S, Bq L s.2 → Bqp L' (f s)) : Bqp L' (o.bind f) := by
  intro p hp
  cases ho : o with
  | none => rw [ho] at hp; cases hp
  | some s => rw [ho] at hp; exact hf s (h s ho) p hp
theorem bq_r (h : Bq L σ) (hL : L ≤ L') : Bqp L' (some (v, σ)) := by
  intro p hp
  injection hp with hp
  obtain ⟨n, h1, h2⟩ := h
  rw [← hp]
  exact ⟨n, Nat.le_trans h1 hL, h2⟩
theorem bq_rs (h : Bq L σ) (hL : L ≤ L') : Bqs L' (some σ) := by
  intro p hp
  injection hp with hp
  obtain ⟨n, h1, h2⟩ := h
  rw [← hp]
  exact ⟨n, Nat.le_trans h1 hL, h2⟩
theorem bq_if {p : Prop} [Decidable p] {x y : Option (Int32 × st_S)} (h1 : Bqp L x) (h2 : Bqp L y) : Bqp L (if p then x else y) := by
  split
  · exact h1
  · exact h2
theorem bq_151 (h : Bq L σ) (hL : L < 10090) : Bqs (L + 3) (F_151 N a b c σ) := by
  unfold F_151
  exact bq_ss (bq_n h (by omega)) fun s hs => bq_ss (bq_n hs (by omega)) fun s hs => bq_ss (bq_n hs (by omega)) fun s hs => bq_rs hs (by omega)
theorem bq_154 (h : Bq L σ) : Bqp L (F_154 N σ) := by
  unfold F_154
  obtain ⟨n, h1, h2, h3⟩ := h
  refine bq_r ⟨n, h1, ?_, h3⟩ (Nat.le_refl _)
  rw [gI_i, if_neg (by decide)]
  exact h2
theorem bq_152 (h : Bq L σ) (hL : L < 10090) : Bqp (L + 2) (F_152 N a b c σ) := by
  unfold F_152
  refine bq_if (bq_r h (by omega)) ?_
  exact bq_sp (bq_n h (by omega)) fun s hs => bq_sp (bq_n hs (by omega)) fun s hs => bq_r hs (by omega)
theorem bq_157 (h : Bq L σ) : Bqp L (F_157 N a σ) := by
  unfold F_157
  repeat' first
    | exact bq_r h (Nat.le_refl _)
    | refine bq_if ?_ ?_
theorem bq_150 (h : Bq L σ) (hL : L ≤ 10000) : Bqp (L + 8) (F_150 N a σ) := by
  unfold F_150
  repeat' first
    | exact bq_r (by assumption) (by omega)
    | refine bq_if ?_ ?_
    | refine bq_sp (bq_n (by assumption) (by omega)) (fun _ _ => ?_)
    | refine bq_sp (bq_151 (by assumption) (by omega)) (fun _ _ => ?_)
theorem bq_153 (h : Bq L σ) (hL : L ≤ 10000) : Bqp (L + 8) (F_153 N a σ) := by
  unfold F_153
  repeat' first
    | exact bq_r (by assumption) (by omega)
    | refine bq_if ?_ ?_
    | refine bq_sp (bq_n (by assumption) (by omega)) (fun _ _ => ?_)
    | refine bq_sp (bq_151 (by assumption) (by omega)) (fun _ _ => ?_)
    | refine bq_pp (bq_154 (by assumption)) (fun _ _ => ?_)
theorem bq_156 (h : Bq L σ) (hL : L ≤ 10000) : Bqp (L + 8) (F_156 N σ) := by
  unfold F_156
  repeat' first
    | exact bq_r (by assumption) (by omega)
    | refine bq_sp (bq_n (by assumption) (by omega)) (fun _ _ => ?_)
    | refine bq_sp (bq_151 (by assumption) (by omega)) (fun _ _ => ?_)
    | refine bq_pp (bq_154 (by assumption)) (fun _ _ => ?_)
theorem bq_158 (h : Bq L σ) (hL : L ≤ 10000) : Bqp (L + 8) (F_158 N a σ) := by
  unfold F_158
  repeat' first
    | exact bq_r (by assumption) (by omega)
    | refine bq_if ?_ ?_
    | refine bq_sp (bq_n (by assumption) (by omega)) (fun _ _ => ?_)
    | refine bq_pp (bq_154 (by assumption)) (fun _ _ => ?_)
theorem bq_149 (h : Bq L σ) (hL : L ≤ 10000) : Bqp (L + 8) (F_149 N a b σ) := by
  unfold F_149
  repeat' first
    | exact bq_r (by assumption) (by omega)
    | refine bq_if ?_ ?_
    | refine bq_sp (bq_n (by assumption) (by omega)) (fun _ _ => ?_)
    | refine bq_sp (bq_151 (by assumption) (by omega)) (fun _ _ => ?_)
    | refine bq_pp (bq_152 (by assumption) (by omega)) (fun _ _ => ?_)
    | refine bq_pp (bq_150 (by assumption) (by omega)) (fun _ _ => ?_)
    | refine bq_pp (bq_153 (by assumption) (by omega)) (fun _ _ => ?_)
theorem bq_155 (h : Bq L σ) (hL : L ≤ 10000) : Bqp (L + 8) (F_155 N a b σ) := by
  unfold F_155
  repeat' first
    | exact bq_r (by assumption) (by omega)
    | refine bq_if ?_ ?_
    | refine bq_sp (bq_n (by assumption) (by omega)) (fun _ _ => ?_)
    | refine bq_sp (bq_151 (by assumption) (by omega)) (fun _ _ => ?_)
    | refine bq_pp (bq_152 (by assumption) (by omega)) (fun _ _ => ?_)
    | refine bq_pp (bq_154 (by assumption)) (fun _ _ => ?_)
    | refine bq_pp (bq_156 (by assumption) (by omega)) (fun _ _ => ?_)
    | refine bq_pp (bq_157 (by assumption)) (fun _ _ => ?_)
    | refine bq_pp (bq_158 (by assumption) (by omega)) (fun _ _ => ?_)
theorem Wt.bq {S : List Nat} {n : Nat} (h : Wt σ S n) (hl : S.length ≤ 10000) : Bq 10000 σ := by
  obtain ⟨⟨n1, n2, n3, n4⟩, h2, h3⟩ := h
  rw [List.length_reverse, List.length_map] at n1 n2
  exact ⟨S.length, hl, n1, n2, n3, h2⟩
theorem Wt.b78 {S : List Nat} {n : Nat} (h : Wt σ S n) : B78 σ := ⟨h.1.2.2.1, h.2.1⟩
theorem sy_b {S : List Nat} {n k m : Nat} (h : Wt σ S n) (hl : S.length ≤ 10000) {p : Int32 × st_S} (e : (if 61 ≤ m then F_155 N (nI m) (nI k) σ else F_149 N (nI m) (nI k) σ) = some p) : B78 p.2 := by
  have : Bqp (10000 + 8) (if 61 ≤ m then F_155 N (nI m) (nI k) σ else F_149 N (nI m) (nI k) σ) := bq_if (bq_155 (h.bq hl) (Nat.le_refl _)) (bq_149 (h.bq hl) (Nat.le_refl _))
  obtain ⟨c, -, -, -, z1, z2⟩ := this p e
  exact ⟨z1, z2⟩
end BQ
theorem turn_b {N i k a v : Nat} {σ0 σ : st_S} {S : List Nat} {w : List (Nat × Nat × Nat)} {q : Nat × Nat × Nat} (hq : gC σ0 + 200000 < vz_M0) (hw : W3 σ w) (hi : w[i]? = some q) (hi' : i < 20000) (hqk : q.1 = k) (hk : k < 40) (hb : gI σ 66 8 = -1) (h : Wt σ (a :: S) v) (f : Fx σ0 σ) (hl : S.length ≤ 10000) (hv : IV (a :: S) v) : ∃ σ' j, Fx σ0 σ' ∧ B78 σ' ∧ Tn i (rst k a S v) j σ' ∧ ∀ K, L_147 N (K + 1) (nI i) σ = L_147 N K j σ' := by
  obtain ⟨σ1, p1, p2, p3, p4, p5, p6⟩ := wpop (N := N) h hl
  have f1 := Fr.t0 f p3
  have hw1 := hw.fx p3
  have hK := kind_at (N := N) hw1 hi
  rw [hqk] at hK
  obtain ⟨q1, q2⟩ := po_c hv.1
  have ha := so_76 q1
  have hsz : ¬ gI σ 77 1 ≤ 0 := by
    have := h.1.1
    rw [List.length_reverse, List.length_map] at this
    rw [this]
    intro z
    have z := (nI_lei (a := S.length + 1) (b := 0) (by omega) (by decide)).mp z
    omega
  have hneg : ¬ 0 ≤ gI σ 66 8 := by rw [hb]; exact neg1
  have e0 : ∀ K, L_147 N (K + 1) (nI i) σ = if nI a = 75 then L_147 N K (nI i) (st_i σ1 66 7 (gI σ1 66 7 - 1)) else if 50 ≤ nI a then (if 61 ≤ nI a then (F_155 N (nI a) (nI k) σ1).bind fun p_9 => L_147 N K (if p_9.1 ≤ 0 then nI i else (nI i + 1) : Int32) (st_i (p_9.2) 66 8 (if 0 ≤ p_9.1 then (-1) else nI i : Int32)) else (F_149 N (nI a) (nI k) σ1).bind fun p_12 => L_147 N K (if p_12.1 ≤ 0 then nI i else (nI i + 1) : Int32) (st_i (p_12.2) 66 8 (if 0 ≤ p_12.1 then (-1) else nI i : Int32))) else L_147 N K (nI i + 1) (st_i σ1 66 8 (if nI a = nI k then (-1) else nI i : Int32)) := by
    intro K
    conv => lhs; unfold L_147
    rw [if_neg hneg, if_neg hsz, p1, ob_some, hK, ob_some]
  by_cases c75' : a = 75
  · subst c75'
    have v1 := iv_75 hv
    refine ⟨st_i σ1 66 7 (nI (v - 1)), nI i, Fr.t0 f1 (Fr.i _ _ (by decide)), p2.b78, ⟨?_, ⟨p2.1.fr rfl rfl rfl, p2.2.1, st_i_s _ _ _ _⟩, rfl⟩, fun K => ?_⟩
    · exact p4.trans hb
    · rw [e0, if_pos (show nI 75 = 75 from rfl), p2.2.2]
      congr 2
      exact nI_sub (a := v) (b := 1) v1
  have n75 : ¬ nI a = 75 := nik (m := 75) (by omega) (by decide) c75'
  by_cases c5 : 50 ≤ a
  · obtain ⟨σ2, t, s1, s2, s3⟩ := sy_all (N := N) q1 c5 c75' hq hk p2 f1 hl hv.2.2
    have sb : B78 σ2 := sy_b p2 hl s1
    have e1 : ∀ K, L_147 N (K + 1) (nI i) σ = L_147 N K (if t ≤ 0 then nI i else (nI i + 1) : Int32) (st_i σ2 66 8 (if 0 ≤ t then (-1) else nI i : Int32)) := by
      intro K
      rw [e0, if_neg n75, if_pos ((le50 (by omega)).mpr c5)]
      by_cases c6 : 61 ≤ a
      · rw [if_pos c6] at s1
        rw [if_pos ((le61 (by omega)).mpr c6), s1, ob_some]
      · rw [if_neg c6] at s1
        rw [if_neg (fun z => c6 ((le61 (by omega)).mp z)), s1, ob_some]
    refine ⟨_, _, Fr.t0 s2 (Fr.i _ _ (by decide)), sb, ?_, e1⟩
    cases er : rst k a S v with
    | none =>
      rw [er] at s3
      have s3 : t = -1 := s3
      show gI (st_i σ2 66 8 _) 66 8 = nI i
      rw [s3, if_neg neg1]
      exact st_i_s _ _ _ _
    | some z =>
      obtain ⟨S', v', b⟩ := z
      rw [er] at s3
      cases b with
      | true =>
        obtain ⟨s4, s5⟩ := (s3 : t = 1 ∧ Wt σ2 S' v')
        subst s4
        refine ⟨?_, s5.b _, ?_⟩
        · rw [if_pos (by decide)]; exact st_i_s _ _ _ _
        · rw [if_neg (by decide), if_pos rfl]
          exact nI_1 i
      | false =>
        obtain ⟨s4, s5⟩ := (s3 : t = 0 ∧ Wt σ2 S' v')
        subst s4
        refine ⟨?_, s5.b _, ?_⟩
        · rw [if_pos (by decide)]; exact st_i_s _ _ _ _
        · rw [if_pos (by decide), if_neg (by decide)]
  · have er : rst k a S v = if a = k then some (S, v, true) else none := by
      unfold rst
      rw [if_neg c75', if_pos (by omega)]
    refine ⟨_, _, Fr.t0 f1 (Fr.i (k := 8) _ _ (by decide)), p2.b78, ?_, fun K => (e0 K).trans ((if_neg n75).trans (if_neg (fun z => c5 ((le50 (by omega)).mp z))))⟩
    rw [er]
    by_cases c : a = k
    · rw [if_pos c]
      refine ⟨?_, p2.b _, ?_⟩
      · rw [if_pos (congrArg nI c)]; exact st_i_s _ _ _ _
      · rw [if_pos rfl]; exact nI_1 i
    · rw [if_neg c]
      show gI (st_i σ1 66 8 _) 66 8 = nI i
      rw [if_neg (nik (by omega) (by omega) c)]
      exact st_i_s _ _ _ _
theorem run_b {N i k : Nat} {σ0 : st_S} {w : List (Nat × Nat × Nat)} {q : Nat × Nat × Nat} (hq : gC σ0 + 200000 < vz_M0) (hi : w[i]? = some q) (hi' : i < 20000) (hqk : q.1 = k) (hk : k < 40) : ∀ (n : Nat) (S : List Nat) (v : Nat) (σ : st_S) (o : Option (List Nat × Nat)), W3 σ w → Fx σ0 σ → gI σ 66 8 = -1 → Wt σ S v → IV S v → 50 ∈ S → S.length + 6 * n ≤ 10000 → rx k n S v = some o → ∃ σ' j m, m ≤ n ∧ Fx σ0 σ' ∧ W3 σ' w ∧ (B78 σ' ∧ Tk k i o j σ') ∧ ∀ K, L_147 N (K + m) (nI i) σ = L_147 N K j σ' := by
  intro n
  induction n with
  | zero => intro S v σ o hw f hb h hv h5 hl e; cases e
  | succ n ih =>
    intro S v σ o hw f hb h hv h5 hl e
    cases S with
    | nil =>
      cases h5
    | cons a S =>
      have hl : S.length + 1 + 6 * (n + 1) ≤ 10000 := hl
      obtain ⟨σ1, j, t1, tb, t2, t3⟩ := turn_b (N := N) hq hw hi hi' hqk hk hb h f (by omega) hv
      have e : (match rst k a S v with
        | none => some none
        | some (s', v', b) => if b then some (some (s', v')) else rx k n s' v') = some o := e
      have hw1 : W3 σ1 w := by
        obtain ⟨h1, h2, h3, h4, h5, h6⟩ := hw
        have g1 := f.2.2.2.1 72 (by decide)
        have g2 := f.2.2.2.1 74 (by decide)
        have g3 := f.2.2.2.1 76 (by decide)
        have z1 := t1.2.2.2.1 72 (by decide)
        have z2 := t1.2.2.2.1 74 (by decide)
        have z3 := t1.2.2.2.1 76 (by decide)
        exact ⟨h1.fr ((t1.1 71 1 (by decide)).trans (f.1 71 1 (by decide)).symm) (z1.1.trans g1.1.symm) (z1.2.trans g1.2.symm), h2.fr ((t1.1 73 1 (by decide)).trans (f.1 73 1 (by decide)).symm) (z2.1.trans g2.1.symm) (z2.2.trans g2.2.symm), h3.fr ((t1.1 75 1 (by decide)).trans (f.1 75 1 (by decide)).symm) (z3.1.trans g3.1.symm) (z3.2.trans g3.2.symm), by rw [z1.1, ← g1.1]; exact h4, by rw [z2.1, ← g2.1]; exact h5, by rw [z3.1, ← g3.1]; exact h6⟩
      cases er : rst k a S v with
      | none =>
        rw [er] at e t2
        obtain rfl := Option.some.inj e
        exact ⟨σ1, j, 1, by omega, t1, hw1, ⟨tb, t2⟩, t3⟩
      | some z =>
        obtain ⟨S', v', b⟩ := z
        rw [er] at e t2
        obtain ⟨y1, y2, -⟩ := iv_st hv er
        obtain ⟨u1, u2, u3⟩ := t2
        cases b with
        | true =>
          have e : some (some (S', v')) = some o := e
          obtain rfl := Option.some.inj e
          exact ⟨σ1, j, 1, by omega, t1, hw1, ⟨tb, u1, u2, y1, u3, fun q => st_50 hv h5 er (Or.inr q)⟩, t3⟩
        | false =>
          have e : rx k n S' v' = some o := e
          have u3 : j = nI i := u3
          subst u3
          obtain ⟨σ2, j2, m, g1, g2, g3, g4, g5⟩ := ih S' v' σ1 o hw1 t1 u1 u2 y1 (st_50 hv h5 er (Or.inl rfl)) (by omega) e
          exact ⟨σ2, j2, m + 1, by omega, g2, g3, g4, fun K => by rw [← Nat.add_assoc, t3, g5]⟩
theorem all_b {N : Nat} {σ0 : st_S} {w : List (Nat × Nat × Nat)} (hq : gC σ0 + 200000 < vz_M0) (hlen : w.length < 20000) : ∀ (t : List (Nat × Nat × Nat)) (i : Nat) (c : Cs) (S : List Nat) (v : Nat) (σ : st_S), w.drop i = t → wok (t.map fun q => q.1) = true → okC c = true → At c S v → W3 σ w → Fx σ0 σ → gI σ 66 8 = -1 → Wt σ S v → IV S v → 50 ∈ S → ∃ σ' r, Fx σ0 σ' ∧ (W3 σ' w ∧ B78 σ') ∧ Rdn (crd (t.map fun q => q.1) c i) r σ' ∧ ∀ K, 1101 * t.length + 1 ≤ K → L_147 N K (nI i) σ = some (r, σ') := by
  intro t
  induction t with
  | nil => intro i c S v σ ht hok; cases hok
  | cons q t ih =>
    intro i c S v σ ht hok hc hat hw f hb h hv h5
    have hi : w[i]? = some q := by
      have : (w.drop i)[0]? = some q := by rw [ht]; rfl
      rw [List.getElem?_drop] at this
      exact this
    have ht' : w.drop (i + 1) = t := by
      rw [← List.drop_drop, ht]; rfl
    have hi' : i < 20000 := by
      have := (List.getElem?_eq_some_iff.mp hi).1
      omega
    have hok : (decide (q.1 < 40) && (q.1 == 0 || q.1 == 39 || wok (t.map fun q => q.1))) = true := hok
    obtain ⟨k1, k2⟩ := Bool.and_eq_true_iff.mp hok
    have k1 := of_decide_eq_true k1
    have hlS := hat.len hc
    have ec : crd ((q :: t).map fun q => q.1) c i = if q.1 = 0 then (if c.1 = 0 then none else some i) else match cst q.1 c with
      | none => some i
      | some c' => crd (t.map fun q => q.1) c' (i + 1) := rfl
    have el : (q :: t).length = t.length + 1 := rfl
    rw [ec, el]
    by_cases c0 : q.1 = 0
    · rw [if_pos c0]
      by_cases d0 : c.1 = 0
      · rw [if_pos d0]
        have en : Ends q.1 1101 (S, v) (some ([], lam c)) := by
          refine hat.ends ?_
          rw [c0]
          have : phi c = [50] := by
            obtain ⟨w', r', v', s', b'⟩ := c
            have d0 : w' = 0 := d0
            subst d0
            rfl
          rw [this]
          exact (Ends.tk rfl).mo (by omega)
        obtain ⟨n, n1, n2⟩ := en
        obtain ⟨σ1, j, m, g1, g2, g3, ⟨gb, g4⟩, g5⟩ := run_b (N := N) hq hi hi' rfl k1 n S v σ _ hw f hb h hv h5 (by omega) n2
        obtain ⟨y1, y2, y3, y4, y5⟩ := g4
        refine ⟨σ1, 1, g2, ⟨g3, gb⟩, rfl, fun K hK => ?_⟩
        obtain ⟨K', rfl⟩ : ∃ K', K = K' + 1 + m := ⟨K - 1 - m, by omega⟩
        rw [g5]
        exact L147_yes y1 y2
      · rw [if_neg d0]
        have en : Ends q.1 1101 (S, v) none := by
          refine hat.ends ?_
          rw [c0]
          exact sim0 d0 hc
        obtain ⟨n, n1, n2⟩ := en
        obtain ⟨σ1, j, m, g1, g2, g3, ⟨gb, g4⟩, g5⟩ := run_b (N := N) hq hi hi' rfl k1 n S v σ _ hw f hb h hv h5 (by omega) n2
        refine ⟨σ1, 0, g2, ⟨g3, gb⟩, ⟨rfl, g4⟩, fun K hK => ?_⟩
        obtain ⟨K', rfl⟩ : ∃ K', K = K' + 1 + m := ⟨K - 1 - m, by omega⟩
        rw [g5]
        exact L147_no g4 hi'
    · rw [if_neg c0]
      obtain ⟨o, z1, z2⟩ := sim k1 c0 hc
      obtain ⟨n, n1, n2⟩ := hat.ends z1
      obtain ⟨σ1, j, m, g1, g2, g3, ⟨gb, g4⟩, g5⟩ := run_b (N := N) hq hi hi' rfl k1 n S v σ _ hw f hb h hv h5 (by omega) n2
      cases o with
      | none =>
        rw [rel_n z2]
        refine ⟨σ1, 0, g2, ⟨g3, gb⟩, ⟨rfl, g4⟩, fun K hK => ?_⟩
        obtain ⟨K', rfl⟩ : ∃ K', K = K' + 1 + m := ⟨K - 1 - m, by omega⟩
        rw [g5]
        exact L147_no g4 hi'
      | some p =>
        obtain ⟨S', v'⟩ := p
        obtain ⟨c', e1, e2, e3⟩ := rel_s z2
        rw [e1]
        obtain ⟨y1, y2, y3, y4, y5⟩ := g4
        have hok' : wok (t.map fun q => q.1) = true := by
          rcases Bool.or_eq_true_iff.mp k2 with k2 | k2
          · rcases Bool.or_eq_true_iff.mp k2 with k2 | k2
            · exact absurd (eq_of_beq k2) c0
            · rw [eq_of_beq k2, cst_39] at e1; cases e1
          · exact k2
        obtain ⟨σ2, r, x1, x2, x3, x4⟩ := ih (i + 1) c' S' v' σ1 ht' hok' e2 e3 g3 g2 y1 y2 y3 (y5 c0)
        refine ⟨σ2, r, x1, x2, x3, fun K hK => ?_⟩
        obtain ⟨K', rfl⟩ : ∃ K', K = K' + m := ⟨K - m, by omega⟩
        rw [g5, y4]
        exact x4 K' (by omega)
theorem F147b {N : Nat} {l : List Int32} {σ : st_S} (hN : 20000000 < N) (hq : gC σ + 200000 < vz_M0) (hw : W3 σ (wds l)) (hl : l.length ≤ 16384) (h78 : 16 ≤ gN σ 78 ∧ gN σ 78 ≤ 40000) : ∃ σ' r, F_147 N σ = some (r, σ') ∧ Rdn (crd (kds l) c0 0) r σ' ∧ Fx σ σ' ∧ W3 σ' (wds l) ∧ B78 σ' := by
  have r0 : Fx σ (st_i (st_i (st_i σ 77 1 0) 66 7 0) 66 8 (-1)) := Fr.t0 (Fr.i _ _ (by decide)) (Fr.t0 (Fr.i _ _ (by decide)) (Fr.i _ _ (by decide)))
  have w0 : Wt (st_i (st_i (st_i σ 77 1 0) 66 7 0) 66 8 (-1)) [] 0 := ⟨⟨rfl, Nat.zero_le _, h78.1, fun j q => absurd q (Nat.not_lt_zero j)⟩, h78.2, rfl⟩
  obtain ⟨σ1, e1, w1, f1⟩ := wadd (N := N) hq w0 r0 (Nat.zero_le _) 50
  have hw1 := hw.fx f1
  have hb : gI σ1 66 8 = -1 := by
    have e2 : N_133 N 77 50 (st_i (st_i (st_i σ 77 1 0) 66 7 0) 66 8 (-1)) = some σ1 := e1
    obtain ⟨σ'', z1, -, z2, -⟩ := N133' (N := N) (o := 77) (b := 78) (v := 50) rfl (by decide) w0.1 (by show gN σ 78 ≤ _; omega) (by show gC σ + 188 < _; omega)
    rw [z1] at e2
    obtain rfl := Option.some.inj e2
    exact z2.1 66 8 (by decide)
  obtain ⟨k1, k2⟩ := ws_ok l l.length (skp l 0)
  obtain ⟨σ2, r, x1, x2, x3, x4⟩ := all_b (N := N) (w := wds l) hq (by show (ws l l.length (skp l 0)).length < 20000; omega) (wds l) 0 c0 [50] 0 σ1 rfl k1 (by decide) (Or.inl rfl) hw1 f1 hb w1 ⟨rfl, rfl, Nat.zero_le _⟩ (List.mem_singleton.mpr rfl)
  refine ⟨σ2, r, ?_, x3, x1, x2⟩
  unfold F_147
  have e1 : N_133 N 77 50 (st_i (st_i (st_i σ 77 1 0) 66 7 0) 66 8 (-1)) = some σ1 := e1
  rw [e1, ob_some]
  refine x4 N ?_
  have : (wds l).length ≤ l.length + 1 := k2
  omega
