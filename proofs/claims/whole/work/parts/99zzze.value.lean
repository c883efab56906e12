/-! the reference works out: a rule's value -/
/-- the roots that are begun -/
def rtc : Tr → Nat → Bool → List Nat
  | .leaf _, a, _ => [a]
  | .branch n l r, a, c => if n % 64 = 37 then (if c = true then rts l a else rts r (a + rln l)) else rts (.branch n l r) a
/-- the values of a list, and their best -/
def Fks (T : Tr) (ks : List (Int64 × Int64)) (v : Int64 × Int64) : Prop := (lev T ≠ 7 → ks = [v]) ∧ (lev T ≤ 7 → ∀ n0, fo n0 T → ∃ k0 ks', ks = k0 :: ks' ∧ v = ks'.foldl (bst (n0 % 64)) k0) ∧ (lev T = 7 → (∀ k ∈ ks, okv 1 k) ∧ ∀ a, ks.length = (rts T a).length)
theorem Fks.one {T : Tr} (h : lev T ≠ 7) (v : Int64 × Int64) : Fks T [v] v := ⟨fun _ => rfl, fun _ _ _ => ⟨v, [], rfl, rfl⟩, fun z => absurd z h⟩
def rsz (pl : Nat) : Nat ⊕ (Int64 × Int64) → Rs (Int64 × Int64)
  | .inl f => .inl (f, pl)
  | .inr v => .inr v
/-- what working out comes to -/
def WOc (N g : Nat) (l : List Int32) (w : List (Nat × Nat × Nat)) (E : List En) (vs : Nat → Int32) (m : Nat) (σ0 σ : st_S) (B : List (Nat × Nat)) (V : List (Int64 × Int64)) (T : Tr) (b : Nat) (o : Rs (Int64 × Int64)) : Prop := match o with
  | .inl e => ∃ σ' c, c ≤ b ∧ (∀ f, L_185 N g (f + c + 1) σ = some σ') ∧ gI σ' 66 16 = nI e.1 ∧ gI σ' 66 17 = nI e.2 ∧ FW σ0 σ' ∧ gN σ' 168 = 60 ∧ ∃ L, Sk σ' 165 L
  | .inr v => ∃ σ' c ks, c ≤ b ∧ (∀ f, L_185 N g (f + c) σ = L_185 N g f σ') ∧ WQ l w E vs m σ0 σ' B (V ++ ks) ∧ Fks T ks v ∧ ks.length ≤ rln T
def EvR (N g n : Nat) (l : List Int32) (w : List (Nat × Nat × Nat)) (E : List En) (vs : Nat → Int32) (fa : Nat → Nat) (cc : Bool) (m : Nat) (σ0 : st_S) (D : Nat → Nat → Int32) (m' : Nat) (T : Tr) : Prop := ∀ (co : Bool) (σ : st_S) (B : List (Nat × Nat)) (V : List (Int64 × Int64)) (a : Nat) (nx : Int32) (c : Bool) (kd b : Nat), (cc = true → co = true) → Wf w T → NBf l w E m' T → chk l w E co T = .inr kd → kd ≠ 0 → Rt l w (Vx l w E) D T a nx → a + rln T ≤ n → (∀ j, j < m' → (E.getD j eN).2.1 = 2 → fa j + rln (fTr E j) ≤ b) → WQ l w E vs m σ0 σ (B ++ kz (rtc T a c).reverse) V → B.length + rln T + b ≤ 24000 → V.length + rln T + b ≤ 16400 → WOc N g l w E vs m σ0 σ B V T (rln T * Kc m') (evl l w E (fvn l w E vs) T c)
section EW
variable {N g n : Nat} {σ σ0 σ1 : st_S} {D : Nat → Nat → Int32} {w : List (Nat × Nat × Nat)} {l : List Int32} {E : List En} {vs : Nat → Int32} {fa : Nat → Nat} {cc : Bool} {m m' : Nat} {B R : List (Nat × Nat)} {V ks : List (Int64 × Int64)} {T : Tr}
/-- runs, one behind another -/
theorem WOc.pr {b b' c : Nat} {o : Rs (Int64 × Int64)} (h : WOc N g l w E vs m σ0 σ1 B V T b o) (hr : ∀ f, L_185 N g (f + c) σ = L_185 N g f σ1) (hb : b + c ≤ b') : WOc N g l w E vs m σ0 σ B V T b' o := by
  cases o with
  | inl e =>
    obtain ⟨σ', c', h1, h2, h3⟩ := h
    refine ⟨σ', c' + c, by omega, fun f => ?_, h3⟩
    rw [show f + (c' + c) + 1 = f + c' + 1 + c by omega, hr, h2]
  | inr v =>
    obtain ⟨σ', c', ks, h1, h2, h3⟩ := h
    refine ⟨σ', c' + c, ks, by omega, fun f => ?_, h3⟩
    rw [← Nat.add_assoc, hr, h2]
/-- a fault goes on -/
theorem wo_e {b b' c : Nat} {e : Nat × Nat} {B' : List (Nat × Nat)} {V' : List (Int64 × Int64)} {T' : Tr} (h : WOc N g l w E vs m σ0 σ1 B' V' T' b (.inl e)) (hr : ∀ f, L_185 N g (f + c) σ = L_185 N g f σ1) (hb : b + c ≤ b') : WOc N g l w E vs m σ0 σ B V T b' (.inl e) := by
  obtain ⟨σ', c', h1, h2, h3⟩ := h
  refine ⟨σ', c' + c, by omega, fun f => ?_, h3⟩
  rw [show f + (c' + c) + 1 = f + c' + 1 + c by omega, hr, h2]
/-- a value is there -/
theorem wo_v {v : Int64 × Int64} (h : WQ l w E vs m σ0 σ B (V ++ [v])) (hT : lev T ≠ 7) : WOc N g l w E vs m σ0 σ B V T 0 (.inr v) := ⟨σ, 0, [v], Nat.le_refl _, fun _ => rfl, h, Fks.one hT v, rln_pos T⟩
/-- a leaf with a value -/
theorem wo_l {a : Nat} {v : Int64 × Int64} (h : WQ l w E vs m σ0 σ (B ++ [(0, a)]) V) (hp : ∀ s2, WQ l w E vs m σ0 s2 B V → PuO s2 V 0 (.inr v) (F_187 N g (nI a) s2)) (hT : lev T ≠ 7) : WOc N g l w E vs m σ0 σ B V T 1 (.inr v) := by
  obtain ⟨s2, a1, a2, -⟩ := L185s (N := N) (g := g) h
  obtain ⟨s3, b1, b2⟩ := wq_puo a1 (hp s2 a1)
  exact (wo_v b2 hT).pr (c := 1) (a2 rfl s3 b1) (Nat.le_refl _)
/-- a node, when its parts have values -/
theorem wo_fin (G : GW N g n l w E vs fa cc m σ0 D) {a s pl : Nat} {cs : List Nat} {o : Nat ⊕ (Int64 × Int64)} {z : Rs (Int64 × Int64)} (h : WQ l w E vs m σ0 σ (B ++ [(1, a)]) (V ++ ks)) (ha : a < n) (h0 : D a 0 = nI s) (h1 : D a 1 = nI pl) (hk : Pk D (D a 4) cs) (hc : ∀ c ∈ cs, c < n) (hl : cs.length ≤ 20000) (hp : ∀ s2, WQ l w E vs m σ0 s2 B (V ++ ks) → ∀ f, PuO s2 V pl o (L_192 N g (f + 1) (nI s) (nI pl) (nI cs.length) (-1) s2)) (hT : lev T ≠ 7) (hz : z = rsz pl o) (ho : ∀ f, o = .inl f → f = 6 ∨ f = 7 ∨ f = 8) : WOc N g l w E vs m σ0 σ B V T 1 z := by
  obtain ⟨hg, hN, -, hq, hn, -, -, hD, -⟩ := G
  obtain ⟨s2, a1, -, a2, -⟩ := L185s (N := N) (g := g) h
  have hD2 : DS s2 g n D := hD.fw hg a1.1
  obtain ⟨f, F⟩ := L192e hN hD2 ha (by omega) h0 h1 hk hc hl
  obtain ⟨s3, b1, b2⟩ := wq_puo a1 (hp s2 a1 f)
  have go := a2 rfl s3 (by rw [F]; exact b1)
  cases o with
  | inl f =>
    rw [hz]
    refine ⟨s3, 1, Nat.le_refl _, fun q => ?_, b2⟩
    rw [show q + 1 + 1 = q + 1 + 1 from rfl, go, L185f]
    rw [b2.1]
    rcases ho f rfl with z | z | z <;> (rw [z]; decide)
  | inr v =>
    rw [hz]
    exact (wo_v b2 hT).pr (c := 1) go (Nat.le_refl _)
theorem rk_f {op f : Nat} {a b c d : Int64} (h : rk op a b c d = .inl f) : f = 6 ∨ f = 7 ∨ f = 8 := by
  have fr6 : ∀ x y : Int64, fra x y = .inl f → f = 6 := fun x y h => by
    unfold fra at h
    split at h
    · injection h with h; exact h.symm
    · cases h
  unfold rk at h
  repeat' split at h
  all_goals first
    | exact Or.inl (fr6 _ _ h)
    | (injection h with h; omega)
    | cases h
/-- a leaf -/
theorem ew_leaf (G : GW N g n l w E vs fa cc m σ0 D) (hm : m' ≤ m) (IH : ∀ j, j < m' → EvR N g n l w E vs fa cc m σ0 D j (fTr E j)) (k : Nat) : EvR N g n l w E vs fa cc m σ0 D m' (.leaf k) := by
  intro co σ B V a nx c kd b hcc hw hNB hck hkd hR ha hb hQ hB hV
  have K2 := Kc_2 m'
  have ho : opd (kK w k) = true := hw
  simp only [opd, Bool.or_eq_true, decide_eq_true_eq] at ho
  obtain ⟨⟨r0, r1, r2⟩, r3, r4, r5, r6⟩ := hR
  have e1 : rln (.leaf k) = 1 := rfl
  rw [e1] at ha hB hV
  have hT : lev (.leaf k) ≠ 7 := by show 0 ≠ 7; decide
  have hQ : WQ l w E vs m σ0 σ (B ++ [(0, a)]) V := hQ
  have up : ∀ {z}, WOc N g l w E vs m σ0 σ B V (.leaf k) 1 z → WOc N g l w E vs m σ0 σ B V (.leaf k) (rln (.leaf k) * Kc m') z := fun h => h.pr (c := 0) (fun _ => rfl) (by rw [e1]; omega)
  unfold evl
  by_cases c2 : kK w k = 2
  · rw [if_pos c2]
    refine up (wo_l hQ (fun s2 h2 => ?_) hT)
    have := F187n (N := N) G h2 (a := a) (by omega) (by omega) (by rw [r0, c2])
    rw [r3 c2] at this
    exact this
  rw [if_neg c2]
  by_cases c12 : kK w k = 12
  · rw [if_pos c12]
    refine up (wo_l hQ (fun s2 h2 => ?_) hT)
    exact F187t (N := N) G h2 (a := a) (s := 12) (by omega) (by omega) (Or.inl rfl) (by rw [r0, c12])
  rw [if_neg c12]
  by_cases c13 : kK w k = 13
  · rw [if_pos c13]
    refine up (wo_l hQ (fun s2 h2 => ?_) hT)
    exact F187t (N := N) G h2 (a := a) (s := 13) (by omega) (by omega) (Or.inr rfl) (by rw [r0, c13])
  rw [if_neg c13]
  have c1 : kK w k = 1 := by omega
  obtain ⟨j, j1, j2⟩ := r4 c1
  have jl : j < E.length := by
    have hj : E.findIdx? (fun e => swd l w e.1 k) = some j := j1
    exact (List.findIdx?_eq_some_iff_getElem.mp hj).1
  have hco : ¬ (co = true ∧ (E.getD j eN).2.1 ≠ 1) := fun z => by
    unfold chk at hck
    rw [if_neg c2, if_pos c1] at hck
    unfold chn at hck
    rw [j1] at hck
    dsimp only at hck
    rw [if_pos z] at hck
    cases hck
  rw [j1]
  show WOc N g l w E vs m σ0 σ B V (.leaf k) _ (fvn l w E vs j)
  have F : ∀ s2, WQ l w E vs m σ0 s2 B V → F_187 N g (nI a) s2 = (F_190 N g (vix E j) s2).bind fun p => some p := fun s2 h2 => by
    rw [F187m G h2 (by omega) (by rw [r0, c1]), j2]
  have s3 := G.2.2.2.2.2.2.2.2.1.2.2.2.1 j jl
  have sc : (E.getD j eN).2.1 = 1 ∨ (E.getD j eN).2.1 = 2 ∨ (E.getD j eN).2.1 = 3 := by omega
  rcases sc with s1 | s1 | s1
  · rw [fvn_c s1]
    refine up (wo_l hQ (fun s2 h2 => ?_) hT)
    rw [F s2 h2]
    exact puo_b (F190c G h2 jl s1 (by omega))
  · have jm : j < m' := hNB c1 j j1 s1
    obtain ⟨s2, a1, a2, -⟩ := L185s (N := N) (g := g) hQ
    rcases F190f (N := N) G a1 (j := j) (by omega) s1 (by omega) (by omega) with ⟨v, v1, v2⟩ | ⟨s3, v1, v2⟩
    · rw [v1]
      obtain ⟨s4, b1, b2⟩ := wq_puo a1 (puo_b v2)
      exact up ((wo_v b2 hT).pr (c := 1) (a2 rfl s4 (by rw [F s2 a1]; exact b1)) (Nat.le_refl _))
    · obtain ⟨-, -, -, -, t9, t10⟩ := G.2.2.2.2.2.2.2.2.1
      obtain ⟨⟨q1, q2, q3⟩, q4, q5, q6, q7, q8, q9⟩ := t9 j (by omega) s1
      have bj := hb j jm s1
      have cc0 : cc = true → false = true := fun z => absurd ⟨hcc z, by omega⟩ hco
      have ev := fvn_f (vs := vs) s1 q6 q8
      have kn : kdn (E.getD j eN) ≠ 0 := by unfold kdn; split <;> decide
      have rt1 : rtc (fTr E j) (fa j) false = [fa j] := by
        cases hT' : fTr E j with
        | leaf q => rfl
        | branch p x y =>
          rw [hT'] at q7 q6
          have p37 : p % 64 ≠ 37 := fun z => by
            have : lvo (p % 64) ≤ 6 := q7
            rw [z] at this
            exact absurd this (by decide)
          show (if p % 64 = 37 then _ else _) = _
          rw [if_neg p37]
          exact rts_6 _ q6 q7
      have go := a2 rfl s3 (by rw [F s2 a1, v1, ob_some])
      have W := IH j jm false s3 (B ++ [(3, rnm E j)]) V (fa j) (-1) false (kdn (E.getD j eN)) (fa j) cc0 q6 q8.nf q9 kn q4 q5 (fun i hi si => (t10 i j hi (by omega) si s1).2) (by rw [rt1]; exact v2) (by rw [List.length_append]; show B.length + 1 + _ + _ ≤ _; omega) (by omega)
      have rl : rln (fTr E j) * Kc j ≤ 20000 * Kc j := Nat.mul_le_mul_right _ (by have := G.2.2.2.2.1; omega)
      have kc : 2 + 20000 * Kc j ≤ Kc m' := Kc_mo (a := j + 1) jm
      rw [← ev] at W
      cases hv : fvn l w E vs j with
      | inl e =>
        rw [hv] at W
        exact wo_e W go (by rw [e1]; omega)
      | inr v =>
        rw [hv] at W
        obtain ⟨s5, c5, ks, d1, d2, d3, d4, -⟩ := W
        have ek : ks = [v] := d4.1 (by omega)
        subst ek
        obtain ⟨s6, f1, -, -, -, f2⟩ := L185s (N := N) (g := g) d3
        have g9 : gN s6 169 = 60 ∧ gN s6 170 = 60 := by
          obtain ⟨⟨-, -, -, -, -, -, t7, t8⟩, -⟩ := G.2.2.2.2.2.2.2.2.1
          exact ⟨by rw [(f1.1.2.2.2.1 169 (by simp)).1]; exact t7, by rw [(f1.1.2.2.2.1 170 (by simp)).1]; exact t8⟩
        have go2 := f2 rfl V v rfl (by rw [List.length_append]; show V.length + 1 ≤ _; omega) q1 g9.1 g9.2
        have wm := wq_met G f1 (j := j) (by omega) s1 hv
        refine (wo_v wm hT).pr (c := 1 + (c5 + 1)) (fun f => ?_) (by rw [e1]; omega)
        rw [show f + (1 + (c5 + 1)) = f + 1 + c5 + 1 by omega, go, d2, go2]
  · have ef : fvn l w E vs j = .inr ((vs (E.getD j eN).2.2.2.2.2.2.1).toInt64, if (E.getD j eN).2.2.1 then 0 else 1) := by
      unfold fvn evn
      rw [if_neg (by omega), if_pos s1]
    rw [ef]
    refine up (wo_l hQ (fun s2 h2 => ?_) hT)
    rw [F s2 h2]
    exact puo_b (F190v G h2 jl s1 (by omega))
end EW
