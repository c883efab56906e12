/-! the reference: all of a rule is looked at -/
/-- roots in a row, what follows -/
def Pc (D : Nat → Nat → Int32) : Int32 → List Nat → Int32 → Prop
  | v, [], nx => v = nx
  | v, s :: S, nx => v = nI s ∧ Pc D (D s 5) S nx
section LF
variable {l : List Int32} {w : List (Nat × Nat × Nat)} {V : Nat → Int32 → Prop} {D D' : Nat → Nat → Int32} {E : List En}
theorem Pc.pk : ∀ {S : List Nat} {v : Int32}, Pc D v S (-1) → Pk D v S := by
  intro S
  induction S with
  | nil => intro v h; exact h
  | cons s S ih => intro v h; exact ⟨h.1, ih h.2⟩
theorem Pc.app {S' : List Nat} {b nx : Int32} : ∀ {S : List Nat} {v : Int32}, Pc D v S b → Pc D b S' nx → Pc D v (S ++ S') nx := by
  intro S
  induction S with
  | nil =>
    intro v h h'
    have h : v = b := h
    subst h
    exact h'
  | cons s S ih => intro v h h'; exact ⟨h.1, ih h.2 h'⟩
theorem Rt.pc : ∀ {T : Tr} {a : Nat} {nx : Int32}, Rt l w V D T a nx → Pc D (nI a) (rts T a) nx := by
  intro T
  induction T with
  | leaf k => intro a nx h; exact ⟨rfl, h.2.2.2.2⟩
  | branch n l' r il ir =>
    intro a nx h
    unfold Rt at h
    rcases tcl_4 (n % 64) with c | c | c | c
    · rw [if_pos c] at h
      rw [rts_0 c]
      exact (il h.1).app (ir h.2)
    · rw [if_neg (by omega), if_pos c] at h
      rw [rts_1 c]
      exact ir h
    · rw [if_neg (by omega), if_neg (by omega)] at h
      rw [rts_2 (by omega)]
      exact ⟨rfl, h.1.2.2⟩
    · rw [if_neg (by omega), if_neg (by omega)] at h
      rw [rts_2 (by omega)]
      exact ⟨rfl, h.1.2.2⟩
theorem rts_len : ∀ (T : Tr) (a : Nat), (rts T a).length ≤ rln T := by
  intro T
  induction T with
  | leaf k => intro a; exact Nat.le_refl _
  | branch n l r il ir =>
    intro a
    rcases tcl_4 (n % 64) with c | c | c | c
    · rw [rts_0 c, rln_0 c, List.length_append]
      have := il a
      have := ir (a + rln l)
      omega
    · rw [rts_1 c, rln_1 c]; exact ir a
    · rw [rts_2 (by omega), rln_2 c]; show 1 ≤ _; omega
    · rw [rts_2 (by omega), rln_3 c]; show 1 ≤ _; omega
theorem rts_l1 (T : Tr) (a : Nat) : 1 ≤ (rts T a).length := by
  cases h : rts T a with
  | nil => exact absurd h (rts_ne T a)
  | cons x S => rw [List.length_cons]; omega
/-- the value of a name: its number -/
def Vx (l : List Int32) (w : List (Nat × Nat × Nat)) (E : List En) (k : Nat) (v : Int32) : Prop := ∃ j, fnd l w E k = some j ∧ v = vix E j
/-- the truths of a forest -/
def KS (T : Tr) (ks : List Nat) (kd : Nat) : Prop := (∀ k ∈ ks, k ≤ 1) ∧ (lev T ≤ 6 → ks = [kd - 1] ∧ (kd = 1 ∨ kd = 2)) ∧ (lev T ≤ 7 → (kd = 1 ↔ ks.sum = 0)) ∧ (lev T = 8 → ∃ kx ky, (kx = 1 ∨ kx = 2) ∧ (ky = 1 ∨ ky = 2) ∧ ks = [kx - 1, ky - 1] ∧ kd = if kx = ky then kx else 0)
theorem KS.one {T : Tr} {kd : Nat} (hl : lev T ≤ 6) (hk : kd = 1 ∨ kd = 2) : KS T [kd - 1] kd := by
  refine ⟨fun k hk' => ?_, fun _ => ⟨rfl, hk⟩, fun _ => ?_, fun z => by omega⟩
  · have : k = kd - 1 := by simpa using hk'
    omega
  · show kd = 1 ↔ kd - 1 + 0 = 0
    omega
theorem lk_b {op pl ka kb : Nat} (hb : bin op = true) (ha : ka = 1 ∨ ka = 2) (hb2 : kb = 1 ∨ kb = 2) : kr pl op ka kb = if (lkr (opk op) 2 [ka - 1, kb - 1]).1 = true then .inr ((lkr (opk op) 2 [ka - 1, kb - 1]).2 + 1) else .inl (3, pl) := by
  have bf := bin_f hb
  have : op = 4 ∨ op = 5 ∨ op = 6 ∨ op = 7 ∨ op = 8 ∨ op = 10 ∨ op = 11 ∨ op = 12 ∨ op = 13 ∨ op = 14 ∨ op = 15 ∨ op = 17 ∨ op = 18 := by omega
  rcases this with rfl | rfl | rfl | rfl | rfl | rfl | rfl | rfl | rfl | rfl | rfl | rfl | rfl <;> rcases ha with rfl | rfl <;> rcases hb2 with rfl | rfl <;> rfl
theorem lk_c {pl kc kx ky : Nat} (hc : kc = 1 ∨ kc = 2) (hx : kx = 1 ∨ kx = 2) (hy : ky = 1 ∨ ky = 2) : kr pl 19 kc (if kx = ky then kx else 0) = if (lkr 32 3 [kc - 1, kx - 1, ky - 1]).1 = true then .inr ((lkr 32 3 [kc - 1, kx - 1, ky - 1]).2 + 1) else .inl (3, pl) := by
  rcases hc with rfl | rfl <;> rcases hx with rfl | rfl <;> rcases hy with rfl | rfl <;> rfl
theorem lk_9 {pl ka : Nat} (ha : ka = 1 ∨ ka = 2) : ku pl 9 ka = if (lkr 45 1 [ka - 1]).1 = true then .inr ((lkr 45 1 [ka - 1]).2 + 1) else .inl (3, pl) := by
  rcases ha with rfl | rfl <;> rfl
theorem lk_16 {pl ka : Nat} (ha : ka = 1 ∨ ka = 2) : ku pl 16 ka = if (lkr 31 1 [ka - 1]).1 = true then .inr ((lkr 31 1 [ka - 1]).2 + 1) else .inl (3, pl) := by
  rcases ha with rfl | rfl <;> rfl
theorem lk_22 {pl ka s m : Nat} {ks : List Nat} (hs : s = 14 ∨ s = 15) (h : ka = 1 ↔ ks.sum = 0) : ku pl 22 ka = if (lkr s m ks).1 = true then .inr ((lkr s m ks).2 + 1) else .inl (3, pl) := by
  have e : lkr s m ks = (decide (ks.sum = 0), 0) := by
    unfold lkr
    rw [if_neg (by omega), if_neg (by omega), if_neg (by omega), if_neg (by omega), if_neg (by omega), if_neg (by omega)]
  rw [e]
  by_cases c : ka = 1
  · rw [decide_eq_true (h.mp c), c]; rfl
  · rw [decide_eq_false (fun z => c (h.mpr z))]
    unfold ku
    rw [if_neg (by decide), if_neg (by decide), if_neg c]
    rfl
theorem lkr_2 (s m : Nat) (ks : List Nat) (h : ∀ k ∈ ks, k ≤ 1) : (lkr s m ks).2 ≤ 1 := by
  have kb : ∀ j, ks.getD j 0 ≤ 1 := fun j => by
    rw [List.getD_eq_getElem?_getD]
    cases hj : ks[j]? with
    | none => exact Nat.zero_le _
    | some v => exact h v (List.mem_of_getElem? hj)
  unfold lkr
  repeat' split
  all_goals first
    | exact kb 2
    | exact Nat.le_refl _
    | exact Nat.zero_le _
end LF
section LF2
variable {N g x n : Nat} {σ σ0 : st_S} {D : Nat → Nat → Int32} {w : List (Nat × Nat × Nat)} {l : List Int32} {E : List En} {R B : List (Nat × Nat)} {Vs : List Int32} {co : Bool}
/-- what looking comes to -/
def LkO (N g x : Nat) (l : List Int32) (w : List (Nat × Nat × Nat)) (E : List En) (co : Bool) (σ0 σ : st_S) (B : List (Nat × Nat)) (Vs : List Int32) (n : Nat) (D : Nat → Nat → Int32) (T : Tr) (a : Nat) (nx : Int32) (b : Nat) (o : Rs Nat) : Prop := match o with
  | .inl e => ∃ σ' c, c ≤ b ∧ (∀ f, L_179 N g x (f + c + 1) 32 (if co = true then 1 else 0) 0 0 σ = some (0, σ')) ∧ gI σ' 66 16 = nI e.1 ∧ gI σ' 66 17 = nI e.2 ∧ (∃ R' V' D', LQ g x l w E σ0 σ' R' V' n D')
  | .inr kd => ∃ σ' D' ks c, c ≤ b ∧ (∀ f, L_179 N g x (f + c) 32 (if co = true then 1 else 0) 0 0 σ = L_179 N g x f 32 (if co = true then 1 else 0) 0 0 σ') ∧ gI σ' 66 16 = 0 ∧ LQ g x l w E σ0 σ' B (Vs ++ ks.map nI) n D' ∧ (∀ i, (i < a ∨ a + rln T ≤ i) → D' i = D i) ∧ Rt l w (Vx l w E) D' T a nx ∧ KS T ks kd ∧ ks.length = (rts T a).length
/-- a fault ends it -/
theorem L179f {l2 : Int32} (h : LQ g x l w E σ0 σ R Vs n D) (hf : ¬ gI σ 66 16 = 0) : ∀ f, L_179 N g x (f + 1) 32 l2 0 0 σ = some (0, σ) := fun f => by
  have j : J_179_174 N g x σ = some (0, σ) := by
    unfold J_179_174
    rw [if_neg hf]
  unfold L_179
  rw [if_pos rfl, j]
  by_cases c : gI σ 161 1 ≤ 0
  · rw [if_pos c]
  · rw [if_neg c, if_neg hf]
/-- a node whose parts are done, or that has none -/
theorem L179d (G : LGv N g x l w E σ0) {l2 : Int32} {a d : Nat} (h : LQ g x l w E σ0 σ (R ++ [(a, d)]) Vs n D) (hf : gI σ 66 16 = 0) (ha : a < n) (hn : n ≤ 20000) (hd : d = 1 ∨ (d = 0 ∧ D a 4 = -1)) (hR : R.length < 25000) : ∃ s2, LQ g x l w E σ0 s2 R Vs n D ∧ gI s2 66 16 = 0 ∧ ∀ σ', F_180 N g x (nI a) l2 s2 = some σ' → ∀ f, L_179 N g x (f + 1) 32 l2 0 0 σ = L_179 N g x f 32 l2 0 0 σ' := by
  obtain ⟨hg, hx, hN, -⟩ := G
  obtain ⟨s1, s2, a1, a2, a3, a4⟩ := lq_take (N := N) hg hx h
  have gs : gI σ 161 1 = nI (2 * (R.length + 1)) := by
    have := h.2.2.2.2.1.1.1
    rw [g2_len, List.length_append] at this
    exact this
  have at4 : N_139 N (g + 9) (nI a) s2 = some (D a 4, s2) := nf_at (a3.2.2.2.2.2.2 4 (by decide)) ha
  refine ⟨s2, a3, (a4.1 66 16 (by simp)).trans hf, fun σ' h1 f => ?_⟩
  conv => lhs; unfold L_179
  rw [if_pos rfl, gs, if_neg (fun z => by have := (nI_lei (b := 0) (by omega) (by decide)).mp z; omega), if_pos hf, a1, ob_some]
  dsimp only
  rw [a2, ob_some]
  dsimp only
  rw [at4, ob_some]
  dsimp only
  rcases hd with rfl | ⟨rfl, hd⟩
  · rw [if_pos (show nI 1 = 1 from rfl), h1, ob_some]
  · rw [if_neg (show ¬ nI 0 = 1 by decide), hd, if_neg (by decide), h1, ob_some]
theorem kd0_app (S S' : List Nat) : kd0 (S ++ S') = kd0 S ++ kd0 S' := by unfold kd0; rw [List.map_append]
/-- a node, when its parts are done -/
theorem lk_end (G : LGv N g x l w E σ0) {T : Tr} {a s pl : Nat} {nx : Int32} {cs ks : List Nat} {o : Rs Nat} (h : LQ g x l w E σ0 σ (B ++ [(a, 1)]) (Vs ++ ks.map nI) n D) (hf : gI σ 66 16 = 0) (ha : a < n) (hn : n ≤ 20000) (hB : B.length < 25000) (hs : D a 0 = nI s) (hs2 : s < 46) (hs1 : s ≠ 1) (hp : D a 1 = nI pl) (hk : Pk D (D a 4) cs) (hc : ∀ c ∈ cs, c < n) (hl : ks.length = cs.length) (hl2 : Vs.length + ks.length < 30000) (h1 : ∀ k ∈ ks, k ≤ 1) (h32 : s = 32 → ks.length = 3) (hT : lev T ≤ 6) (hR : Rt l w (Vx l w E) D T a nx) (hr : rts T a = [a]) (ho : o = if (lkr s cs.length ks).1 = true then .inr ((lkr s cs.length ks).2 + 1) else .inl (3, pl)) : LkO N g x l w E co σ0 σ B Vs n D T a nx 1 o := by
  obtain ⟨s2, a1, a2, a3⟩ := L179d (l2 := if co = true then 1 else 0) G h hf ha hn (Or.inl rfl) hB
  obtain ⟨σ', b1, b2, b3⟩ := F180 (co := if co = true then 1 else 0) G a1 a2 hn ha hs hs2 hs1 hp hk hc hl hl2 h1 h32
  have go := a3 σ' b1
  have l2 := lkr_2 s cs.length ks h1
  cases hg : (lkr s cs.length ks).1 with
  | true =>
    rw [hg, if_pos rfl] at ho b3
    rw [ho]
    have kk : (lkr s cs.length ks).2 + 1 - 1 = (lkr s cs.length ks).2 := Nat.add_sub_cancel ..
    have ko := KS.one (T := T) (kd := (lkr s cs.length ks).2 + 1) hT (by omega)
    rw [kk] at ko
    exact ⟨σ', D, [(lkr s cs.length ks).2], 1, Nat.le_refl _, go, b3, b2, fun _ _ => rfl, hR, ko, by rw [hr]; rfl⟩
  | false =>
    rw [hg, if_neg Bool.false_ne_true] at ho b3
    rw [ho]
    refine ⟨σ', 1, Nat.le_refl _, fun f => ?_, b3.1, b3.2, _, _, _, b2⟩
    rw [show f + 1 + 1 = f + 1 + 1 from rfl, go, L179f b2 (by rw [b3.1]; decide)]
/-- runs, one behind another -/
theorem LkO.pr {σ1 : st_S} {D1 : Nat → Nat → Int32} {T : Tr} {a c b b' : Nat} {nx : Int32} {o : Rs Nat} (h : LkO N g x l w E co σ0 σ1 B Vs n D1 T a nx b o) (hr : ∀ f, L_179 N g x (f + c) 32 (if co = true then 1 else 0) 0 0 σ = L_179 N g x f 32 (if co = true then 1 else 0) 0 0 σ1) (hD : ∀ i, (i < a ∨ a + rln T ≤ i) → D1 i = D i) (hb : b + c ≤ b') : LkO N g x l w E co σ0 σ B Vs n D T a nx b' o := by
  cases o with
  | inl e =>
    obtain ⟨σ', c', h1, h2, h3⟩ := h
    refine ⟨σ', c' + c, by omega, fun f => ?_, h3⟩
    rw [show f + (c' + c) + 1 = f + c' + 1 + c by omega, hr, h2]
  | inr kd =>
    obtain ⟨σ', D', ks, c', h1, h2, h3, h4, h5, h6⟩ := h
    refine ⟨σ', D', ks, c' + c, by omega, fun f => ?_, h3, h4, fun i hi => (h5 i hi).trans (hD i hi), h6⟩
    rw [← Nat.add_assoc, hr, h2]
end LF2
