/-! the reference: jobs; the parts of a list; a number's value -/
/-- the jobs, first on top -/
def flt : List (Int32 × Nat × Nat) → List Int32
  | [] => []
  | (p, a, b) :: J => flt J ++ [p] ++ [nI a] ++ [nI b]
theorem flt_len : ∀ J : List (Int32 × Nat × Nat), (flt J).length = 3 * J.length := by
  intro J
  induction J with
  | nil => rfl
  | cons x J ih =>
    obtain ⟨p, a, b⟩ := x
    show (flt J ++ [p] ++ [nI a] ++ [nI b]).length = 3 * (J.length + 1)
    rw [List.length_append, List.length_append, List.length_append, ih]
    show 3 * J.length + 1 + 1 + 1 = _
    omega
/-- the jobs of a tree with parent p -/
def jbs (p : Int32) : Tr → List (Int32 × Nat × Nat)
  | .leaf k => [(p, k, k + 1)]
  | .branch n l r => if n % 64 = 20 ∨ n % 64 = 21 ∨ n % 64 = 37 then jbs p l ++ jbs p r else [(p, bw (.branch n l r), ew (.branch n l r))]
theorem nI_m1 {k : Nat} (h : k < 50000) : (nI k + (-1) : Int32) < nI k := by
  have t1 : (nI k).toInt = (k : Int) := by
    have := iA_t (a := (k : Int)) (by omega) (by omega)
    rw [iA_n] at this
    exact this
  have t2 : (nI k + (-1) : Int32).toInt = (k : Int) - 1 := by
    have e : (nI k + (-1) : Int32) = iA ((k : Int) - 1) := by
      rw [← iA_p, iA_n, Int32.sub_eq_add_neg]
    rw [e, iA_t (by omega) (by omega)]
  rw [Int32.lt_iff_toInt_lt, t1, t2]
  exact Int.sub_one_lt_of_le (Int.le_refl _)
section JB
variable {N g n x : Nat} {σ σ0 σ' : st_S} {D : Nat → Nat → Int32} {w : List (Nat × Nat × Nat)} {J : List (Int32 × Nat × Nat)} {l : List Int32}
theorem jbs_1 {p : Int32} : ∀ {T : Tr}, lev T ≤ 6 → jbs p T = [(p, bw T, ew T)] := by
  intro T h
  cases T with
  | leaf k => rfl
  | branch n l r =>
    have h : lvo (n % 64) ≤ 6 := h
    show (if n % 64 = 20 ∨ n % 64 = 21 ∨ n % 64 = 37 then _ else _) = _
    rw [if_neg]
    rintro (z | z | z) <;> rw [z] at h <;> exact absurd h (by decide)
theorem jbs_2 {p : Int32} {l r : Tr} (h : n % 64 = 20 ∨ n % 64 = 21 ∨ n % 64 = 37) : jbs p (.branch n l r) = jbs p l ++ jbs p r := if_pos h
theorem jbs_len {p : Int32} : ∀ {T : Tr}, Wf w T → (jbs p T).length ≤ ew T - bw T := by
  intro T
  induction T with
  | leaf k => intro _; show 1 ≤ k + 1 - k; omega
  | branch n l r il ir =>
    intro hw
    have hb := hw.wd.1
    by_cases c : n % 64 = 20 ∨ n % 64 = 21 ∨ n % 64 = 37
    · rw [jbs_2 c, List.length_append]
      rw [bw_n (by omega), ew_n (by omega)]
      rcases hw.br with ⟨c', -⟩ | ⟨c', -⟩ | ⟨c', -⟩ | ⟨c', -⟩ | ⟨c', h1, h2, h3, h4, -⟩ | ⟨c', -⟩ | ⟨c', h1, h2, h3, h4, -⟩ | ⟨c', -⟩
      · omega
      · omega
      · omega
      · omega
      · have i1 := il h1
        have i2 := ir h2
        have e1 := h1.wd.1
        have e2 := h2.wd.1
        omega
      · omega
      · have i1 := il h1
        have i2 := ir h2
        have e1 := h1.wd.1
        have e2 := h2.wd.1
        omega
      · have := bin_f c'; omega
    · have e : jbs p (.branch n l r) = [(p, bw (.branch n l r), ew (.branch n l r))] := if_neg c
      rw [e]
      show 1 ≤ _
      omega
/-- what the making of a tree rests on -/
def BQ (g x : Nat) (l : List Int32) (w : List (Nat × Nat × Nat)) (σ0 σ : st_S) (J : List (Int32 × Nat × Nat)) (n : Nat) (D : Nat → Nat → Int32) : Prop := FT g σ0 σ ∧ W3 σ w ∧ Rd σ x l ∧ Sk σ 157 (flt J) ∧ DS σ g n D
/-- what is given -/
def BG (N g x : Nat) (l : List Int32) (w : List (Nat × Nat × Nat)) (σ0 : st_S) : Prop := (g = 79 ∨ g = 115) ∧ (x = 67 ∨ x = 69) ∧ 100000 < N ∧ K40 w ∧ w.length < 20000 ∧ gC σ0 + 400000 < vz_M0 ∧ l.length ≤ 16384 ∧ w.length ≤ 16400
theorem gcx (hq : gC σ0 + 400000 < vz_M0) {L0 : List Int32} (h1 : FT g σ0 σ) (h4 : Sk σ 157 L0) (h5 : DS σ g n D) : gC σ + 1000 < vz_M0 := by
  have := Fr.gc h1 (C := 100000) (fun a ha => by
    simp only [List.mem_cons, List.not_mem_nil, or_false] at ha
    rcases ha with rfl | rfl | rfl | rfl | rfl | rfl | rfl
    · exact h4.2
    · exact Nat.le_trans (h5 0 (by decide)).2.2.2.1 (by decide)
    · exact Nat.le_trans (h5 1 (by decide)).2.2.2.1 (by decide)
    · exact Nat.le_trans (h5 2 (by decide)).2.2.2.1 (by decide)
    · exact Nat.le_trans (h5 3 (by decide)).2.2.2.1 (by decide)
    · exact Nat.le_trans (h5 4 (by decide)).2.2.2.1 (by decide)
    · exact Nat.le_trans (h5 5 (by decide)).2.2.2.1 (by decide))
  omega
theorem BQ.gc (G : BG N g x l w σ0) (h : BQ g x l w σ0 σ J n D) : gC σ + 1000 < vz_M0 := gcx G.2.2.2.2.2.1 h.1 h.2.2.2.1 h.2.2.2.2
theorem Rd.ft (hg : g = 79 ∨ g = 115) (hx : x = 67 ∨ x = 69) (h : Rd σ x l) (fr : FT g σ σ') : Rd σ' x l := by
  obtain ⟨a1, a2, a3, a4, a5⟩ := h
  obtain ⟨e1, e2⟩ := fr.2.2.2.1 (x + 1) (by
    simp only [List.mem_cons, List.not_mem_nil, or_false]
    omega)
  exact ⟨(fr.1 x 1 (by
    simp only [List.mem_cons, List.not_mem_nil, or_false, Prod.mk.injEq]
    omega)).trans a1, by rw [e1]; exact a2, by rw [e1]; exact a3, a4, by rw [e2]; exact a5⟩
theorem DS.j (hg : g = 79 ∨ g = 115) (h : DS σ g n D) (fr : Fr 0 [(157, 1)] [] [] [158] [] σ σ') : DS σ' g n D := h.fr fr (fun a h1 h2 => by
  simp only [List.mem_cons, List.not_mem_nil, or_false, Prod.mk.injEq]
  omega) (fun a h1 h2 => by
  simp only [List.mem_cons, List.not_mem_nil, or_false]
  omega)
/-- a job is put on -/
theorem F169 (G : BG N g x l w σ0) (h : BQ g x l w σ0 σ J n D) (hJ : 3 * J.length ≤ 49900) {p : Int32} {a b : Nat} : ∃ σ', F_169 N p (nI a) (nI b) σ = some σ' ∧ BQ g x l w σ0 σ' ((p, a, b) :: J) n D := by
  obtain ⟨hg, hx, -, -, -, hq, -⟩ := G
  obtain ⟨h1, h2, h3, h4, h5⟩ := h
  have ft : ∀ {s s' : st_S}, Fr 0 [(157, 1)] [] [] [158] [] s s' → FT g s s' := fun h => h.mo (by simp) (by simp) (by simp) (by simp) (by simp)
  have ln := flt_len J
  obtain ⟨s1, a1, b1, r1⟩ := sk_push (N := N) (v := p) (o := 157) (by decide) h4 (by omega) (by have := gcx hq h1 h4 h5; omega)
  have f1 := Fr.t0 h1 (ft r1)
  have d1 := h5.j hg r1
  obtain ⟨s2, a2, b2, r2⟩ := sk_push (N := N) (v := nI a) (o := 157) (by decide) b1 (by rw [List.length_append]; show _ + 1 ≤ _; omega) (by have := gcx hq f1 b1 d1; omega)
  have f2 := Fr.t0 f1 (ft r2)
  have d2 := d1.j hg r2
  obtain ⟨s3, a3, b3, r3⟩ := sk_push (N := N) (v := nI b) (o := 157) (by decide) b2 (by rw [List.length_append, List.length_append]; show _ + 1 + 1 ≤ _; omega) (by have := gcx hq f2 b2 d2; omega)
  have fa := Fr.t0 (ft r1) (Fr.t0 (ft r2) (ft r3))
  refine ⟨s3, ?_, Fr.t0 h1 fa, h2.ft hg fa, h3.ft hg hx fa, b3, d2.j hg r3⟩
  unfold F_169
  rw [a1, ob_some, a2, ob_some, a3, ob_some]
/-- a job is taken -/
theorem job_take (hg : g = 79 ∨ g = 115) (hx : x = 67 ∨ x = 69) {p : Int32} {a b : Nat} (h : BQ g x l w σ0 σ ((p, a, b) :: J) n D) : ∃ s1 s2 s3, N_148 N 157 σ = some (nI b, s1) ∧ N_148 N 157 s1 = some (nI a, s2) ∧ N_148 N 157 s2 = some (p, s3) ∧ BQ g x l w σ0 s3 J n D := by
  obtain ⟨h1, h2, h3, h4, h5⟩ := h
  have h4 : Sk σ 157 (flt J ++ [p] ++ [nI a] ++ [nI b]) := h4
  obtain ⟨a1, b1⟩ := sk_take (N := N) h4
  obtain ⟨a2, b2⟩ := sk_take (N := N) b1
  obtain ⟨a3, b3⟩ := sk_take (N := N) b2
  have fr : ∀ (s : st_S) (v : Int32), Fr 0 [(157, 1)] [] [] [158] [] s (st_i s 157 1 v) := fun s v => Fr.i s v (by simp)
  have ft : ∀ {s s' : st_S}, Fr 0 [(157, 1)] [] [] [158] [] s s' → FT g s s' := fun h => h.mo (by simp) (by simp) (by simp) (by simp) (by simp)
  have fa := Fr.t0 (fr σ (nI (flt J ++ [p] ++ [nI a]).length)) (Fr.t0 (fr _ (nI (flt J ++ [p]).length)) (fr _ (nI (flt J).length)))
  exact ⟨_, _, _, a1, a2, a3, Fr.t0 h1 (ft fa), h2.ft hg (ft fa), h3.ft hg hx (ft fa), b3, h5.j hg fa⟩
/-- backwards over a word -/
theorem L178s (h : W3 σ w) (h4 : K40 w) (hl : w.length < 20000) {f k fr d d' : Nat} {nd e : Int32} (hk : k < w.length) (hk0 : 1 ≤ k) (hfr : fr ≤ k) (hd : d < 50000) (hd' : d' = if kK w k = 37 then d + 1 else if kK w k = 36 then d - 1 else d) (h36 : kK w k = 36 → 1 ≤ d) (hc : d' = 0 → kK w k ≠ 35) : L_178 N (f + 1) nd (nI fr) e (nI d) (nI k) σ = L_178 N f nd (nI fr) e (nI d') (nI (k - 1)) σ := by
  have f0 := F162 (N := N) h hk
  have k4 := h4 k
  have e37 : nI (kK w k) = 37 ↔ kK w k = 37 := nI_eq (b := 37) (by omega) (by decide)
  have e36 : nI (kK w k) = 36 ↔ kK w k = 36 := nI_eq (b := 36) (by omega) (by decide)
  have e35 : nI (kK w k) = 35 ↔ kK w k = 35 := nI_eq (b := 35) (by omega) (by decide)
  have ed : (if nI (kK w k) = 37 then (nI d + 1) else (if nI (kK w k) = 36 then (nI d - 1) else nI d) : Int32) = nI d' := by
    rw [hd']
    by_cases c : kK w k = 37
    · rw [if_pos (e37.mpr c), if_pos c, nI_1]
    rw [if_neg (fun z => c (e37.mp z)), if_neg c]
    by_cases c2 : kK w k = 36
    · rw [if_pos (e36.mpr c2), if_pos c2]; exact nI_sub (b := 1) (h36 c2)
    · rw [if_neg (fun z => c2 (e36.mp z)), if_neg c2]
  have db : d' < 2 ^ 31 := by rw [hd']; repeat' split
                              all_goals omega
  have em : nI k + (-1) = nI (k - 1) := by
    have := nI_sub (a := k) (b := 1) hk0
    rw [← this, Int32.sub_eq_add_neg]
    rfl
  have c1 : ¬ nI k < nI fr - 1 := by
    by_cases z : fr = 0
    · subst z
      intro y
      have y1 := Int32.lt_iff_toInt_lt.mp y
      have : (nI k).toInt = k := by
        have := iA_t (a := (k : Int)) (by omega) (by omega)
        rw [iA_n] at this
        exact this
      rw [this] at y1
      have : (nI 0 - 1 : Int32).toInt = -1 := by decide
      omega
    · have : nI fr - 1 = nI (fr - 1) := nI_sub (b := 1) (by omega)
      rw [this]
      exact fun y => by have := (nI_lti (by omega) (by omega)).mp y; omega
  conv => lhs; unfold L_178
  rw [if_neg c1, if_pos ((nI_lei (by omega) (by omega)).mpr hfr), f0, ob_some]
  dsimp only
  rw [ed, em]
  have e0 : nI d' = 0 ↔ d' = 0 := nI_eq (b := 0) (by omega) (by decide)
  by_cases c : d' = 0
  · rw [if_pos (e0.mpr c), if_neg (fun z => hc c (e35.mp z))]
  · rw [if_neg (fun z => c (e0.mp z))]
/-- backwards over a tree -/
theorem L178b (h : W3 σ w) (h4 : K40 w) (hl : w.length < 20000) {fr : Nat} {nd e : Int32} : ∀ {T : Tr}, Wf w T → ∀ (f d : Nat), (lev T = 7 → 1 ≤ d) → d + (ew T - bw T) < 40000 → fr ≤ bw T → 1 ≤ bw T → L_178 N (f + (ew T - bw T)) nd (nI fr) e (nI d) (nI (ew T - 1)) σ = L_178 N f nd (nI fr) e (nI d) (nI (bw T - 1)) σ := by
  intro T
  induction T with
  | leaf k =>
    intro hw f d _ hd hf h1
    have hw : opd (kK w k) = true := hw
    simp only [opd, Bool.or_eq_true, decide_eq_true_eq] at hw
    have hf : fr ≤ k := hf
    have h1 : 1 ≤ k := h1
    show L_178 N (f + (k + 1 - k)) nd (nI fr) e (nI d) (nI (k + 1 - 1)) σ = L_178 N f nd (nI fr) e (nI d) (nI (k - 1)) σ
    rw [Nat.add_sub_cancel_left, Nat.add_sub_cancel]
    have hd : d + (k + 1 - k) < 40000 := hd
    exact L178s h h4 hl (kK_lt (by omega)) h1 hf (by omega) (by rw [if_neg (by omega), if_neg (by omega)]) (by omega) (by omega)
  | branch n l' r il ir =>
    intro hw f d h7 hd hf h1
    have lv : lev (.branch n l' r) = lvo (n % 64) := rfl
    have one : ∀ (f k d d' : Nat), kK w k ≠ 0 → 1 ≤ k → fr ≤ k → d < 50000 → (d' = if kK w k = 37 then d + 1 else if kK w k = 36 then d - 1 else d) → (kK w k = 36 → 1 ≤ d) → (d' = 0 → kK w k ≠ 35) → L_178 N (f + 1) nd (nI fr) e (nI d) (nI k) σ = L_178 N f nd (nI fr) e (nI d') (nI (k - 1)) σ := fun f k d d' z1 z2 z3 z4 z5 z6 z7 => L178s h h4 hl (kK_lt z1) z2 z3 z4 z5 z6 z7
    rcases hw.br with ⟨c, h1', h2, h3, h4'⟩ | ⟨c, h1', h2, h3, h4'⟩ | ⟨c, h1', h2, h3, h4', h5⟩ | ⟨c, h1', h2, h3, h4', h5, h6, -⟩ | ⟨c, h1', h2, h3, h4', h5, h6⟩ | ⟨c, h1', h2, h3, h4', h5, h6, h7'⟩ | ⟨c, h1', h2, h3, h4', h5, h6⟩ | ⟨c, h1', h2, h3, h4', h5, h6, h7'⟩
    · have e1 := h2.wd.1
      rw [bw_u (by omega)] at hf h1 hd ⊢
      rw [ew_n (by omega)] at hd ⊢
      rw [show f + (ew r - n / 64) = f + 1 + (ew r - bw r) by omega, ir h2 (f + 1) d (by omega) (by omega) (by omega) (by omega), show bw r - 1 = n / 64 by omega]
      exact one f (n / 64) d d (by omega) h1 hf (by omega) (by rw [if_neg (by omega), if_neg (by omega)]) (by omega) (by omega)
    · have e1 := h2.wd.1
      rw [bw_u (by omega)] at hf h1 hd ⊢
      rw [ew_n (by omega)] at hd ⊢
      rw [show f + (ew r - n / 64) = f + 1 + (ew r - bw r) by omega, ir h2 (f + 1) d (by omega) (by omega) (by omega) (by omega), show bw r - 1 = n / 64 by omega]
      exact one f (n / 64) d d (by omega) h1 hf (by omega) (by rw [if_neg (by omega), if_neg (by omega)]) (by omega) (by omega)
    · have e1 := h2.wd.1
      rw [bw_u (by omega)] at hf h1 hd ⊢
      rw [ew_c (by omega)] at hd ⊢
      rw [Nat.add_sub_cancel, show f + (ew r + 1 - n / 64) = f + 1 + (ew r - bw r) + 1 by omega, one _ (ew r) d (d + 1) (by omega) (by omega) (by omega) (by omega) (by rw [if_pos h4']) (by omega) (by omega), ir h2 (f + 1) (d + 1) (by omega) (by omega) (by omega) (by omega), show bw r - 1 = n / 64 by omega]
      exact one f (n / 64) (d + 1) d (by omega) h1 hf (by omega) (by rw [if_neg (by omega), if_pos h1', Nat.add_sub_cancel]) (by omega) (by omega)
    · have e1 := h3.wd.1
      rw [bw_u (by omega)] at hf h1 hd ⊢
      rw [ew_c (by omega)] at hd ⊢
      rw [Nat.add_sub_cancel, show f + (ew r + 1 - n / 64) = f + 1 + 1 + (ew r - bw r) + 1 by omega, one _ (ew r) d (d + 1) (by omega) (by omega) (by omega) (by omega) (by rw [if_pos h5]) (by omega) (by omega), ir h3 (f + 1 + 1) (d + 1) (by omega) (by omega) (by omega) (by omega), show bw r - 1 = n / 64 + 1 by omega, one (f + 1) (n / 64 + 1) (d + 1) d (by omega) (by omega) (by omega) (by omega) (by rw [if_neg (by omega), if_pos h2, Nat.add_sub_cancel]) (by omega) (by omega), Nat.add_sub_cancel]
      exact one f (n / 64) d d (by omega) h1 hf (by omega) (by rw [if_neg (by omega), if_neg (by omega)]) (by omega) (by omega)
    · have e1 := h2.wd.1
      have e2 := h1'.wd.1
      have d1 : 1 ≤ d := h7 (by rw [lv]; rcases c with z | z <;> rw [z] <;> rfl)
      rw [bw_n (by omega)] at hf h1 hd ⊢
      rw [ew_n (by omega)] at hd ⊢
      rw [show f + (ew r - bw l') = f + (ew l' - bw l') + 1 + (ew r - bw r) by omega, ir h2 _ d (by omega) (by omega) (by omega) (by omega), show bw r - 1 = ew l' by omega, one _ (ew l') d d (by omega) (by omega) (by omega) (by omega) (by rw [if_neg (by omega), if_neg (by omega)]) (by omega) (by omega)]
      exact il h1' f d (fun _ => d1) (by omega) hf h1
    · have e1 := h2.wd.1
      have e2 := h1'.wd.1
      rw [bw_n (by omega)] at hf h1 hd ⊢
      rw [ew_n (by omega)] at hd ⊢
      rw [show f + (ew r - bw l') = f + (ew l' - bw l') + 1 + (ew r - bw r) by omega, ir h2 _ d (by omega) (by omega) (by omega) (by omega), show bw r - 1 = n / 64 by omega, one _ (n / 64) d d (by omega) (by omega) (by omega) (by omega) (by rw [if_neg (by omega), if_neg (by omega)]) (by omega) (by omega), ← h4']
      exact il h1' f d (by omega) (by omega) hf h1
    · have e1 := h2.wd.1
      have e2 := h1'.wd.1
      rw [bw_n (by omega)] at hf h1 hd ⊢
      rw [ew_n (by omega)] at hd ⊢
      rw [show f + (ew r - bw l') = f + (ew l' - bw l') + 1 + (ew r - bw r) by omega, ir h2 _ d (by omega) (by omega) (by omega) (by omega), show bw r - 1 = ew l' by omega, one _ (ew l') d d (by omega) (by omega) (by omega) (by omega) (by rw [if_neg (by omega), if_neg (by omega)]) (by omega) (by omega)]
      exact il h1' f d (by omega) (by omega) hf h1
    · have e1 := h2.wd.1
      have e2 := h1'.wd.1
      have bf := bin_f c
      have ob := opk_b c
      have lL5 : lL (n % 64) ≤ 5 := by unfold lL; repeat' split
                                       all_goals omega
      have lR5 : lR (n % 64) ≤ 5 := by unfold lR; repeat' split
                                       all_goals omega
      rw [bw_n (by omega)] at hf h1 hd ⊢
      rw [ew_n (by omega)] at hd ⊢
      rw [show f + (ew r - bw l') = f + (ew l' - bw l') + 1 + (ew r - bw r) by omega, ir h2 _ d (by omega) (by omega) (by omega) (by omega), show bw r - 1 = n / 64 by omega, one _ (n / 64) d d (by omega) (by omega) (by omega) (by omega) (by rw [if_neg (by omega), if_neg (by omega)]) (by omega) (by omega), ← h4']
      exact il h1' f d (by omega) (by omega) hf h1
/-- the jobs of a list -/
theorem L178l (G : BG N g x l w σ0) {fr : Nat} {nd : Int32} : ∀ {T : Tr}, Wf w T → lev T ≤ 7 → fr = bw T → 1 ≤ fr → ∀ (σ : st_S) (J : List (Int32 × Nat × Nat)) (f : Nat), BQ g x l w σ0 σ J n D → 3 * (J.length + (ew T - bw T)) ≤ 49900 → ∃ σ', L_178 N (f + (ew T - bw T) + 2) nd (nI fr) (nI (ew T)) 0 (nI (ew T - 1)) σ = some σ' ∧ BQ g x l w σ0 σ' (jbs nd T ++ J) n D := by
  have G' := G
  obtain ⟨hg, hx, hN, h40, hl, hq, hl2⟩ := G
  intro T
  -- one part alone
  have single : ∀ {T : Tr}, Wf w T → lev T ≤ 6 → fr = bw T → 1 ≤ fr → ∀ (σ : st_S) (J : List (Int32 × Nat × Nat)) (f : Nat), BQ g x l w σ0 σ J n D → 3 * (J.length + (ew T - bw T)) ≤ 49900 → ∃ σ', L_178 N (f + (ew T - bw T) + 2) nd (nI fr) (nI (ew T)) 0 (nI (ew T - 1)) σ = some σ' ∧ BQ g x l w σ0 σ' (jbs nd T ++ J) n D := by
    intro T hw hv hf h1 σ J f hB hJ
    have e1 := hw.wd.1
    have el : ew T - 1 < w.length := by
      have := (hw.wd.2 (ew T - 1) (by omega) (by omega))
      exact kK_lt (fun z => by rw [z] at this; exact absurd this (by decide))
    have b := L178b (N := N) (nd := nd) (e := nI (ew T)) (fr := fr) hB.2.1 h40 hl hw (f + 2) 0 (by omega) (by omega) (by omega) (by omega)
    rw [show f + (ew T - bw T) + 2 = f + 2 + (ew T - bw T) by omega]
    have b : L_178 N (f + 2 + (ew T - bw T)) nd (nI fr) (nI (ew T)) 0 (nI (ew T - 1)) σ = L_178 N (f + 2) nd (nI fr) (nI (ew T)) 0 (nI (bw T - 1)) σ := b
    rw [b, jbs_1 hv]
    obtain ⟨σ1, k1, k2⟩ := F169 (p := nd) (a := bw T) (b := ew T) G' hB (by omega)
    have m1 : nI fr - 1 = nI (bw T - 1) := by rw [hf]; exact nI_sub (b := 1) (by omega)
    have m2 : nI (bw T - 1) + 1 = nI (bw T) := by rw [nI_1, show bw T - 1 + 1 = bw T by omega]
    refine ⟨σ1, ?_, k2⟩
    conv => lhs; unfold L_178
    rw [m1, if_neg (fun z => by have := (nI_lti (by omega) (by omega)).mp z; omega), if_neg (fun z => by have := (nI_lei (by omega) (by omega)).mp z; omega), if_pos rfl, m2, k1, ob_some]
    unfold L_178
    have lt : nI (bw T - 1) + (-1) < nI fr - 1 := by
      rw [m1]
      exact nI_m1 (by omega)
    rw [if_pos lt]
  induction T with
  | leaf k => intro hw _ hf h1 σ J f hB hJ; exact single hw (Nat.zero_le _) hf h1 σ J f hB hJ
  | branch m l' r il ir =>
    intro hw hv hf h1 σ J f hB hJ
    have lv : lev (.branch m l' r) = lvo (m % 64) := rfl
    by_cases c : m % 64 = 20 ∨ m % 64 = 21
    · rcases hw.br with ⟨c', -⟩ | ⟨c', -⟩ | ⟨c', -⟩ | ⟨c', -⟩ | ⟨c', h1', h2, h3, h4, h5, h6⟩ | ⟨c', -⟩ | ⟨c', -⟩ | ⟨c', -⟩
      · omega
      · omega
      · omega
      · omega
      · have e1 := h2.wd.1
        have e2 := h1'.wd.1
        rw [bw_n (by omega)] at hf hJ ⊢
        rw [ew_n (by omega)] at hJ ⊢
        have el : ew r - 1 < w.length := by
          have := (h2.wd.2 (ew r - 1) (by omega) (by omega))
          exact kK_lt (fun z => by rw [z] at this; exact absurd this (by decide))
        have b := L178b (N := N) (nd := nd) (e := nI (ew r)) (fr := fr) hB.2.1 h40 hl h2 (f + (ew l' - bw l') + 2 + 1) 0 (by omega) (by omega) (by omega) (by omega)
        have b : L_178 N (f + (ew l' - bw l') + 2 + 1 + (ew r - bw r)) nd (nI fr) (nI (ew r)) 0 (nI (ew r - 1)) σ = L_178 N (f + (ew l' - bw l') + 2 + 1) nd (nI fr) (nI (ew r)) 0 (nI (bw r - 1)) σ := b
        rw [show f + (ew r - bw l') + 2 = f + (ew l' - bw l') + 2 + 1 + (ew r - bw r) by omega, b, show bw r - 1 = ew l' by omega]
        obtain ⟨σ1, k1, k2⟩ := F169 (p := nd) (a := bw r) (b := ew r) G' hB (by omega)
        obtain ⟨σ2, k3, k4⟩ := il h1' h5 hf h1 σ1 ((nd, bw r, ew r) :: J) f k2 (by rw [List.length_cons]; omega)
        refine ⟨σ2, ?_, ?_⟩
        · have f0 := F162 (N := N) (k := ew l') hB.2.1 (kK_lt (by omega))
          have m1 : nI fr - 1 = nI (fr - 1) := nI_sub (b := 1) (by omega)
          have m2 : nI (ew l') + 1 = nI (bw r) := by rw [nI_1, h4]
          have m3 : nI (ew l') + (-1) = nI (ew l' - 1) := by
            have := nI_sub (a := ew l') (b := 1) (by omega)
            rw [← this, Int32.sub_eq_add_neg]
            rfl
          conv => lhs; unfold L_178
          rw [m1, if_neg (fun z => by have := (nI_lti (by omega) (by omega)).mp z; omega), if_pos ((nI_lei (by omega) (by omega)).mpr (by omega)), f0, h3, ob_some]
          dsimp only
          rw [if_neg (show ¬ nI 35 = 37 by decide), if_neg (show ¬ nI 35 = 36 by decide), if_pos rfl, if_pos (show nI 35 = 35 from rfl), m2, k1, ob_some, m3]
          exact k3
        · rw [jbs_2 (by omega), jbs_1 (p := nd) h6, List.append_assoc]
          exact k4
      · omega
      · omega
      · have := bin_f c'; omega
    · refine single hw ?_ hf h1 σ J f hB hJ
      rw [lv] at hv ⊢
      have c7 : lvo (m % 64) ≠ 7 := by
        unfold lvo
        repeat' split
        all_goals omega
      omega
/-- a number's digits -/
theorem nv_rn : ∀ (f i : Nat) (v : Int32), i + f = l.length → ∀ (e : Nat), rn isDi l f i = e → ∀ {σ : st_S} {k : Nat}, Rd σ x l → W3 σ w → k < w.length → kE w k = e → ∀ m, e - i < m → L_177 N x m (nI k) v (nI i) σ = some (nv l f i v, σ) := by
  intro f
  induction f with
  | zero =>
    intro i v hi e he σ k hr h3 hk hE m hm
    obtain ⟨m, rfl⟩ : ∃ m', m = m' + 1 := ⟨m - 1, by omega⟩
    have he : i = e := he
    have h4 := hr.2.2.2.1
    unfold L_177
    rw [N139e h3 hk, ob_some]
    dsimp only
    rw [hE, ← he, if_pos ((nI_lei (by omega) (by omega)).mpr (Nat.le_refl _))]
    rfl
  | succ f ih =>
    intro i v hi e he σ k hr h3 hk hE m hm
    obtain ⟨m, rfl⟩ : ∃ m', m = m' + 1 := ⟨m - 1, by omega⟩
    have h4 := hr.2.2.2.1
    have e1 : rn isDi l (f + 1) i = if isDi (ch l i) then rn isDi l f (i + 1) else i := rfl
    have e2 : nv l (f + 1) i v = if isDi (ch l i) then nv l f (i + 1) (v * 10 + ch l i - 48) else v := rfl
    rw [e1] at he
    rw [e2]
    by_cases c : isDi (ch l i) = true
    · rw [if_pos c] at he ⊢
      have le := (rn_le isDi l f (i + 1))
      rw [he] at le
      have at_i : N_139 N x (nI i) σ = some (ch l i, σ) := by
        obtain ⟨a1, a2, a3, a4, a5⟩ := hr
        unfold N_139
        rw [if_pos (aB_nI (by omega) (by omega)), nI_clamp (by omega), a5 i (by omega)]
        unfold ch
        rw [List.getD_eq_getElem?_getD, List.getElem?_eq_getElem (by omega)]
        rfl
      unfold L_177
      rw [N139e h3 hk, ob_some]
      dsimp only
      rw [hE, if_neg (fun z => by have := (nI_lei (by omega) (by omega)).mp z; omega), at_i, ob_some]
      dsimp only
      rw [nI_1, Int32.mul_comm 10 v]
      exact ih (i + 1) _ (by omega) e he hr h3 hk hE m (by omega)
    · rw [if_neg c] at he ⊢
      unfold L_177
      rw [N139e h3 hk, ob_some]
      dsimp only
      rw [hE, ← he, if_pos ((nI_lei (by omega) (by omega)).mpr (Nat.le_refl _))]
end JB
/-- numbers end behind their digits -/
def Nmk (l : List Int32) (w : List (Nat × Nat × Nat)) : Prop := ∀ k, kK w k = 2 → kP w k ≤ l.length ∧ kE w k = rn isDi l (l.length - kP w k) (kP w k)
theorem wds_Nmk (l : List Int32) : Nmk l (wds l) := by
  intro k h
  unfold kK at h
  unfold kP kE
  rcases wds_at l k with hin | hin
  · obtain ⟨h1, h2, h3⟩ := wds_tk _ hin
    rw [h3]
    rw [h] at h2
    generalize ((wds l).getD k (0, 0, 0)).2.1 = s at *
    refine ⟨h1, ?_⟩
    have hlt : ¬ l.length ≤ s := fun z => by have := (tk_fin l s).mpr z; omega
    have h2 := h2.symm
    unfold tk at h2 ⊢
    rw [if_neg hlt] at h2 ⊢
    by_cases c1 : isLe (ch l s) = true
    · rw [if_pos c1] at h2
      dsimp only at h2
      split at h2
      · exact absurd h2 (wk_ge l s _).1
      · omega
    rw [if_neg c1] at h2 ⊢
    by_cases c2 : isDi (ch l s) = true
    · rw [if_pos c2]
    · rw [if_neg c2] at h2
      have := (sg_ge (ch l s) (ch l (s + 1))).1
      have h2 : sg (ch l s) (ch l (s + 1)) = 2 := h2
      omega
  · rw [hin] at h
    cases h
theorem F177 {N x k : Nat} {l : List Int32} {w : List (Nat × Nat × Nat)} {σ : st_S} (hN : 50000 < N) (hm : Nmk l w) (hr : Rd σ x l) (h3 : W3 σ w) (hk : kK w k = 2) : F_177 N x (nI k) σ = some (nv l (l.length - kP w k) (kP w k) 0, σ) := by
  obtain ⟨m1, m2⟩ := hm k hk
  have hk' : k < w.length := kK_lt (by omega)
  have h4 := hr.2.2.2.1
  have le := rn_le isDi l (l.length - kP w k) (kP w k)
  unfold F_177
  rw [F159 h3 hk', ob_some]
  exact nv_rn (l.length - kP w k) (kP w k) 0 (by omega) (kE w k) m2.symm hr h3 hk' rfl N (by omega)
