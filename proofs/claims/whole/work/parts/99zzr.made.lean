/-! the reference: a tree is made -/
section BL
variable {N g n x : Nat} {σ σ0 : st_S} {D : Nat → Nat → Int32} {w : List (Nat × Nat × Nat)} {J : List (Int32 × Nat × Nat)} {l : List Int32} {p : Int32} {cs : List Nat}
theorem ew_le {T : Tr} (hw : Wf w T) : ew T ≤ w.length ∧ bw T < w.length := by
  obtain ⟨h1, h2⟩ := hw.wd
  have := h2 (ew T - 1) (by omega) (by omega)
  have := kK_lt (w := w) (k := ew T - 1) (fun z => by rw [z] at this; exact absurd this (by decide))
  omega
theorem L168s (G : BG N g x l w σ0) {a b : Nat} {rt : Int32} (h : BQ g x l w σ0 σ ((p, a, b) :: J) n D) (hJ : 3 * J.length ≤ 49900) : ∃ s3, BQ g x l w σ0 s3 J n D ∧ ∀ σ1, F_170 N g x p (nI a) (nI b) s3 = some σ1 → ∀ f, L_168 N g x (f + 1) rt σ = L_168 N g x f rt σ1 := by
  obtain ⟨hg, hx, -⟩ := G
  obtain ⟨s1, s2, s3, a1, a2, a3, a4⟩ := job_take (N := N) hg hx h
  refine ⟨s3, a4, fun σ1 h1 f => ?_⟩
  have gs : gI σ 157 1 = nI (3 * (J.length + 1)) := by
    have := h.2.2.2.1.1.1
    rw [flt_len] at this
    exact this
  conv => lhs; unfold L_168
  rw [gs, if_neg (fun z => by have := (nI_lei (b := 0) (by omega) (by decide)).mp z; omega), a1, ob_some]
  dsimp only
  rw [a2, ob_some]
  dsimp only
  rw [a3, ob_some]
  dsimp only
  rw [h1, ob_some]
theorem BQ.d (hg : g = 79 ∨ g = 115) (hx : x = 67 ∨ x = 69) {σ' : st_S} {n' : Nat} {D' : Nat → Nat → Int32} (h : BQ g x l w σ0 σ J n D) (fr : FTd g σ σ') (hD : DS σ' g n' D') : BQ g x l w σ0 σ' J n' D' := by
  obtain ⟨h1, h2, h3, h4, h5⟩ := h
  have ft := FTd.ft fr
  refine ⟨Fr.t0 h1 ft, h2.ft hg ft, h3.ft hg hx ft, h4.fr fr ?_ ?_, hD⟩
  · simp only [List.mem_cons, List.not_mem_nil, or_false, Prod.mk.injEq]; omega
  · simp only [List.mem_cons, List.not_mem_nil, or_false]; omega
/-- a node, joined -/
theorem bq_nj (G : BG N g x l w σ0) (h : BQ g x l w σ0 σ J n D) (hn : n < 20000) (hp : Par D n p cs) {s k f : Nat} (hk : k < w.length) (hf : f < w.length) : ∃ σ1 σ2, F_174 N g (nI s) (nI k) (nI f) σ = some (nI n, σ1) ∧ F_175 N g p (nI n) σ1 = some σ2 ∧ BQ g x l w σ0 σ2 J (n + 1) (jnd (ndd D n (nrw w s k f 0)) p cs n) := by
  have gc := h.gc G
  obtain ⟨hg, hx, hN, -⟩ := G
  obtain ⟨σ1, a1, a2, a3⟩ := F174 (N := N) (s := s) hg h.2.1 h.2.2.2.2 (by omega) hk hf (by omega)
  have b1 := h.d hg hx a3 a2
  have e0 : ∀ i, i ≠ n → ndd D n (nrw w s k f 0) i = D i := fun i z => if_neg z
  obtain ⟨σ2, c1, c2, c3⟩ := F175 (N := N) (p := p) (cs := cs) (a := n) hg (by omega) a2 (by omega) (by
    rcases hp with z | ⟨k', z1, z2, z3, z4, z5⟩
    · exact Or.inl z
    · refine Or.inr ⟨k', z1, by omega, ?_, fun x hx => by have := z4 x hx; omega, ?_⟩
      · rw [e0 k' (by omega)]
        exact z3.fr (fun s hs => by rw [e0 s (by have := z4 s hs; omega)])
      · have := pig n cs (z5.imp (fun h => by omega)) z4
        omega)
  exact ⟨σ1, σ2, a1, c1, b1.d hg hx c3 c2⟩
theorem bq_val (hg : g = 79 ∨ g = 115) (hx : x = 67 ∨ x = 69) (h : BQ g x l w σ0 σ J n D) {k : Nat} (hk : k < n) (v : Int32) : aB (nI k) (gN σ (g + 8)) ∧ (nI k).toNatClampNeg = k ∧ BQ g x l w σ0 (st_e σ (g + 8) k v) J n (pat D k 3 v) := by
  obtain ⟨a1, a2, a3⟩ := ds_set h.2.2.2.2 (c := 3) hk (by decide) v
  exact ⟨a1, a2, h.d hg hx (Fr.e σ k v (by simp)) a3⟩
/-- brackets -/
theorem f170_1 (G : BG N g x l w σ0) {m : Nat} {l' r : Tr} (hw : Wf w (.branch m l' r)) (c : m % 64 = 35) (h : BQ g x l w σ0 σ J n D) (hJ : 3 * J.length ≤ 49900) : ∃ σ1, F_170 N g x p (nI (bw (.branch m l' r))) (nI (ew (.branch m l' r))) σ = some σ1 ∧ BQ g x l w σ0 σ1 (jbs p r ++ J) n D := by
  have G' := G
  obtain ⟨hg, hx, hN, h40, hl, hq, hl2⟩ := G
  obtain ⟨el, bl⟩ := ew_le hw
  have lv : lev (.branch m l' r) = lvo (m % 64) := rfl
  have f1 := F171 (N := N) h.2.1 h40 (by omega) (by omega) hw (by rw [lv, c]; decide) el
  rcases hw.br with ⟨c', -⟩ | ⟨c', -⟩ | ⟨c', h1, h2, h3, h4, h5⟩ | ⟨c', -⟩ | ⟨c', -⟩ | ⟨c', -⟩ | ⟨c', -⟩ | ⟨c', -⟩
  · omega
  · omega
  · have eb : bw (.branch m l' r) = m / 64 := bw_u (by omega)
    have ee : ew (.branch m l' r) = ew r + 1 := ew_c (by omega)
    have rt : rt2 (.branch m l' r) = false := by
      show (decide (m % 64 = 19) || bin (m % 64)) = false
      rw [c]; rfl
    rw [rt, if_neg Bool.false_ne_true] at f1
    have f0 := F162 (N := N) h.2.1 bl
    obtain ⟨σ1, k1, k2⟩ := F169 (p := p) (a := bw r) (b := ew r) G' h hJ
    refine ⟨σ1, ?_, by rw [jbs_1 (by omega)]; exact k2⟩
    have m1 : nI (m / 64) + 1 = nI (bw r) := by rw [nI_1, h3]
    have m2 : nI (ew r + 1) - 1 = nI (ew r) := by
      have := nI_sub (a := ew r + 1) (b := 1) (by omega)
      rw [Nat.add_sub_cancel] at this
      exact this
    unfold F_170
    rw [f1, ob_some]
    dsimp only
    rw [if_pos (show (-1 : Int32) < 0 by decide), f0, ob_some, eb, h1]
    dsimp only
    rw [if_pos (show nI 36 = 36 from rfl), ee, m1, m2, k1, ob_some]
  · omega
  · omega
  · omega
  · omega
  · have := bin_f c'; omega
/-- an operation between parts -/
theorem f170_3 (G : BG N g x l w σ0) {m : Nat} {l' r : Tr} (hw : Wf w (.branch m l' r)) (c : m % 64 = 19 ∨ bin (m % 64) = true) (h : BQ g x l w σ0 σ J n D) (hn : n < 20000) (hp : Par D n p cs) (hJ : 3 * (J.length + 3) ≤ 49900) : ∃ σ1, F_170 N g x p (nI (bw (.branch m l' r))) (nI (ew (.branch m l' r))) σ = some σ1 ∧ BQ g x l w σ0 σ1 (jbs (nI n) l' ++ (jbs (nI n) r ++ J)) (n + 1) (jnd (ndd D n (nrw w (kK w (m / 64)) (m / 64) (bw (.branch m l' r)) 0)) p cs n) := by
  have G' := G
  obtain ⟨hg, hx, hN, h40, hl, hq, hl2⟩ := G
  obtain ⟨el, bl⟩ := ew_le hw
  have lv : lev (.branch m l' r) = lvo (m % 64) := rfl
  have l6 : lev (.branch m l' r) ≤ 6 := by
    rw [lv]
    rcases c with z | z
    · rw [z]; decide
    · have := (lvo_b z).2.2.1; omega
  have f1 := F171 (N := N) h.2.1 h40 (by omega) (by omega) hw l6 el
  have rt : rt2 (.branch m l' r) = true := by
    show (decide (m % 64 = 19) || bin (m % 64)) = true
    rcases c with z | z
    · rw [z]; rfl
    · rw [z, Bool.or_true]
  rw [rt, if_pos rfl] at f1
  have f1 : F_171 N (nI (bw (.branch m l' r))) (nI (ew (.branch m l' r))) σ = some (nI (m / 64), σ) := f1
  -- what is the same for both
  have both : kK w (m / 64) ≠ 0 → ∃ σ2, BQ g x l w σ0 σ2 J (n + 1) (jnd (ndd D n (nrw w (kK w (m / 64)) (m / 64) (bw (.branch m l' r)) 0)) p cs n) ∧ F_170 N g x p (nI (bw (.branch m l' r))) (nI (ew (.branch m l' r))) σ = if kK w (m / 64) = 32 then ((F_176 N (nI (m / 64)) (nI (ew (.branch m l' r))) σ2).bind fun p_23 => (F_169 N (nI n) (p_23.1 + 1) (nI (ew (.branch m l' r))) p_23.2).bind fun p_24 => (F_169 N (nI n) (nI (m / 64) + 1) p_23.1 p_24).bind fun p_25 => (F_169 N (nI n) (nI (bw (.branch m l' r))) (nI (m / 64)) p_25).bind fun p_26 => some p_26) else ((F_169 N (nI n) (nI (m / 64) + 1) (nI (ew (.branch m l' r))) σ2).bind fun p_27 => (F_169 N (nI n) (nI (bw (.branch m l' r))) (nI (m / 64)) p_27).bind fun p_28 => some p_28) := by
    intro k0
    have kl : m / 64 < w.length := kK_lt k0
    obtain ⟨σ1, σ2, a1, a2, a3⟩ := bq_nj (p := p) (cs := cs) (s := kK w (m / 64)) G' h hn hp kl bl
    refine ⟨σ2, a3, ?_⟩
    have f0 := F162 (N := N) h.2.1 kl
    have f2 := F162 (N := N) a3.2.1 kl
    have k4 := h40 (m / 64)
    have e32 : nI (kK w (m / 64)) = 32 ↔ kK w (m / 64) = 32 := nI_eq (b := 32) (by omega) (by decide)
    unfold F_170
    rw [f1, ob_some]
    dsimp only
    rw [if_neg (fun z => by have := (nI_lti (b := 0) (by omega) (by decide)).mp z; omega), f0, ob_some]
    dsimp only
    rw [a1, ob_some]
    dsimp only
    rw [a2, ob_some, f2, ob_some]
    dsimp only
    by_cases z : kK w (m / 64) = 32
    · rw [if_pos z, if_pos (e32.mpr z)]
    · rw [if_neg z, if_neg (fun y => z (e32.mp y))]
  rcases hw.br with ⟨c', -⟩ | ⟨c', -⟩ | ⟨c', -⟩ | ⟨c', -⟩ | ⟨c', -⟩ | ⟨c', h1, h2, h3, h4, h5, h6, h7⟩ | ⟨c', -⟩ | ⟨c', h1, h2, h3, h4, h5, h6, h7⟩
  · rcases c with z | z
    · omega
    · have := bin_f z; omega
  · rcases c with z | z
    · omega
    · have := bin_f z; omega
  · rcases c with z | z
    · omega
    · have := bin_f z; omega
  · rcases c with z | z
    · omega
    · have := bin_f z; omega
  · rcases c with z | z
    · omega
    · have := bin_f z; omega
  · -- a choice
    obtain ⟨σ2, b1, b2⟩ := both (by omega)
    rw [if_pos h3] at b2
    have eb : bw (.branch m l' r) = bw l' := bw_n (by omega)
    have ee : ew (.branch m l' r) = ew r := ew_n (by omega)
    cases r with
    | leaf k => cases h7
    | branch m2 xx yy =>
      have h7 : lvo (m2 % 64) = 8 := h7
      have m37 : m2 % 64 = 37 := by
        unfold lvo at h7
        repeat' split at h7
        all_goals omega
      rcases h2.br with ⟨d, -⟩ | ⟨d, -⟩ | ⟨d, -⟩ | ⟨d, -⟩ | ⟨d, -⟩ | ⟨d, -⟩ | ⟨d, d1, d2, d3, d4, d5, d6⟩ | ⟨d, -⟩
      · omega
      · omega
      · omega
      · omega
      · omega
      · omega
      · have ebr : bw (.branch m2 xx yy) = bw xx := bw_n (by omega)
        have eer : ew (.branch m2 xx yy) = ew yy := ew_n (by omega)
        rw [ebr] at h5
        have ex := d1.wd.1
        have ey := d2.wd.1
        obtain ⟨wx, -⟩ := ew_le d1
        obtain ⟨wy, -⟩ := ew_le d2
        have pt := tr_p (w := w) (so := 33) (fl := 0) (by omega) d1 (by omega) 0 0 (Nat.le_refl _) (fun _ => Or.inr (by decide))
        rw [h5] at pt
        have f6 := F176 (N := N) (z := nI (ew yy)) b1.2.1 h40 (by omega) (by omega) pt d3 (by omega)
        obtain ⟨s1, q1, q2⟩ := F169 (p := nI n) (a := bw yy) (b := ew yy) G' b1 (by omega)
        obtain ⟨s2, q3, q4⟩ := F169 (p := nI n) (a := bw xx) (b := ew xx) G' q2 (by rw [List.length_cons]; omega)
        obtain ⟨s3, q5, q6⟩ := F169 (p := nI n) (a := bw l') (b := ew l') G' q4 (by rw [List.length_cons, List.length_cons]; omega)
        refine ⟨s3, ?_, ?_⟩
        · rw [b2, ee, eer, f6, ob_some]
          dsimp only
          rw [nI_1, ← d4, q1, ob_some, nI_1, ← h5, q3, ob_some, eb, ← h4, q5, ob_some]
        · rw [jbs_2 (p := nI n) (l := xx) (r := yy) (by omega), jbs_1 (p := nI n) (T := xx) (by omega), jbs_1 (p := nI n) (T := yy) (by omega), jbs_1 (p := nI n) (T := l') (by omega)]
          exact q6
      · have := bin_f d; omega
  · rcases c with z | z
    · omega
    · have := bin_f z; omega
  · have ob := opk_b c'
    have bf := bin_f c'
    obtain ⟨σ2, b1, b2⟩ := both (by omega)
    rw [if_neg (by omega)] at b2
    have eb : bw (.branch m l' r) = bw l' := bw_n (by omega)
    have ee : ew (.branch m l' r) = ew r := ew_n (by omega)
    have lL5 : lL (m % 64) ≤ 5 := by unfold lL; repeat' split
                                     all_goals omega
    have lR5 : lR (m % 64) ≤ 5 := by unfold lR; repeat' split
                                     all_goals omega
    obtain ⟨s1, q1, q2⟩ := F169 (p := nI n) (a := bw r) (b := ew r) G' b1 (by omega)
    obtain ⟨s2, q3, q4⟩ := F169 (p := nI n) (a := bw l') (b := ew l') G' q2 (by rw [List.length_cons]; omega)
    refine ⟨s2, ?_, ?_⟩
    · rw [b2, nI_1, ← h5, ee, q1, ob_some, eb, ← h4, q3, ob_some]
    · rw [jbs_1 (p := nI n) (T := r) (by omega), jbs_1 (p := nI n) (T := l') (by omega)]
      exact q4
/-- a leaf, a sign, a not, a list: what is the same -/
theorem f170_n (G : BG N g x l w σ0) {T : Tr} (hw : Wf w T) (hl6 : lev T ≤ 6) (hrt : rt2 T = false) (h36 : kK w (bw T) ≠ 36) (h : BQ g x l w σ0 σ J n D) (hn : n < 20000) (hp : Par D n p cs) : ∃ σ2, BQ g x l w σ0 σ2 J (n + 1) (jnd (ndd D n (nrw w (if kK w (bw T) = 25 then 45 else kK w (bw T)) (bw T) (bw T) 0)) p cs n) ∧ F_170 N g x p (nI (bw T)) (nI (ew T)) σ = (if kK w (bw T) = 25 ∨ kK w (bw T) = 31 then J_170_178 N g x (nI (bw T)) (nI (ew T)) (nI n) σ2 else if kK w (bw T) = 2 then ((F_177 N x (nI (bw T)) σ2).bind fun p_12 => if aB (nI n) (gN p_12.2 (g + 8)) then some (st_e (p_12.2) (g + 8) ((nI n : Int32).toNatClampNeg) p_12.1) else none) else if kK w (bw T) = 1 then (if aB (nI n) (gN σ2 (g + 8)) then some (st_e σ2 (g + 8) ((nI n : Int32).toNatClampNeg) (nI (bw T))) else none) else if kK w (bw T) = 14 ∨ kK w (bw T) = 15 then J_170_255 N g x (nI (bw T)) (nI (ew T)) (nI n) σ2 else some σ2) := by
  have G' := G
  obtain ⟨hg, hx, hN, h40, hl, hq, hl2⟩ := G
  obtain ⟨el, bl⟩ := ew_le hw
  have f1 := F171 (N := N) h.2.1 h40 (by omega) (by omega) hw hl6 el
  rw [hrt, if_neg Bool.false_ne_true] at f1
  have f0 := F162 (N := N) h.2.1 bl
  have k4 := h40 (bw T)
  have e : ∀ q, q < 40 → (nI (kK w (bw T)) = nI q ↔ kK w (bw T) = q) := fun q hq => nI_eq (by omega) (by omega)
  have e36 : nI (kK w (bw T)) = 36 ↔ kK w (bw T) = 36 := e 36 (by decide)
  have e25 : nI (kK w (bw T)) = 25 ↔ kK w (bw T) = 25 := e 25 (by decide)
  have e31 : nI (kK w (bw T)) = 31 ↔ kK w (bw T) = 31 := e 31 (by decide)
  have e2 : nI (kK w (bw T)) = 2 ↔ kK w (bw T) = 2 := e 2 (by decide)
  have e1 : nI (kK w (bw T)) = 1 ↔ kK w (bw T) = 1 := e 1 (by decide)
  have e14 : nI (kK w (bw T)) = 14 ↔ kK w (bw T) = 14 := e 14 (by decide)
  have e15 : nI (kK w (bw T)) = 15 ↔ kK w (bw T) = 15 := e 15 (by decide)
  have es : (if nI (kK w (bw T)) = 25 then 45 else nI (kK w (bw T)) : Int32) = nI (if kK w (bw T) = 25 then 45 else kK w (bw T)) := by
    by_cases z : kK w (bw T) = 25
    · rw [if_pos z, if_pos (e25.mpr z)]; rfl
    · rw [if_neg z, if_neg (fun y => z (e25.mp y))]
  obtain ⟨σ1, σ2, a1, a2, a3⟩ := bq_nj (p := p) (cs := cs) (s := if kK w (bw T) = 25 then 45 else kK w (bw T)) G' h hn hp bl bl
  refine ⟨σ2, a3, ?_⟩
  unfold F_170
  rw [f1, ob_some]
  dsimp only
  rw [if_pos (show (-1 : Int32) < 0 by decide), f0, ob_some]
  dsimp only
  rw [if_neg (fun z => h36 (e36.mp z)), es, a1, ob_some]
  dsimp only
  rw [a2, ob_some]
  by_cases z25 : kK w (bw T) = 25
  · rw [if_pos (e25.mpr z25), if_pos (Or.inl z25)]
  rw [if_neg (fun y => z25 (e25.mp y))]
  by_cases z31 : kK w (bw T) = 31
  · rw [if_pos (e31.mpr z31), if_pos (Or.inr z31)]
  rw [if_neg (fun y => z31 (e31.mp y)), if_neg (show ¬ (kK w (bw T) = 25 ∨ kK w (bw T) = 31) by omega)]
  by_cases z2 : kK w (bw T) = 2
  · rw [if_pos (e2.mpr z2), if_pos z2]
  rw [if_neg (fun y => z2 (e2.mp y)), if_neg z2]
  by_cases z1 : kK w (bw T) = 1
  · rw [if_pos (e1.mpr z1), if_pos z1]
  rw [if_neg (fun y => z1 (e1.mp y)), if_neg z1]
  by_cases z14 : kK w (bw T) = 14
  · rw [if_pos (e14.mpr z14), if_pos (Or.inl z14)]
  rw [if_neg (fun y => z14 (e14.mp y))]
  by_cases z15 : kK w (bw T) = 15
  · rw [if_pos (e15.mpr z15), if_pos (Or.inr z15)]
  · rw [if_neg (fun y => z15 (e15.mp y)), if_neg (show ¬ (kK w (bw T) = 14 ∨ kK w (bw T) = 15) by omega)]
/-- one part -/
theorem f170_2 (G : BG N g x l w σ0) {m : Nat} {l' r : Tr} (hw : Wf w (.branch m l' r)) (c : m % 64 = 9 ∨ m % 64 = 16 ∨ m % 64 = 22) (h : BQ g x l w σ0 σ J n D) (hn : n < 20000) (hp : Par D n p cs) (hJ : 3 * (J.length + (ew (.branch m l' r) - bw (.branch m l' r))) ≤ 49900) : ∃ σ1, F_170 N g x p (nI (bw (.branch m l' r))) (nI (ew (.branch m l' r))) σ = some σ1 ∧ BQ g x l w σ0 σ1 (jbs (nI n) r ++ J) (n + 1) (jnd (ndd D n (nrw w (nso w m) (m / 64) (bw (.branch m l' r)) 0)) p cs n) := by
  have G' := G
  obtain ⟨hg, hx, hN, h40, hl, hq, hl2⟩ := G
  obtain ⟨el, bl⟩ := ew_le hw
  have wd := hw.wd.1
  have lv : lev (.branch m l' r) = lvo (m % 64) := rfl
  have l6 : lev (.branch m l' r) ≤ 6 := by
    rw [lv]
    rcases c with z | z | z <;> rw [z] <;> decide
  have rt : rt2 (.branch m l' r) = false := by
    show (decide (m % 64 = 19) || bin (m % 64)) = false
    rcases c with z | z | z <;> rw [z] <;> rfl
  have eb : bw (.branch m l' r) = m / 64 := bw_u (by omega)
  rcases hw.br with ⟨c', h1, h2, h3, h4⟩ | ⟨c', h1, h2, h3, h4⟩ | ⟨c', -⟩ | ⟨c', h1, h2, h3, h4, h5, h6, -⟩ | ⟨c', -⟩ | ⟨c', -⟩ | ⟨c', -⟩ | ⟨c', -⟩
  · have ee : ew (.branch m l' r) = ew r := ew_n (by omega)
    obtain ⟨σ2, b1, b2⟩ := f170_n (p := p) (cs := cs) G' hw l6 rt (by rw [eb]; omega) h hn hp
    rw [if_pos (by rw [eb]; omega)] at b2
    have sn : (if kK w (bw (.branch m l' r)) = 25 then 45 else kK w (bw (.branch m l' r))) = nso w m := by
      unfold nso
      rw [eb, if_pos h1, if_pos c']
    rw [sn] at b1
    obtain ⟨s1, q1, q2⟩ := F169 (p := nI n) (a := bw r) (b := ew r) G' b1 (by omega)
    refine ⟨s1, ?_, ?_⟩
    · rw [b2]
      unfold J_170_178
      rw [eb, nI_1, ← h3, ee, q1, ob_some]
    · rw [jbs_1 (by omega)]
      rw [eb] at q2 ⊢
      exact q2
  · have ee : ew (.branch m l' r) = ew r := ew_n (by omega)
    obtain ⟨σ2, b1, b2⟩ := f170_n (p := p) (cs := cs) G' hw l6 rt (by rw [eb]; omega) h hn hp
    rw [if_pos (by rw [eb]; omega)] at b2
    have sn : (if kK w (bw (.branch m l' r)) = 25 then 45 else kK w (bw (.branch m l' r))) = nso w m := by
      unfold nso
      rw [eb, if_neg (by omega), if_neg (by omega)]
    rw [sn] at b1
    obtain ⟨s1, q1, q2⟩ := F169 (p := nI n) (a := bw r) (b := ew r) G' b1 (by omega)
    refine ⟨s1, ?_, ?_⟩
    · rw [b2]
      unfold J_170_178
      rw [eb, nI_1, ← h3, ee, q1, ob_some]
    · rw [jbs_1 (by omega)]
      rw [eb] at q2 ⊢
      exact q2
  · omega
  · have ee : ew (.branch m l' r) = ew r + 1 := ew_c (by omega)
    obtain ⟨σ2, b1, b2⟩ := f170_n (p := p) (cs := cs) G' hw l6 rt (by rw [eb]; omega) h hn hp
    rw [if_neg (by rw [eb]; omega), if_neg (by rw [eb]; omega), if_neg (by rw [eb]; omega), if_pos (by rw [eb]; omega)] at b2
    have sn : (if kK w (bw (.branch m l' r)) = 25 then 45 else kK w (bw (.branch m l' r))) = nso w m := by
      unfold nso
      rw [eb, if_neg (by omega), if_neg (by omega)]
    rw [sn] at b1
    have wr := h3.wd.1
    obtain ⟨wl, -⟩ := ew_le h3
    obtain ⟨s1, q1, q2⟩ := L178l (N := N) (n := n + 1) (nd := nI n) (fr := bw r) G' h3 h6 rfl (by omega) σ2 J (N - (ew r - bw r) - 2) b1 (by omega)
    rw [show N - (ew r - bw r) - 2 + (ew r - bw r) + 2 = N by omega] at q1
    refine ⟨s1, ?_, ?_⟩
    · rw [b2]
      have m1 : nI (m / 64) + 2 = nI (bw r) := by
        have := nI_add (m / 64) 2
        rw [h4]
        exact this
      have m2 : nI (ew r + 1) - 1 = nI (ew r) := by
        have := nI_sub (a := ew r + 1) (b := 1) (by omega)
        rw [Nat.add_sub_cancel] at this
        exact this
      have m3 : nI (ew r) - 1 = nI (ew r - 1) := nI_sub (b := 1) (by omega)
      unfold J_170_255 F_178
      rw [eb, ee, m1, m2, m3, q1, ob_some]
    · rw [eb] at q2 ⊢
      exact q2
  · omega
  · omega
  · omega
  · have := bin_f c'; omega
/-- a leaf -/
theorem f170_0 (G : BG N g x l w σ0) (hm : Nmk l w) {k : Nat} (hw : Wf w (.leaf k)) (h : BQ g x l w σ0 σ J n D) (hn : n < 20000) (hp : Par D n p cs) : ∃ σ1 v, F_170 N g x p (nI k) (nI (k + 1)) σ = some σ1 ∧ BQ g x l w σ0 σ1 J (n + 1) (pat (jnd (ndd D n (nrw w (kK w k) k k 0)) p cs n) n 3 v) ∧ (kK w k = 2 → v = nv l (l.length - kP w k) (kP w k) 0) ∧ (kK w k = 1 → v = nI k) := by
  have G' := G
  obtain ⟨hg, hx, hN, h40, hl, hq, hl2⟩ := G
  have ho : opd (kK w k) = true := hw
  simp only [opd, Bool.or_eq_true, decide_eq_true_eq] at ho
  have kl : k < w.length := kK_lt (by omega)
  obtain ⟨σ2, b1, b2⟩ := f170_n (p := p) (cs := cs) G' hw (Nat.zero_le _) rfl (by show kK w k ≠ 36; omega) h hn hp
  have e1 : bw (.leaf k) = k := rfl
  have e2 : ew (.leaf k) = k + 1 := rfl
  rw [e1] at b1 b2
  rw [e2, if_neg (by omega)] at b2
  rw [if_neg (by omega)] at b1
  by_cases z2 : kK w k = 2
  · rw [if_pos z2, F177 (by omega) hm b1.2.2.1 b1.2.1 z2, ob_some] at b2
    obtain ⟨q1, q2, q3⟩ := bq_val hg hx b1 (Nat.lt_succ_self n) (nv l (l.length - kP w k) (kP w k) 0)
    dsimp only at b2
    rw [if_pos q1, q2] at b2
    exact ⟨_, _, b2, q3, fun _ => rfl, fun z => by omega⟩
  rw [if_neg z2] at b2
  by_cases z1 : kK w k = 1
  · obtain ⟨q1, q2, q3⟩ := bq_val hg hx b1 (Nat.lt_succ_self n) (nI k)
    rw [if_pos z1, if_pos q1, q2] at b2
    exact ⟨_, _, b2, q3, fun z => by omega, fun _ => rfl⟩
  rw [if_neg z1, if_neg (by omega)] at b2
  have e3 : pat (jnd (ndd D n (nrw w (kK w k) k k 0)) p cs n) n 3 (jnd (ndd D n (nrw w (kK w k) k k 0)) p cs n n 3) = jnd (ndd D n (nrw w (kK w k) k k 0)) p cs n := by
    funext i c
    unfold pat
    by_cases z : i = n ∧ c = 3
    · rw [if_pos z, z.1, z.2]
    · rw [if_neg z]
  refine ⟨σ2, jnd (ndd D n (nrw w (kK w k) k k 0)) p cs n n 3, b2, ?_, fun z => by omega, fun z => by omega⟩
  rw [e3]
  exact b1
end BL
