/-! the class's machine: the steps of its loop -/
section ME
variable {N : Nat} {σ : st_S} {t n : Nat} {M : Nat → Nat → Int32} {d i op B s k : Nat}
theorem L70w (q : CS σ t n M) (hi : i < n) (ho : op < 4 ∧ op ≠ 3 ∨ 8 < op ∧ op < 23) (e0 : M i 0 = nI op) (hs : s < B) (hB : B < 100000) : L_70 N t (k + 1) (nI d) (nI i) (nI B) (nI s) σ = (F_76 N t (nI i) (nI op) σ).bind fun p => L_70 N t k (nI d) (nI (i + 1)) (nI B) (nI (s + 1)) p := by
  have a2 : aB (nI i) (gN σ (t + 2)) := q.a (c := 0) (by decide) hi
  have g2 : gE σ (t + 2) (nI i).toNatClampNeg = nI op := (q.g (c := 0) (by decide) hi).trans e0
  conv => lhs; unfold L_70
  rw [if_neg (fun z => by have := (nI_lei (by omega) (by omega)).mp z; omega), if_pos a2]
  simp only [g2]
  rw [if_neg (show ¬ nI op = 26 from nik (m := 26) (by omega) (by decide) (by omega)), if_neg (show ¬ nI op = 3 from nik (m := 3) (by omega) (by decide) (by omega)), if_pos (show nI op < 23 from (nI_lti (b := 23) (by omega) (by decide)).mpr (by omega)), nI_1, nI_1]
  by_cases c : op < 4
  · rw [if_pos (show nI op < 4 from (nI_lti (b := 4) (by omega) (by decide)).mpr c)]
  · rw [if_neg (show ¬ nI op < 4 from fun z => c ((nI_lti (b := 4) (by omega) (by decide)).mp z)), if_pos (show 8 < nI op from (nI_lti (a := 8) (by decide) (by omega)).mpr (by omega))]
theorem L70m (q : CS σ t n M) {x : Nat} (hi : i < n) (e0 : M i 0 = nI 3) (e2 : M i 2 = nI x) (hx : x < 60) (h44 : gN σ 44 = 60) (hm : gE σ 44 x = gI σ 42 5) (hs : s < B) (hB : B < 100000) : L_70 N t (k + 1) (nI d) (nI i) (nI B) (nI s) σ = (F_76 N t (nI i) (nI 3) σ).bind fun p => L_70 N t k (nI d) (nI (i + 1)) (nI B) (nI (s + 1)) p := by
  have a2 : aB (nI i) (gN σ (t + 2)) := q.a (c := 0) (by decide) hi
  have a4 : aB (nI i) (gN σ (t + 4)) := q.a (c := 2) (by decide) hi
  have g2 : gE σ (t + 2) (nI i).toNatClampNeg = nI 3 := (q.g (c := 0) (by decide) hi).trans e0
  have g4 : gE σ (t + 4) (nI i).toNatClampNeg = nI x := (q.g (c := 2) (by decide) hi).trans e2
  have a44 : aB (nI x) (gN σ 44) := by rw [h44]; exact aB_nI hx (by decide)
  have clx : (nI x).toNatClampNeg = x := nI_clamp (by omega)
  conv => lhs; unfold L_70
  rw [if_neg (fun z => by have := (nI_lei (by omega) (by omega)).mp z; omega), if_pos a2]
  simp only [g2]
  rw [if_neg (show ¬ nI 3 = 26 by decide), if_pos (show nI 3 = 3 from rfl), if_pos a4]
  simp only [g4]
  rw [if_pos a44]
  simp only [clx]
  rw [if_pos hm, if_pos (show nI 3 < 23 by decide), if_pos (show nI 3 < 4 by decide), nI_1, nI_1]
theorem L70c (q : CS σ t n M) {x fe s0 : Nat} (hi : i < n) (e0 : M i 0 = nI 3) (e2 : M i 2 = nI x) (hx : x < 60) (h44 : gN σ 44 = 60) (h45 : gN σ 45 = 60) (h14 : gN σ (t + 14) = 60) (hm : ¬ gE σ 44 x = gI σ 42 5) (hd : d < 60) (hz : gE σ (t + 14) x = nI fe) (hf : fe < n) (ef : M fe 4 = nI s0) (hs : s < B) (hB : B < 100000) : L_70 N t (k + 1) (nI d) (nI i) (nI B) (nI s) σ = L_70 N t k (nI (d + 1)) (nI s0) (nI B) (nI (s + 1)) (st_e σ 45 d (nI i)) := by
  have a2 : aB (nI i) (gN σ (t + 2)) := q.a (c := 0) (by decide) hi
  have a4 : aB (nI i) (gN σ (t + 4)) := q.a (c := 2) (by decide) hi
  have g2 : gE σ (t + 2) (nI i).toNatClampNeg = nI 3 := (q.g (c := 0) (by decide) hi).trans e0
  have g4 : gE σ (t + 4) (nI i).toNatClampNeg = nI x := (q.g (c := 2) (by decide) hi).trans e2
  have a44 : aB (nI x) (gN σ 44) := by rw [h44]; exact aB_nI hx (by decide)
  have a45 : aB (nI d) (gN σ 45) := by rw [h45]; exact aB_nI hd (by decide)
  have a14 : aB (nI x) (gN σ (t + 14)) := by rw [h14]; exact aB_nI hx (by decide)
  have clx : (nI x).toNatClampNeg = x := nI_clamp (by omega)
  have cld : (nI d).toNatClampNeg = d := nI_clamp (by omega)
  have f6 : aB (nI fe) (gN σ (t + 6)) := q.a (c := 4) (by decide) hf
  have gf : gE σ (t + 6) (nI fe).toNatClampNeg = nI s0 := (q.g (c := 4) (by decide) hf).trans ef
  conv => lhs; unfold L_70
  rw [if_neg (fun z => by have := (nI_lei (by omega) (by omega)).mp z; omega), if_pos a2]
  simp only [g2]
  rw [if_neg (show ¬ nI 3 = 26 by decide), if_pos (show nI 3 = 3 from rfl), if_pos a4]
  simp only [g4]
  rw [if_pos a44]
  simp only [clx]
  rw [if_neg hm, if_neg (show ¬ 60 ≤ nI d from fun z => by have := (nI_lei (a := 60) (by decide) (by omega)).mp z; omega), if_pos a45, if_pos a14]
  simp only [hz]
  rw [if_pos f6]
  simp only [gf, cld]
  rw [nI_1, nI_1]
theorem L70r (q : CS σ t n M) (hi : i < n) (ho : 4 ≤ op) (ho2 : op ≤ 8) (e0 : M i 0 = nI op) (hs : s < B) (hB : B < 100000) : L_70 N t (k + 1) (nI d) (nI i) (nI B) (nI s) σ = ((F_72 N t (nI i) (nI op) σ).bind fun p_18 => if p_18.1 = 0 then ((F_74 N t (nI i) (p_18.2)).bind fun p_20 => if p_20.1 = 0 then (fun p => L_70 N t k (nI d) (nI (i + 1)) (nI B) (nI (s + 1)) p) p_20.2 else if aB (nI i) (gN p_20.2 (t + 3)) then some (p_20.1, st_i (p_20.2) 42 6 (gE (p_20.2) (t + 3) (nI i).toNatClampNeg)) else none) else if aB (nI i) (gN p_18.2 (t + 3)) then some (p_18.1, st_i (p_18.2) 42 6 (gE (p_18.2) (t + 3) (nI i).toNatClampNeg)) else none) := by
  have a2 : aB (nI i) (gN σ (t + 2)) := q.a (c := 0) (by decide) hi
  have g2 : gE σ (t + 2) (nI i).toNatClampNeg = nI op := (q.g (c := 0) (by decide) hi).trans e0
  conv => lhs; unfold L_70
  rw [if_neg (fun z => by have := (nI_lei (by omega) (by omega)).mp z; omega), if_pos a2]
  simp only [g2]
  rw [if_neg (show ¬ nI op = 26 from nik (m := 26) (by omega) (by decide) (by omega)), if_neg (show ¬ nI op = 3 from nik (m := 3) (by omega) (by decide) (by omega)), if_pos (show nI op < 23 from (nI_lti (b := 23) (by omega) (by decide)).mpr (by omega)), if_neg (show ¬ nI op < 4 from fun z => by have := (nI_lti (b := 4) (by omega) (by decide)).mp z; omega), if_neg (show ¬ 8 < nI op from fun z => by have := (nI_lti (a := 8) (by decide) (by omega)).mp z; omega), nI_1, nI_1]
theorem L70j (q : CS σ t n M) {x z : Nat} (hi : i < n) (ho : op = 23 ∨ op = 24 ∨ op = 25) (e0 : M i 0 = nI op) (hx : op ≠ 25 → x < n ∧ M i 2 = nI x) (e4 : M i 4 = nI z) (hs : s < B) (hB : B < 100000) : L_70 N t (k + 1) (nI d) (nI i) (nI B) (nI s) σ = L_70 N t k (nI d) (nI (if op = 25 then z else if op = 24 then (if M x 6 = 1 then z else i + 1) else (if M x 6 = 1 then i + 1 else z))) (nI B) (nI (s + 1)) σ := by
  have a2 : aB (nI i) (gN σ (t + 2)) := q.a (c := 0) (by decide) hi
  have a6 : aB (nI i) (gN σ (t + 6)) := q.a (c := 4) (by decide) hi
  have g2 : gE σ (t + 2) (nI i).toNatClampNeg = nI op := (q.g (c := 0) (by decide) hi).trans e0
  have g6 : gE σ (t + 6) (nI i).toNatClampNeg = nI z := (q.g (c := 4) (by decide) hi).trans e4
  have f71 : F_71 N t (nI i) (nI op) σ = some ((if op = 25 then 1 else if op = 24 then (if M x 6 = 1 then 1 else 0) else (if M x 6 = 1 then 0 else 1) : Int32), σ) := by
    unfold F_71
    by_cases c : op = 25
    · rw [if_pos c, if_pos (show nI op = 25 by rw [c]; rfl)]
    · obtain ⟨hx, e2⟩ := hx c
      have a4 : aB (nI i) (gN σ (t + 4)) := q.a (c := 2) (by decide) hi
      have g4 : gE σ (t + 4) (nI i).toNatClampNeg = nI x := (q.g (c := 2) (by decide) hi).trans e2
      have x8 : aB (nI x) (gN σ (t + 8)) := q.a (c := 6) (by decide) hx
      have gx8 : gE σ (t + 8) (nI x).toNatClampNeg = M x 6 := q.g (c := 6) (by decide) hx
      rw [if_neg c, if_neg (show ¬ nI op = 25 from nik (m := 25) (by omega) (by decide) c), if_pos a4]
      simp only [g4]
      rw [if_pos x8]
      simp only [gx8]
      by_cases c24 : op = 24
      · rw [if_pos c24, if_pos (show nI op = 24 by rw [c24]; rfl)]
        by_cases m : M x 6 = 1
        · rw [if_pos m]; rfl
        · rw [if_neg m]; rfl
      · rw [if_neg c24, if_neg (show ¬ nI op = 24 from nik (m := 24) (by omega) (by decide) c24)]
        by_cases m : M x 6 = 1
        · rw [if_pos m, if_pos m]; rfl
        · rw [if_neg m, if_neg m]; rfl
  conv => lhs; unfold L_70
  rw [if_neg (fun z => by have := (nI_lei (by omega) (by omega)).mp z; omega), if_pos a2]
  simp only [g2]
  rw [if_neg (show ¬ nI op = 26 from nik (m := 26) (by omega) (by decide) (by omega)), if_neg (show ¬ nI op = 3 from nik (m := 3) (by omega) (by decide) (by omega)), if_neg (show ¬ nI op < 23 from fun z => by have := (nI_lti (b := 23) (by omega) (by decide)).mp z; omega), f71, ob_some]
  dsimp only
  rw [if_pos a6, g6, nI_1, nI_1]
  by_cases c : op = 25
  · rw [if_pos c, if_pos c, if_neg (by decide)]
  · rw [if_neg c, if_neg c]
    by_cases c24 : op = 24
    · rw [if_pos c24, if_pos c24]
      by_cases m : M x 6 = 1
      · rw [if_pos m, if_pos m, if_neg (by decide)]
      · rw [if_neg m, if_neg m, if_pos (by decide)]
    · rw [if_neg c24, if_neg c24]
      by_cases m : M x 6 = 1
      · rw [if_pos m, if_pos m, if_pos (by decide)]
      · rw [if_neg m, if_neg m, if_neg (by decide)]
theorem L70e0 (q : CS σ t n M) (hi : i < n) (e0 : M i 0 = nI 26) (hs : s < B) (hB : B < 100000) : L_70 N t (k + 1) (nI 0) (nI i) (nI B) (nI s) σ = some (0, σ) := by
  have a2 : aB (nI i) (gN σ (t + 2)) := q.a (c := 0) (by decide) hi
  have g2 : gE σ (t + 2) (nI i).toNatClampNeg = nI 26 := (q.g (c := 0) (by decide) hi).trans e0
  unfold L_70
  rw [if_neg (fun z => by have := (nI_lei (by omega) (by omega)).mp z; omega), if_pos a2]
  simp only [g2]
  rw [if_pos (show nI 26 = 26 from rfl), if_pos (show nI 0 = 0 from rfl)]
theorem L70e (q : CS σ t n M) {j x : Nat} (hi : i < n) (e0 : M i 0 = nI 26) (hd : d < 60) (h45 : gN σ 45 = 60) (hj : gE σ 45 d = nI j) (hjn : j < n) (ej : M j 2 = nI x) (hx : x < 60) (h44 : gN σ 44 = 60) (hs : s < B) (hB : B < 100000) : L_70 N t (k + 1) (nI (d + 1)) (nI i) (nI B) (nI s) σ = L_70 N t k (nI d) (nI j) (nI B) (nI (s + 1)) (st_e σ 44 x (gI σ 42 5)) := by
  have a2 : aB (nI i) (gN σ (t + 2)) := q.a (c := 0) (by decide) hi
  have g2 : gE σ (t + 2) (nI i).toNatClampNeg = nI 26 := (q.g (c := 0) (by decide) hi).trans e0
  have a45 : aB (nI d) (gN σ 45) := by rw [h45]; exact aB_nI hd (by decide)
  have cld : (nI d).toNatClampNeg = d := nI_clamp (by omega)
  have j4 : aB (nI j) (gN σ (t + 4)) := q.a (c := 2) (by decide) hjn
  have gj : gE σ (t + 4) (nI j).toNatClampNeg = nI x := (q.g (c := 2) (by decide) hjn).trans ej
  have a44 : aB (nI x) (gN σ 44) := by rw [h44]; exact aB_nI hx (by decide)
  have clx : (nI x).toNatClampNeg = x := nI_clamp (by omega)
  have dd : nI (d + 1) + (-1) = nI d := by
    have : nI (d + 1) - nI 1 = nI d := nI_sub (a := d + 1) (b := 1) (by omega)
    rw [← this, Int32.sub_eq_add_neg]
    rfl
  conv => lhs; unfold L_70
  rw [if_neg (fun z => by have := (nI_lei (by omega) (by omega)).mp z; omega), if_pos a2]
  simp only [g2]
  rw [if_pos (show nI 26 = 26 from rfl), if_neg (show ¬ nI (d + 1) = 0 from nik (m := 0) (by omega) (by decide) (by omega)), dd, if_pos a45]
  simp only [cld, hj]
  rw [if_pos j4]
  simp only [gj]
  rw [if_pos a44]
  simp only [clx]
  rw [nI_1]
end ME
