/-! the reference: the nodes of a tree -/
/-- 0: no node, its parts side by side; 1: brackets; 2: one part; 3: two or three -/
def tcl (op : Nat) : Nat := if op = 20 ∨ op = 21 ∨ op = 37 then 0 else if op = 35 then 1 else if op = 9 ∨ op = 16 ∨ op = 22 then 2 else 3
def rln : Tr → Nat
  | .leaf _ => 1
  | .branch n l r => if tcl (n % 64) = 0 then rln l + rln r else if tcl (n % 64) = 1 then rln r else if tcl (n % 64) = 2 then rln r + 1 else rln l + rln r + 1
/-- the roots -/
def rts : Tr → Nat → List Nat
  | .leaf _, a => [a]
  | .branch n l r, a => if tcl (n % 64) = 0 then rts l a ++ rts r (a + rln l) else if tcl (n % 64) = 1 then rts r a else [a]
def nso (w : List (Nat × Nat × Nat)) (n : Nat) : Nat := if n % 64 = 9 then 45 else kK w (n / 64)
/-- the nodes of a tree from the a-th on; nx: what follows the last root; V: the values of names -/
def Rt (l : List Int32) (w : List (Nat × Nat × Nat)) (V : Nat → Int32 → Prop) (D : Nat → Nat → Int32) : Tr → Nat → Int32 → Prop
  | .leaf k, a, nx => (D a 0 = nI (kK w k) ∧ D a 1 = nI (kP w k) ∧ D a 2 = nI (kP w k)) ∧ (kK w k = 2 → D a 3 = nv l (l.length - kP w k) (kP w k) 0) ∧ (kK w k = 1 → V k (D a 3)) ∧ D a 4 = -1 ∧ D a 5 = nx
  | .branch n l' r, a, nx =>
    if tcl (n % 64) = 0 then Rt l w V D l' a (nI (a + rln l')) ∧ Rt l w V D r (a + rln l') nx
    else if tcl (n % 64) = 1 then Rt l w V D r a nx
    else ((D a 0 = nI (nso w n) ∧ D a 1 = nI (kP w (n / 64)) ∧ D a 2 = nI (kP w (bw (.branch n l' r)))) ∧ D a 4 = nI (a + 1) ∧ D a 5 = nx) ∧ (if tcl (n % 64) = 2 then Rt l w V D r (a + 1) (-1) else Rt l w V D l' (a + 1) (nI (a + 1 + rln l')) ∧ Rt l w V D r (a + 1 + rln l') (-1))
section TR2
variable {l : List Int32} {w : List (Nat × Nat × Nat)} {V : Nat → Int32 → Prop} {D D' : Nat → Nat → Int32} {n : Nat} {l' r : Tr}
theorem rln_0 (h : tcl (n % 64) = 0) : rln (.branch n l' r) = rln l' + rln r := if_pos h
theorem rln_1 (h : tcl (n % 64) = 1) : rln (.branch n l' r) = rln r := by
  show (if tcl (n % 64) = 0 then _ else if tcl (n % 64) = 1 then _ else _) = _
  rw [if_neg (by omega), if_pos h]
theorem rln_2 (h : tcl (n % 64) = 2) : rln (.branch n l' r) = rln r + 1 := by
  show (if tcl (n % 64) = 0 then _ else if tcl (n % 64) = 1 then _ else if tcl (n % 64) = 2 then _ else _) = _
  rw [if_neg (by omega), if_neg (by omega), if_pos h]
theorem rln_3 (h : tcl (n % 64) = 3) : rln (.branch n l' r) = rln l' + rln r + 1 := by
  show (if tcl (n % 64) = 0 then _ else if tcl (n % 64) = 1 then _ else if tcl (n % 64) = 2 then _ else _) = _
  rw [if_neg (by omega), if_neg (by omega), if_neg (by omega)]
theorem tcl_4 (op : Nat) : tcl op = 0 ∨ tcl op = 1 ∨ tcl op = 2 ∨ tcl op = 3 := by
  unfold tcl
  repeat' split
  all_goals omega
theorem rln_pos : ∀ T : Tr, 1 ≤ rln T := by
  intro T
  induction T with
  | leaf k => exact Nat.le_refl _
  | branch n l r hl hr =>
    rcases tcl_4 (n % 64) with h | h | h | h
    · rw [rln_0 h]; omega
    · rw [rln_1 h]; exact hr
    · rw [rln_2 h]; omega
    · rw [rln_3 h]; omega
theorem rts_0 {a : Nat} (h : tcl (n % 64) = 0) : rts (.branch n l' r) a = rts l' a ++ rts r (a + rln l') := if_pos h
theorem rts_1 {a : Nat} (h : tcl (n % 64) = 1) : rts (.branch n l' r) a = rts r a := by
  show (if tcl (n % 64) = 0 then _ else if tcl (n % 64) = 1 then _ else _) = _
  rw [if_neg (by omega), if_pos h]
theorem rts_2 {a : Nat} (h : tcl (n % 64) = 2 ∨ tcl (n % 64) = 3) : rts (.branch n l' r) a = [a] := by
  show (if tcl (n % 64) = 0 then _ else if tcl (n % 64) = 1 then _ else _) = _
  rw [if_neg (by omega), if_neg (by omega)]
theorem rts_b : ∀ {T : Tr} {a x : Nat}, x ∈ rts T a → a ≤ x ∧ x < a + rln T := by
  intro T
  induction T with
  | leaf k =>
    intro a x h
    have : x = a := by simpa [rts] using h
    subst this
    exact ⟨Nat.le_refl _, Nat.lt_succ_self x⟩
  | branch n l r hl hr =>
    intro a x h
    rcases tcl_4 (n % 64) with c | c | c | c
    · rw [rts_0 c] at h
      rw [rln_0 c]
      rcases List.mem_append.mp h with z | z
      · have := hl z; omega
      · have := hr z; omega
    · rw [rts_1 c] at h
      rw [rln_1 c]
      exact hr h
    · rw [rts_2 (by omega)] at h
      have : x = a := by simpa using h
      rw [rln_2 c]
      omega
    · rw [rts_2 (by omega)] at h
      have : x = a := by simpa using h
      rw [rln_3 c]
      omega
theorem rts_ne : ∀ (T : Tr) (a : Nat), rts T a ≠ [] := by
  intro T
  induction T with
  | leaf k => intro a h; cases h
  | branch n l r hl hr =>
    intro a
    rcases tcl_4 (n % 64) with c | c | c | c
    · rw [rts_0 c]
      intro h
      exact hl a (List.append_eq_nil_iff.mp h).1
    · rw [rts_1 c]; exact hr a
    · rw [rts_2 (by omega)]; exact fun h => by cases h
    · rw [rts_2 (by omega)]; exact fun h => by cases h
theorem rts_p : ∀ (T : Tr) (a : Nat), (rts T a).Pairwise (· < ·) := by
  intro T
  induction T with
  | leaf k => intro a; exact List.pairwise_singleton _ _
  | branch n l r hl hr =>
    intro a
    rcases tcl_4 (n % 64) with c | c | c | c
    · rw [rts_0 c]
      refine List.pairwise_append.mpr ⟨hl a, hr _, fun x hx y hy => ?_⟩
      have := rts_b hx
      have := rts_b hy
      omega
    · rw [rts_1 c]; exact hr a
    · rw [rts_2 (by omega)]; exact List.pairwise_singleton _ _
    · rw [rts_2 (by omega)]; exact List.pairwise_singleton _ _
theorem rln_le : ∀ {T : Tr}, Wf w T → rln T ≤ ew T - bw T := by
  intro T
  induction T with
  | leaf k => intro _; show 1 ≤ k + 1 - k; omega
  | branch n l r il ir =>
    intro hw
    rcases hw.br with ⟨c, h1, h2, h3, h4⟩ | ⟨c, h1, h2, h3, h4⟩ | ⟨c, h1, h2, h3, h4, h5⟩ | ⟨c, h1, h2, h3, h4, h5, h6, -⟩ | ⟨c, h1, h2, h3, h4, h5, h6⟩ | ⟨c, h1, h2, h3, h4, h5, h6, h7⟩ | ⟨c, h1, h2, h3, h4, h5, h6⟩ | ⟨c, h1, h2, h3, h4, h5, h6, h7⟩
    · have := h2.wd.1; have := ir h2
      rw [bw_u (by omega), ew_n (by omega), rln_2 (by rw [c]; rfl)]; omega
    · have := h2.wd.1; have := ir h2
      rw [bw_u (by omega), ew_n (by omega), rln_2 (by rw [c]; rfl)]; omega
    · have := h2.wd.1; have := ir h2
      rw [bw_u (by omega), ew_c (by omega), rln_1 (by rw [c]; rfl)]; omega
    · have := h3.wd.1; have := ir h3
      rw [bw_u (by omega), ew_c (by omega), rln_2 (by rw [c]; rfl)]; omega
    · have := h2.wd.1; have := ir h2; have := h1.wd.1; have := il h1
      rw [bw_n (by omega), ew_n (by omega), rln_0 (by rcases c with z | z <;> rw [z] <;> rfl)]; omega
    · have := h2.wd.1; have := ir h2; have := h1.wd.1; have := il h1
      rw [bw_n (by omega), ew_n (by omega), rln_3 (by rw [c]; rfl)]; omega
    · have := h2.wd.1; have := ir h2; have := h1.wd.1; have := il h1
      rw [bw_n (by omega), ew_n (by omega), rln_0 (by rw [c]; rfl)]; omega
    · have := h2.wd.1; have := ir h2; have := h1.wd.1; have := il h1
      have bf := bin_f c
      rw [bw_n (by omega), ew_n (by omega), rln_3 (by unfold tcl; rw [if_neg (by omega), if_neg (by omega), if_neg (by omega)])]; omega
theorem Rt.fr : ∀ {T : Tr} {a : Nat} {nx : Int32}, Rt l w V D T a nx → (∀ i, a ≤ i → i < a + rln T → D' i = D i) → Rt l w V D' T a nx := by
  intro T
  induction T with
  | leaf k =>
    intro a nx h e
    have e := e a (Nat.le_refl _) (Nat.lt_succ_self a)
    unfold Rt at h ⊢
    rw [e]
    exact h
  | branch n l' r il ir =>
    intro a nx h e
    unfold Rt at h ⊢
    rcases tcl_4 (n % 64) with c | c | c | c
    · rw [rln_0 c] at e
      rw [if_pos c] at h ⊢
      exact ⟨il h.1 (fun i h1 h2 => e i h1 (by omega)), ir h.2 (fun i h1 h2 => e i (by omega) (by omega))⟩
    · rw [rln_1 c] at e
      rw [if_neg (by omega), if_pos c] at h ⊢
      exact ir h e
    · rw [rln_2 c] at e
      rw [if_neg (by omega), if_neg (by omega), if_pos c] at h ⊢
      rw [e a (Nat.le_refl _) (by omega)]
      exact ⟨h.1, ir h.2 (fun i h1 h2 => e i (by omega) (by omega))⟩
    · rw [rln_3 c] at e
      rw [if_neg (by omega), if_neg (by omega), if_neg (by omega)] at h ⊢
      rw [e a (Nat.le_refl _) (by omega)]
      exact ⟨h.1, il h.2.1 (fun i h1 h2 => e i (by omega) (by omega)), ir h.2.2 (fun i h1 h2 => e i (by omega) (by omega))⟩
theorem gl_app {a b : List Nat} (h : b ≠ []) : (a ++ b).getLast? = b.getLast? := by
  rw [List.getLast?_append]
  cases hb : b.getLast? with
  | none => exact absurd (by simpa using hb) h
  | some s => rfl
/-- what follows the last root is set -/
theorem Rt.nx : ∀ {T : Tr} {a : Nat} {nx nx' : Int32} {s : Nat}, Rt l w V D T a nx → (rts T a).getLast? = some s → Rt l w V (pat D s 5 nx') T a nx' := by
  intro T
  induction T with
  | leaf k =>
    intro a nx nx' s h hs
    have hs : s = a := by simpa [rts] using hs.symm
    subst hs
    unfold Rt at h ⊢
    rw [pat_c _ _ (by decide), pat_c _ _ (by decide), pat_c _ _ (by decide), pat_c _ _ (by decide), pat_c _ _ (by decide), pat_s]
    exact ⟨h.1, h.2.1, h.2.2.1, h.2.2.2.1, rfl⟩
  | branch n l' r il ir =>
    intro a nx nx' s h hs
    unfold Rt at h ⊢
    rcases tcl_4 (n % 64) with c | c | c | c
    · rw [rts_0 c, gl_app (rts_ne r _)] at hs
      rw [if_pos c] at h ⊢
      have sb := rts_b (List.mem_of_getLast? hs)
      exact ⟨h.1.fr (fun i h1 h2 => pat_o _ _ (by omega)), ir h.2 hs⟩
    · rw [rts_1 c] at hs
      rw [if_neg (by omega), if_pos c] at h ⊢
      exact ir h hs
    · rw [rts_2 (by omega)] at hs
      have hs : s = a := by simpa using hs.symm
      subst hs
      rw [if_neg (by omega), if_neg (by omega), if_pos c] at h ⊢
      rw [pat_c _ _ (by decide), pat_c _ _ (by decide), pat_c _ _ (by decide), pat_c _ _ (by decide), pat_s]
      exact ⟨⟨h.1.1, h.1.2.1, rfl⟩, h.2.fr (fun i h1 h2 => pat_o _ _ (by omega))⟩
    · rw [rts_2 (by omega)] at hs
      have hs : s = a := by simpa using hs.symm
      subst hs
      rw [if_neg (by omega), if_neg (by omega), if_neg (by omega)] at h ⊢
      rw [pat_c _ _ (by decide), pat_c _ _ (by decide), pat_c _ _ (by decide), pat_c _ _ (by decide), pat_s]
      exact ⟨⟨h.1.1, h.1.2.1, rfl⟩, h.2.1.fr (fun i h1 h2 => pat_o _ _ (by omega)), h.2.2.fr (fun i h1 h2 => pat_o _ _ (by omega))⟩
theorem Pk.fr : ∀ {S : List Nat} {v : Int32}, Pk D v S → (∀ s ∈ S, D' s 5 = D s 5) → Pk D' v S := by
  intro S
  induction S with
  | nil => intro v h _; exact h
  | cons s S ih =>
    intro v h e
    refine ⟨h.1, ?_⟩
    rw [e s (List.mem_cons_self ..)]
    exact ih h.2 (fun x hx => e x (List.mem_cons_of_mem _ hx))
theorem Pk.ext {a : Nat} : ∀ {S : List Nat} {v : Int32} {s : Nat}, Pk D v S → S.Pairwise (· < ·) → S.getLast? = some s → D' s 5 = nI a → (∀ x ∈ S, x ≠ s → D' x 5 = D x 5) → D' a 5 = -1 → Pk D' v (S ++ [a]) := by
  intro S
  induction S with
  | nil => intro v s _ _ h; cases h
  | cons x S ih =>
    intro v s h hp hs h1 h2 h3
    obtain ⟨hp1, hp2⟩ := List.pairwise_cons.mp hp
    refine ⟨h.1, ?_⟩
    cases S with
    | nil =>
      have hs : s = x := by simpa using hs.symm
      subst hs
      exact ⟨h1, h3⟩
    | cons y S =>
      rw [List.getLast?_cons_cons] at hs
      have lt := hp1 s (List.mem_of_getLast? hs)
      rw [h2 x (List.mem_cons_self ..) (by omega)]
      exact ih h.2 hp2 hs h1 (fun z hz => h2 z (List.mem_cons_of_mem _ hz)) h3
/-- the parent, its parts so far -/
def Par (D : Nat → Nat → Int32) (n : Nat) (p : Int32) (cs : List Nat) : Prop := p = -1 ∨ ∃ k, p = nI k ∧ k < n ∧ Pk D (D k 4) cs ∧ (∀ x ∈ cs, x < n) ∧ cs.Pairwise (· < ·)
/-- a forest is made -/
def Bp (l : List Int32) (w : List (Nat × Nat × Nat)) (V : Nat → Int32 → Prop) (D D' : Nat → Nat → Int32) (T : Tr) (n : Nat) (p : Int32) (cs : List Nat) : Prop := (∀ i, i < n → D' i = jnd D p cs n i) ∧ Rt l w V D' T n (-1) ∧ (∀ k, p = nI k → k < n → Pk D' (D' k 4) (cs ++ rts T n))
theorem nI_ne1 {k : Nat} (hk : k < 40000) : ¬ nI k = -1 := fun z => by
  have : (0 : Int32) ≤ nI k := (nI_lei (a := 0) (by decide) (by omega)).mpr (by omega)
  rw [z] at this
  exact absurd this (by decide)
/-- a node that is joined -/
theorem jnd_n {p : Int32} {cs : List Nat} {rw0 : Nat → Int32} (hn : n < 40000) (hp : Par D n p cs) (h5 : rw0 5 = -1) : (∀ i, i < n → jnd (ndd D n rw0) p cs n i = jnd D p cs n i) ∧ jnd (ndd D n rw0) p cs n n = rw0 ∧ (∀ k, p = nI k → k < n → Pk (jnd (ndd D n rw0) p cs n) (jnd (ndd D n rw0) p cs n k 4) (cs ++ [n])) := by
  have e0 : ∀ i, i ≠ n → ndd D n rw0 i = D i := fun i h => if_neg h
  have en : ndd D n rw0 n = rw0 := if_pos rfl
  rcases hp with rfl | ⟨k, rfl, hk, h1, h2, h3⟩
  · have e : ∀ D : Nat → Nat → Int32, jnd D (-1) cs n = D := fun D => if_pos rfl
    rw [e, e]
    exact ⟨fun i hi => e0 i (by omega), en, fun k hk hk2 => absurd hk.symm (nI_ne1 (by omega))⟩
  · have np := nI_ne1 (k := k) (by omega)
    have cl : (nI k).toNatClampNeg = k := nI_clamp (by omega)
    cases hc : cs.getLast? with
    | none =>
      have c0 : cs = [] := by simpa using hc
      subst c0
      have e : ∀ D : Nat → Nat → Int32, jnd D (nI k) [] n = pat D k 4 (nI n) := fun D => by
        unfold jnd
        rw [if_neg np]
        show pat D (nI k).toNatClampNeg 4 (nI n) = _
        rw [cl]
      rw [e, e]
      refine ⟨fun i hi => ?_, ?_, fun k' hk' hk2 => ?_⟩
      · funext c
        unfold pat
        rw [e0 i (by omega)]
      · funext c
        unfold pat
        rw [if_neg (fun z => by omega), en]
      · have : k' = k := by
          have := (nI_eq (by omega) (by omega)).mp hk'
          omega
        subst this
        rw [pat_s]
        exact ⟨rfl, by rw [pat_o _ _ (by omega), en]; exact h5⟩
    | some s =>
      have sm := List.mem_of_getLast? hc
      have sn := h2 s sm
      have e : ∀ D : Nat → Nat → Int32, jnd D (nI k) cs n = pat D s 5 (nI n) := fun D => by
        unfold jnd
        rw [if_neg np, hc]
      rw [e, e]
      refine ⟨fun i hi => ?_, ?_, fun k' hk' hk2 => ?_⟩
      · funext c
        unfold pat
        rw [e0 i (by omega)]
      · funext c
        unfold pat
        rw [if_neg (fun z => by omega), en]
      · have : k' = k := by
          have := (nI_eq (by omega) (by omega)).mp hk'
          omega
        subst this
        have ek : pat (ndd D n rw0) s 5 (nI n) k' 4 = D k' 4 := by
          by_cases z : k' = s
          · subst z
            rw [pat_c _ _ (by decide), e0 k' (by omega)]
          · rw [pat_o _ _ z, e0 k' (by omega)]
        rw [ek]
        exact Pk.ext h1 h3 hc (pat_s _ _ _ _) (fun x hx hxs => by rw [pat_o _ _ hxs, e0 x (by have := h2 x hx; omega)]) (by rw [pat_o _ _ (by omega), en]; exact h5)
/-- joins change rows of the parent or of its last part alone -/
theorem jnd_o {p : Int32} {cs : List Nat} {a i m : Nat} (hp : ∀ k, p = nI k → k < 40000 → i ≠ k) (hpk : p = -1 ∨ ∃ k, p = nI k ∧ k < 40000) (hc : ∀ s, cs.getLast? = some s → i ≠ s) : jnd D p cs a i = D i := by
  unfold jnd
  by_cases c : p = -1
  · rw [if_pos c]
  · rw [if_neg c]
    rcases hpk with z | ⟨k, rfl, hk⟩
    · exact absurd z c
    · cases hs : cs.getLast? with
      | none =>
        dsimp only
        rw [nI_clamp (by omega)]
        exact pat_o _ _ (hp k rfl hk)
      | some s =>
        dsimp only
        exact pat_o _ _ (hc s hs)
end TR2
