/-! the class's machine: what a run comes to -/
/-- where a run of a tree begins and where its value stands; of two (37), the one that is wanted -/
def st0 (T : Tr) (a : Nat) (c : Bool) : Nat := if lev T = 8 then (if c then a else a + fln T + 1) else a
def rt0 (T : Tr) (a : Nat) (c : Bool) : Nat := if lev T = 8 then (if c then a + fln T - 1 else a + tln T - 1) else a + tln T - 1
theorem st0_n {T : Tr} (h : lev T ≤ 7) (a : Nat) (c : Bool) : st0 T a c = a := if_neg (by omega)
theorem rt0_n {T : Tr} (h : lev T ≤ 7) (a : Nat) (c : Bool) : rt0 T a c = a + tln T - 1 := if_neg (by omega)
section EV
variable {N t n : Nat} {l : List Int32} {w : List (Nat × Nat × Nat)} {E : List En} {X fs : Nat → Nat} {vs : Nat → Int32} {m d B : Nat}
def EvG (N t n : Nat) (l : List Int32) (w : List (Nat × Nat × Nat)) (E : List En) (X fs : Nat → Nat) (vs : Nat → Int32) (m d B : Nat) (σ : st_S) (M : Nat → Nat → Int32) (s st e a b rt co : Nat) (o : Rs (Int64 × Int64)) : Prop := match o with
  | .inr v => ∃ σ' M' q, Rn1 N t n l w E X fs vs m d B σ M s st e a b q σ' M' ∧ Va M' rt v ∧ q + phi2 E X σ' m ≤ co + phi2 E X σ m
  | .inl er => ∃ σ' M' q, Fl1 N t n d B σ M s st q er.1 er.2 σ' M' ∧ q ≤ co + phi2 E X σ m
abbrev EvO (N t n : Nat) (l : List Int32) (w : List (Nat × Nat × Nat)) (E : List En) (X fs : Nat → Nat) (vs : Nat → Int32) (m d B : Nat) (σ : st_S) (M : Nat → Nat → Int32) (s : Nat) (T : Tr) (a : Nat) (c : Bool) (o : Rs (Int64 × Int64)) : Prop := EvG N t n l w E X fs vs m d B σ M s (st0 T a c) (a + tln T) a (a + tln T) (rt0 T a c) (2 * tln T) o
theorem EvG.mo {σ : st_S} {M : Nat → Nat → Int32} {s st e a b a' b' rt co co' : Nat} {o : Rs (Int64 × Int64)} (h : EvG N t n l w E X fs vs m d B σ M s st e a b rt co o) (ha : a' ≤ a) (hb : b ≤ b') (hc : co ≤ co') : EvG N t n l w E X fs vs m d B σ M s st e a' b' rt co' o := by
  cases o with
  | inl er =>
    obtain ⟨σ', M', q, h1, h2⟩ := h
    exact ⟨σ', M', q, h1, by omega⟩
  | inr v =>
    obtain ⟨σ', M', q, h1, h2, h3⟩ := h
    exact ⟨σ', M', q, h1.wide ha hb, h2, by omega⟩
/-- a run, and then another -/
theorem EvG.pr {σ σ1 : st_S} {M M1 : Nat → Nat → Int32} {s st e1 e a b a1 b1 a2 b2 rt c1 c2 q1 : Nat} {o : Rs (Int64 × Int64)} (h : Rn1 N t n l w E X fs vs m d B σ M s st e1 a1 b1 q1 σ1 M1) (hq : q1 + phi2 E X σ1 m ≤ c1 + phi2 E X σ m) (h2 : EvG N t n l w E X fs vs m d B σ1 M1 (s + q1) e1 e a2 b2 rt c2 o) (ha1 : a ≤ a1) (hb1 : b1 ≤ b) (ha2 : a ≤ a2) (hb2 : b2 ≤ b) : EvG N t n l w E X fs vs m d B σ M s st e a b rt (c1 + c2) o := by
  cases o with
  | inl er =>
    obtain ⟨σ', M', q, x1, x2⟩ := h2
    exact ⟨σ', M', q1 + q, h.fl x1, by omega⟩
  | inr v =>
    obtain ⟨σ', M', q, x1, x2, x3⟩ := h2
    exact ⟨σ', M', q1 + q, h.tr x1 ha1 hb1 ha2 hb2, x2, by omega⟩
theorem EvG.sb {σ : st_S} {M : Nat → Nat → Int32} {s st e1 e a b a1 b1 a2 b2 rt1 rt c1 c2 : Nat} {o : Rs (Int64 × Int64)} {f : Int64 × Int64 → Rs (Int64 × Int64)} (h : EvG N t n l w E X fs vs m d B σ M s st e1 a1 b1 rt1 c1 o) (h2 : ∀ v σ1 M1 q1, o = .inr v → Rn1 N t n l w E X fs vs m d B σ M s st e1 a1 b1 q1 σ1 M1 → Va M1 rt1 v → q1 + phi2 E X σ1 m ≤ c1 + phi2 E X σ m → EvG N t n l w E X fs vs m d B σ1 M1 (s + q1) e1 e a2 b2 rt c2 (f v)) (ha1 : a ≤ a1) (hb1 : b1 ≤ b) (ha2 : a ≤ a2) (hb2 : b2 ≤ b) : EvG N t n l w E X fs vs m d B σ M s st e a b rt (c1 + c2) (sbd o f) := by
  cases o with
  | inl er =>
    obtain ⟨σ', M', q, x1, x2⟩ := h
    exact ⟨σ', M', q, x1, by omega⟩
  | inr v =>
    obtain ⟨σ', M', q, x1, x2, x3⟩ := h
    rw [sbd_r]
    exact EvG.pr x1 x3 (h2 v σ' M' q rfl x1 x2 x3) ha1 hb1 ha2 hb2
/-- what a run starts from -/
def PrS (t n : Nat) (l : List Int32) (w : List (Nat × Nat × Nat)) (E : List En) (X fs : Nat → Nat) (vs : Nat → Int32) (m d B : Nat) (σ : st_S) (M : Nat → Nat → Int32) (a b s co : Nat) : Prop := MF σ t n M l w E X fs ∧ Mtt l w E X fs vs σ M ∧ (∀ v, v < 12 → gE σ 43 v = vs v) ∧ DJ E X fs σ m a b ∧ d + nfo E m ≤ 60 ∧ s + co + phi2 E X σ m < B
theorem PrS.mo {σ : st_S} {M : Nat → Nat → Int32} {a b a' b' s co co' : Nat} (h : PrS t n l w E X fs vs m d B σ M a b s co) (ha : a ≤ a') (hb : b' ≤ b) (hc : co' ≤ co) : PrS t n l w E X fs vs m d B σ M a' b' s co' := by
  obtain ⟨h1, h2, h3, h4, h5, h6⟩ := h
  exact ⟨h1, h2, h3, h4.sub ha hb (fun j _ _ z => Or.inl z), h5, by omega⟩
theorem PrS.nx {σ σ1 : st_S} {M M1 : Nat → Nat → Int32} {a b a' b' s st e a1 b1 co c1 c2 q : Nat} (h : PrS t n l w E X fs vs m d B σ M a b s co) (r : Rn1 N t n l w E X fs vs m d B σ M s st e a1 b1 q σ1 M1) (hq : q + phi2 E X σ1 m ≤ c1 + phi2 E X σ m) (hc : c1 + c2 ≤ co) (ha : a ≤ a') (hb : b' ≤ b) : PrS t n l w E X fs vs m d B σ1 M1 a' b' (s + q) c2 := by
  obtain ⟨h1, h2, h3, h4, h5, h6⟩ := h
  obtain ⟨x1, x2, x3, x4, x5, x6, x7, x8, x9, x10⟩ := r
  exact ⟨x2, x3, fun v hv => by rw [x5.1]; exact h3 v hv, h4.sub ha hb x10, h5, by omega⟩
/-- a value stays -/
theorem Rn1.kp {σ σ1 σ0 : st_S} {M M1 : Nat → Nat → Int32} {s st e a1 b1 q a b i : Nat} {v : Int64 × Int64} (r : Rn1 N t n l w E X fs vs m d B σ M s st e a1 b1 q σ1 M1) (hd : DJ E X fs σ0 m a b) (hi : a ≤ i) (hi2 : i < b) (ho : i < a1 ∨ b1 ≤ i) (h : Va M i v) : Va M1 i v := by
  obtain ⟨x1, x2, x3, x4, x5, x6, x7, x8, x9, x10⟩ := r
  unfold Va
  rw [x7 i ho (fun j hj hE hs => by have := hd j hE hs (Or.inr hj); omega)]
  exact h
theorem Rn1.st {σ σ1 : st_S} {M M1 : Nat → Nat → Int32} {s st e a1 b1 q : Nat} (r : Rn1 N t n l w E X fs vs m d B σ M s st e a1 b1 q σ1 M1) : Sta M M1 := r.2.2.2.2.2.2.2.1
/-- a node is worked -/
theorem EvG.wo (ht : t = 4 ∨ t = 20) (hB : B < 100000) {σ : st_S} {M : Nat → Nat → Int32} {s i op a b co : Nat} {v : Int64 × Int64} (h : PrS t n l w E X fs vs m d B σ M a b s co) (hi : a ≤ i) (hi2 : i < b) (hn : i < n) (ho : op < 4 ∧ op ≠ 3 ∨ 8 < op ∧ op < 23) (ho0 : op ≠ 0) (e0 : M i 0 = nI op) (hw : Wk N t n σ M i op v) (hc : 1 ≤ co) : EvG N t n l w E X fs vs m d B σ M s i (i + 1) a b i co (.inr v) := by
  obtain ⟨h1, h2, h3, h4, h5, h6⟩ := h
  obtain ⟨σ', M', r1, r2, r3⟩ := Rn1.wk (N := N) (d := d) (B := B) (s := s) ht h1 h2 h4 hi hi2 hn (by rw [e0]; exact nik (m := 0) (by omega) (by decide) ho0) (fun k' => L70w (k := k') h1.1 hn ho e0 (by omega) hB) hw
  exact ⟨σ', M', 1, r1.wide hi (by omega), r2, by rw [phi2_eq m (fun j _ => r3 j)]; omega⟩
theorem EvG.nu (ht : t = 4 ∨ t = 20) (hN : 300 < N) (hB : B < 100000) {σ : st_S} {M : Nat → Nat → Int32} {s i op x y pl a b co : Nat} {u v : Int64 × Int64} (h : PrS t n l w E X fs vs m d B σ M a b s co) (hi : a ≤ i) (hi2 : i < b) (hn : i < n) (ho : 4 ≤ op) (ho2 : op ≤ 8) (nd : Nd M i op pl (nI x) (nI y) (-1)) (hx : x < n) (hy : y < n) (hm5 : M i 5 = 1) (hu : Va M x u) (hv : Va M y v) (ku : okv 1 u) (kv : okv 1 v) (hc : 1 ≤ co) : EvG N t n l w E X fs vs m d B σ M s i (i + 1) a b i co (vr pl op u v) := by
  obtain ⟨h1, h2, h3, h4, h5, h6⟩ := h
  have R := Rn1.num (N := N) (d := d) (B := B) (s := s) ht hN h1 h2 h4 hi hi2 hn ho ho2 nd hx hy hm5 hu hv ku kv (by omega) hB
  unfold vr
  rw [if_neg (by omega), if_neg (by omega), if_neg (by omega)]
  cases hr : rk op u.1 u.2 v.1 v.2 with
  | inl f =>
    rw [hr] at R
    obtain ⟨σ', M', r⟩ := R
    exact ⟨σ', M', 1, r, by omega⟩
  | inr z =>
    rw [hr] at R
    obtain ⟨σ', M', r1, r2, r3⟩ := R
    exact ⟨σ', M', 1, r1.wide hi (by omega), r2, by rw [phi2_eq m (fun j _ => r3 j)]; omega⟩
/-- formulas named stand before the m-th -/
def NBf (l : List Int32) (w : List (Nat × Nat × Nat)) (E : List En) (m : Nat) : Tr → Prop
  | .leaf k => kK w k = 1 → ∀ j, fnd l w E k = some j → (E.getD j eN).2.1 = 2 → j < m
  | .branch n l' r => (un (n % 64) = false → NBf l w E m l') ∧ NBf l w E m r
theorem NBl.nf : ∀ {T : Tr}, NBl l w E m T → NBf l w E m T := by
  intro T
  induction T with
  | leaf k =>
    intro h k1 j hj _
    obtain ⟨j', z1, z2⟩ := h k1
    rw [hj] at z1
    injection z1 with z1
    omega
  | branch n l' r il ir => intro h; exact ⟨fun z => il (h.1 z), ir h.2⟩
/-- what is given; cc: constants alone are spoken of -/
def Gv (N t n : Nat) (l : List Int32) (w : List (Nat × Nat × Nat)) (E : List En) (X fs : Nat → Nat) (vs : Nat → Int32) (B : Nat) (cc : Bool) : Prop := (t = 4 ∨ t = 20) ∧ 300 < N ∧ n ≤ 24600 ∧ B < 100000 ∧ SF l w E X fs ∧ Nvk l w ∧ (∀ j, j < E.length → (cc = true → (E.getD j eN).2.1 = 1) → ∀ v, fvn l w E vs j = .inr v → okv (if (E.getD j eN).2.2.1 then 2 else 1) v)
/-- a tree's run comes to its value -/
def EvP (N t n : Nat) (l : List Int32) (w : List (Nat × Nat × Nat)) (E : List En) (X fs : Nat → Nat) (vs : Nat → Int32) (B : Nat) (cc : Bool) (m : Nat) (T : Tr) : Prop := ∀ (co : Bool) (σ : st_S) (M : Nat → Nat → Int32) (a d s : Nat) (c : Bool) (kd : Nat), (cc = true → co = true) → Wf w T → NBf l w E m T → chk l w E co T = .inr kd → kd ≠ 0 → Cr l w E X M T a → a + tln T ≤ n → PrS t n l w E X fs vs m d B σ M a (a + tln T) s (2 * tln T) → EvO N t n l w E X fs vs m d B σ M s T a c (evl l w E (fvn l w E vs) T c)
end EV
