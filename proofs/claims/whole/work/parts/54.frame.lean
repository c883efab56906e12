/-! FRAMES: what a run may change; how the room grows with the growing arrays -/
def gra : List Nat := [3, 6, 7, 8, 9, 10, 11, 12, 13, 22, 23, 24, 25, 26, 27, 28, 29, 54, 55, 56, 57, 58, 59, 60, 61, 68, 70, 72, 74, 76, 78, 81, 83, 85, 87, 89, 91, 110, 112, 114, 117, 119, 121, 123, 125, 127, 146, 148, 150, 152, 154, 156, 158, 160, 162, 166, 176, 178, 180]
/-- the lengths of the growing arrays together -/
def Ph (σ : st_S) : Nat := (gra.map (gN σ)).sum
/-- the room: each growth doubles, so what was made stays below twice the lengths; c throws -/
def Po (c : Nat) (σ σ' : st_S) : Prop := gB σ' + 2 * Ph σ + gA σ ≤ gB σ + 2 * Ph σ' + gA σ' + 6 * c ∧ 16 * gA σ' + Ph σ ≤ 16 * gA σ + Ph σ' + 16 * c ∧ gC σ' + gA σ ≤ gC σ + gA σ'
def Fr (c : Nat) (I J R : List (Nat × Nat)) (A L : List Nat) (σ σ' : st_S) : Prop :=
  (∀ a k, (a, k) ∉ I → gI σ' a k = gI σ a k) ∧ (∀ a k, (a, k) ∉ J → gJ σ' a k = gJ σ a k) ∧ (∀ a k, (a, k) ∉ R → gR σ' a k = gR σ a k) ∧ (∀ a, a ∉ A → gN σ' a = gN σ a ∧ gE σ' a = gE σ a) ∧ (∀ a, a ∉ L → gL σ' a = gL σ a) ∧ gF σ' 0 = gF σ 0 ∧ Po c σ σ'
theorem Po.rf (σ : st_S) : Po 0 σ σ := ⟨by omega, by omega, by omega⟩
theorem Po.tr {c c' : Nat} {σ σ' σ'' : st_S} (h : Po c σ σ') (h' : Po c' σ' σ'') : Po (c + c') σ σ'' := by
  obtain ⟨a1, a2, a3⟩ := h
  obtain ⟨b1, b2, b3⟩ := h'
  exact ⟨by omega, by omega, by omega⟩
theorem Ph_eq {σ σ' : st_S} (h : gN σ' = gN σ) : Ph σ' = Ph σ := by unfold Ph; rw [h]
theorem Po.of {σ σ' : st_S} (hN : gN σ' = gN σ) (hB : gB σ' = gB σ) (hA : gA σ' = gA σ) (hC : gC σ' = gC σ) : Po 0 σ σ' := by
  unfold Po
  rw [Ph_eq hN, hB, hA, hC]
  exact ⟨by omega, by omega, by omega⟩
section FR
variable {c c' : Nat} {I J R I' J' R' : List (Nat × Nat)} {A L A' L' : List Nat} {σ σ' σ'' : st_S}
theorem Fr.rf (σ : st_S) : Fr 0 I J R A L σ σ := ⟨fun _ _ _ => rfl, fun _ _ _ => rfl, fun _ _ _ => rfl, fun _ _ => ⟨rfl, rfl⟩, fun _ _ => rfl, rfl, Po.rf σ⟩
theorem Fr.tr (h : Fr c I J R A L σ σ') (h' : Fr c' I J R A L σ' σ'') : Fr (c + c') I J R A L σ σ'' := by
  obtain ⟨a1, a2, a3, a4, a5, a6, a7⟩ := h
  obtain ⟨b1, b2, b3, b4, b5, b6, b7⟩ := h'
  exact ⟨fun a k q => (b1 a k q).trans (a1 a k q), fun a k q => (b2 a k q).trans (a2 a k q), fun a k q => (b3 a k q).trans (a3 a k q), fun a q => ⟨(b4 a q).1.trans (a4 a q).1, (b4 a q).2.trans (a4 a q).2⟩, fun a q => (b5 a q).trans (a5 a q), b6.trans a6, a7.tr b7⟩
theorem Fr.t0 (h : Fr 0 I J R A L σ σ') (h' : Fr c I J R A L σ' σ'') : Fr c I J R A L σ σ'' := by
  have e := h.tr h'
  rw [Nat.zero_add] at e
  exact e
theorem Fr.mo (h : Fr c I J R A L σ σ') (hI : ∀ x ∈ I, x ∈ I') (hJ : ∀ x ∈ J, x ∈ J') (hR : ∀ x ∈ R, x ∈ R') (hA : ∀ x ∈ A, x ∈ A') (hL : ∀ x ∈ L, x ∈ L') : Fr c I' J' R' A' L' σ σ' := by
  obtain ⟨a1, a2, a3, a4, a5, a6, a7⟩ := h
  exact ⟨fun a k q => a1 a k fun e => q (hI _ e), fun a k q => a2 a k fun e => q (hJ _ e), fun a k q => a3 a k fun e => q (hR _ e), fun a q => a4 a fun e => q (hA _ e), fun a q => a5 a fun e => q (hL _ e), a6, a7⟩
theorem Fr.i (σ : st_S) {a k : Nat} (v : Int32) (h : (a, k) ∈ I) : Fr 0 I J R A L σ (st_i σ a k v) := by
  refine ⟨fun b j q => ?_, fun _ _ _ => rfl, fun _ _ _ => rfl, fun _ _ => ⟨rfl, rfl⟩, fun _ _ => rfl, rfl, Po.of rfl rfl rfl rfl⟩
  show st_u σ.1 a k v b j = σ.1 b j
  by_cases e : b = a
  · by_cases e2 : j = k
    · subst e e2; exact absurd h q
    · exact st_u_k _ _ _ _ e2
  · exact st_u_a _ _ _ _ e
theorem Fr.e (σ : st_S) {a : Nat} (j : Nat) (v : Int32) (h : a ∈ A) : Fr 0 I J R A L σ (st_e σ a j v) := by
  refine ⟨fun _ _ _ => rfl, fun _ _ _ => rfl, fun _ _ _ => rfl, fun b q => ⟨rfl, funext fun i => ?_⟩, fun _ _ => rfl, rfl, Po.of rfl rfl rfl rfl⟩
  show st_u σ.2.2.2.2.1 a j v b i = σ.2.2.2.2.1 b i
  exact st_u_a _ _ _ _ fun e => q (e ▸ h)
theorem Fr.E (σ : st_S) {a : Nat} (j : Nat) (v : Int64) (h : a ∈ L) : Fr 0 I J R A L σ (st_E σ a j v) := by
  refine ⟨fun _ _ _ => rfl, fun _ _ _ => rfl, fun _ _ _ => rfl, fun b q => ⟨rfl, rfl⟩, fun b q => funext fun i => ?_, rfl, Po.of rfl rfl rfl rfl⟩
  show st_u σ.2.2.2.2.2.1 a j v b i = σ.2.2.2.2.2.1 b i
  exact st_u_a _ _ _ _ fun e => q (e ▸ h)
theorem Fr.n (σ : st_S) : Fr 1 I J R A L σ (st_n σ 1 6) := by
  refine ⟨fun _ _ _ => rfl, fun _ _ _ => rfl, fun _ _ _ => rfl, fun _ _ => ⟨rfl, rfl⟩, fun _ _ => rfl, rfl, ?_⟩
  show gB σ + 6 + 2 * Ph σ + gA σ ≤ gB σ + 2 * Ph σ + (gA σ + 1) + 6 * 1 ∧ 16 * (gA σ + 1) + Ph σ ≤ 16 * gA σ + Ph σ + 16 * 1 ∧ gC σ + gA σ ≤ gC σ + (gA σ + 1)
  exact ⟨by omega, by omega, by omega⟩
end FR
/-- one array of the list changed its length -/
theorem sum_one {f g : Nat → Nat} {b : Nat} (h : ∀ a, a ≠ b → g a = f a) : ∀ l : List Nat, l.Nodup → b ∈ l → (l.map g).sum + f b = (l.map f).sum + g b := by
  have h0 : ∀ l : List Nat, b ∉ l → (l.map g).sum = (l.map f).sum := by
    intro l
    induction l with
    | nil => intro _; rfl
    | cons x r ih =>
      intro hb
      rw [List.map_cons, List.map_cons, List.sum_cons, List.sum_cons, h x (fun e => hb (e ▸ List.mem_cons_self)), ih (fun e => hb (List.mem_cons_of_mem _ e))]
  intro l
  induction l with
  | nil => intro _ hb; cases hb
  | cons x r ih =>
    intro hn hb
    obtain ⟨n1, n2⟩ := List.nodup_cons.mp hn
    rw [List.map_cons, List.map_cons, List.sum_cons, List.sum_cons]
    by_cases e : x = b
    · subst e
      rw [h0 r n1]
      omega
    · have hb : b ∈ r := by
        rcases List.mem_cons.mp hb with q | q
        · exact absurd q.symm e
        · exact q
      have := ih n2 hb
      rw [h x e]
      omega
theorem gra_nd : gra.Nodup := by decide +kernel
theorem Ph_one {σ σ' : st_S} {b : Nat} (h : ∀ a, a ≠ b → gN σ' a = gN σ a) (hb : b ∈ gra) : Ph σ' + gN σ b = Ph σ + gN σ' b := sum_one h gra gra_nd hb
/-- a list of numbers, held in object t and array b -/
def Nu (σ : st_S) (t b : Nat) (l : List Int32) : Prop := gI σ t 1 = nI l.length ∧ l.length ≤ gN σ b ∧ 16 ≤ gN σ b ∧ ∀ j (h : j < l.length), gE σ b j = l[j]
/-- a list of numbers stays, if its two cells do -/
theorem Nu.fr {σ σ' : st_S} {t b : Nat} {l : List Int32} (h : Nu σ t b l) (h1 : gI σ' t 1 = gI σ t 1) (h2 : gN σ' b = gN σ b) (h3 : gE σ' b = gE σ b) : Nu σ' t b l := by
  obtain ⟨a1, a2, a3, a4⟩ := h
  exact ⟨h1.trans a1, by rw [h2]; exact a2, by rw [h2]; exact a3, fun j q => by rw [h3]; exact a4 j q⟩
theorem Po_gw {B A C P P' n : Nat} (e : P' + n = P + 2 * n) (h : 16 ≤ n) : B + 2 * n + 2 * P + A ≤ B + 2 * P' + (A + 1) + 6 * 0 ∧ 16 * (A + 1) + P ≤ 16 * A + P' + 16 * 0 ∧ C + 1 + A ≤ C + (A + 1) := ⟨by omega, by omega, by omega⟩
